def fn_Codewords_begin (p1 : Int32) (p2 : Int32) (vt_version : Int32) (vt_total : Int32) (vt_holds : Int32) (vt_blocks : Int32) (vt_checks : Int32) (vt_shortLength : Int32) (vt_shortBlocks : Int32) (vt_filled : Int32) (vt_waiting : Int32) (vt_waitingBits : Int32) : Option (Int32 × Int32 × Int32 × Int32 × Int32 × Int32 × Int32 × Int32 × Int32 × Int32) :=
  sq_cb1 (fn_Version_codewords p2) fun r1 => sq_cb1 (fn_Version_holds p1 p2) fun r3 => sq_cb1 (fn_Version_blocks p1 p2) fun r5 => sq_bd (sq_max (1 : Int32) r5) fun x7 => sq_cb1 (fn_Version_checks p1 p2) fun r8 => sq_bd (sq_min (30 : Int32) r8) fun x10 => sq_gz x7 <| sq_bd (r3 / x7) fun x12 => sq_gz x7 <| sq_bd (sq_rem r3 x7) fun x14 => sq_bd (x7 - x14) fun x15 => some (p2, r1, r3, x7, x10, x12, x15, (0 : Int32), (0 : Int32), (0 : Int32))
abbrev ww_Codewords_begin (qt qt_field qt_bytes qt_generator qt_rest : Nat) (vt_version : Int32) (vt_total : Int32) (vt_holds : Int32) (vt_blocks : Int32) (vt_checks : Int32) (vt_shortLength : Int32) (vt_shortBlocks : Int32) (vt_filled : Int32) (vt_waiting : Int32) (vt_waitingBits : Int32) : va_W := [(qt, .inr (3, [.ref qt_field, .ref qt_bytes, .ref qt_generator, .ref qt_rest, .int vt_version, .int vt_total, .int vt_holds, .int vt_blocks, .int vt_checks, .int vt_shortLength, .int vt_shortBlocks, .int vt_filled, .int vt_waiting, .int vt_waitingBits]))]

def rm_Codewords_begin : Room := { frames := 3, cells := 0, slots := 0, locals := 66 }
abbrev qc_Codewords_begin (dC : Nat → ClassId) (dI : Nat → Nat → Nat) (A : Nat → Prop) (qt qt_field qt_bytes qt_generator qt_rest : Nat) (vt_version : Int32) (vt_total : Int32) (vt_holds : Int32) (vt_blocks : Int32) (vt_checks : Int32) (vt_shortLength : Int32) (vt_shortBlocks : Int32) (vt_filled : Int32) (vt_waiting : Int32) (vt_waitingBits : Int32) : Array Value → State → Outcome → State → Prop := va_Qv (fun (_ : Unit) => True) (fun _ t => va_P (dC, dI) cl_All (ww_Codewords_begin qt qt_field qt_bytes qt_generator qt_rest vt_version vt_total vt_holds vt_blocks vt_checks vt_shortLength vt_shortBlocks vt_filled vt_waiting vt_waitingBits) t.heap ∧ va_D A (ww_Codewords_begin qt qt_field qt_bytes qt_generator qt_rest vt_version vt_total vt_holds vt_blocks vt_checks vt_shortLength vt_shortBlocks vt_filled vt_waiting vt_waitingBits)) A

set_option maxHeartbeats 4000000 in
set_option maxRecDepth 100000 in
theorem kt_Codewords_begin (l : Launch) (dC : Nat → ClassId) (dI : Nat → Nat → Nat) (qt qt_field qt_bytes qt_generator qt_rest : Nat) (vt_version : Int32) (vt_total : Int32) (vt_holds : Int32) (vt_blocks : Int32) (vt_checks : Int32) (vt_shortLength : Int32) (vt_shortBlocks : Int32) (vt_filled : Int32) (vt_waiting : Int32) (vt_waitingBits : Int32) (p1 : Int32) (p2 : Int32) (tt : Nat → Nat) (sz : Nat) (nvt_version : Int32) (nvt_total : Int32) (nvt_holds : Int32) (nvt_blocks : Int32) (nvt_checks : Int32) (nvt_shortLength : Int32) (nvt_shortBlocks : Int32) (nvt_filled : Int32) (nvt_waiting : Int32) (nvt_waitingBits : Int32) (Hf : fn_Codewords_begin p1 p2 vt_version vt_total vt_holds vt_blocks vt_checks vt_shortLength vt_shortBlocks vt_filled vt_waiting vt_waitingBits = some (nvt_version, nvt_total, nvt_holds, nvt_blocks, nvt_checks, nvt_shortLength, nvt_shortBlocks, nvt_filled, nvt_waiting, nvt_waitingBits)) : Met l y_Codewords_begin w_Codewords_begin rm_Codewords_begin (va_Pc [.ref qt, .int p1, .int p2] (fun U => U.heap.size = sz ∧ va_P (dC, dI) cl_All (ww_Codewords_begin qt qt_field qt_bytes qt_generator qt_rest vt_version vt_total vt_holds vt_blocks vt_checks vt_shortLength vt_shortBlocks vt_filled vt_waiting vt_waitingBits) U.heap ∧ va_K (dC, dI) cl_All [] U ∧ va_D (fun _ => True) (ww_Codewords_begin qt qt_field qt_bytes qt_generator qt_rest vt_version vt_total vt_holds vt_blocks vt_checks vt_shortLength vt_shortBlocks vt_filled vt_waiting vt_waitingBits) ∧ sx_T tt (va_A (ww_Codewords_begin qt qt_field qt_bytes qt_generator qt_rest vt_version vt_total vt_holds vt_blocks vt_checks vt_shortLength vt_shortBlocks vt_filled vt_waiting vt_waitingBits) sz) U U.heap)) (qc_Codewords_begin dC dI (va_A (ww_Codewords_begin qt qt_field qt_bytes qt_generator qt_rest vt_version vt_total vt_holds vt_blocks vt_checks vt_shortLength vt_shortBlocks vt_filled vt_waiting vt_waitingBits) sz) qt qt_field qt_bytes qt_generator qt_rest nvt_version nvt_total nvt_holds nvt_blocks nvt_checks nvt_shortLength nvt_shortBlocks nvt_filled nvt_waiting nvt_waitingBits) 0 0 (va_A (ww_Codewords_begin qt qt_field qt_bytes qt_generator qt_rest vt_version vt_total vt_holds vt_blocks vt_checks vt_shortLength vt_shortBlocks vt_filled vt_waiting vt_waitingBits) sz) := by
  refine Met.ofW (cc := prog_2_method_2_code) (maxL := 3) (ret := none) (by decide) rfl ?_
  intro p e s m args below meth c s₁ B hml hv
  obtain ⟨rfl, hsz, hP, hK, hD0, hX⟩ := hv
  have hx := B.exec; have hb := B.bytes; have hr := B.returns; have hlocks := B.notSynchronized
  have ht : ∀ w ∈ lw_g, w.before _ s = true := fun w h => atoms_spec (ws := w_Codewords_begin) B.pre w (List.mem_cons_of_mem _ h)
  have hown : s.vm.findClass "SquareSymbols$Codewords" = some m.cls := findClass_of_methodNamed B.named
  subst hsz
  have hD := hD0.self (sz := s.heap.size)
  generalize hAe : va_A (ww_Codewords_begin qt qt_field qt_bytes qt_generator qt_rest vt_version vt_total vt_holds vt_blocks vt_checks vt_shortLength vt_shortBlocks vt_filled vt_waiting vt_waitingBits) s.heap.size = A at hD hX ⊢
  have hA : ∀ q : Nat, s.heap.size ≤ q → A q := fun q h => by rw [← hAe]; exact Or.inr h
  have hS : va_S A s.heap s.heap [] := va_S.rf
  have hl := lv_entry ([.ref qt, .int p1, .int p2]) (n := 3) (Nat.le_of_ble_eq_true rfl)
  rw [lg_entry_eq]
  generalize (lg_sl ([.ref qt, .int p1, .int p2]) ++ List.replicate (3 - (lg_sl ([.ref qt, .int p1, .int p2])).length) Slot.unset).toArray = ls at hl ⊢
  have hl : lv_has ls 3 [(0, .ref qt), (1, .int p1), (2, .int p2)] := hl
  refine lv_aload_n hx hb d_Codewords_begin_0 rfl (lv_at hl 0 rfl) ?_
  refine lv_iload_n hx hb d_Codewords_begin_1 rfl (lv_at hl 2 rfl) ?_
  refine va_put (D := (dC, dI)) (ci := 3) (v := .int p2) (ty := .int) (C := R_Codewords) (T := F_Codewords) (N := 14) hx hb ht i_Codewords t_Codewords t_Codewords_ok n_Codewords hown hK hP hD hS 0 rfl rfl 4 (by decide) (ht _ tb_108) (fun _ h9 => h9) rfl (by decide +kernel) rfl rfl (Nat.le_of_ble_eq_true rfl) d_Codewords_begin_2 (fun H locs hP hD hS => ?_)
  replace hP : va_P (dC, dI) cl_All (ww_Codewords_begin qt qt_field qt_bytes qt_generator qt_rest p2 vt_total vt_holds vt_blocks vt_checks vt_shortLength vt_shortBlocks vt_filled vt_waiting vt_waitingBits) H := hP
  replace hD : va_D A (ww_Codewords_begin qt qt_field qt_bytes qt_generator qt_rest p2 vt_total vt_holds vt_blocks vt_checks vt_shortLength vt_shortBlocks vt_filled vt_waiting vt_waitingBits) := hD
  refine lv_aload_n hx hb d_Codewords_begin_5 rfl (lv_at hl 0 rfl) ?_
  refine lv_iload_n hx hb d_Codewords_begin_6 rfl (lv_at hl 2 rfl) ?_
  obtain ⟨r1, hc2, Hf⟩ := sq_cb1_e Hf
  refine sq_roi (va_runS (As := [.int p2]) (rest := [.ref qt]) ⟨hx, hb, hml, hown, ht⟩ (kt_Version_codewords l dC dI p2 r1 hc2) (va_cwS 1 ht (sq_gS tb_400 tb_401 tb_16 tb_402) rfl rfl rfl (by decide +kernel) ⟨Nat.le_of_ble_eq_true rfl, Nat.le_of_ble_eq_true rfl⟩) (sq_roS (hP.sub (ws' := ([] : va_W)) [] rfl) (hK.sub (tys' := []) [] rfl)) rfl rfl hl.1 rfl (lv_room (Nat.le_of_ble_eq_true rfl)) d_Codewords_begin_7 ⟨Nat.le_of_ble_eq_true rfl, Nat.le_of_ble_eq_true rfl⟩) ?_
  refine va_put (D := (dC, dI)) (ci := 3) (v := .int r1) (ty := .int) (C := R_Codewords) (T := F_Codewords) (N := 14) hx hb ht i_Codewords t_Codewords t_Codewords_ok n_Codewords hown hK hP hD hS 0 rfl rfl 5 (by decide) (ht _ tb_109) (fun _ h9 => h9) rfl (by decide +kernel) rfl rfl (Nat.le_of_ble_eq_true rfl) d_Codewords_begin_10 (fun H locs hP hD hS => ?_)
  replace hP : va_P (dC, dI) cl_All (ww_Codewords_begin qt qt_field qt_bytes qt_generator qt_rest p2 r1 vt_holds vt_blocks vt_checks vt_shortLength vt_shortBlocks vt_filled vt_waiting vt_waitingBits) H := hP
  replace hD : va_D A (ww_Codewords_begin qt qt_field qt_bytes qt_generator qt_rest p2 r1 vt_holds vt_blocks vt_checks vt_shortLength vt_shortBlocks vt_filled vt_waiting vt_waitingBits) := hD
  refine lv_aload_n hx hb d_Codewords_begin_13 rfl (lv_at hl 0 rfl) ?_
  refine lv_iload_n hx hb d_Codewords_begin_14 rfl (lv_at hl 1 rfl) ?_
  refine lv_iload_n hx hb d_Codewords_begin_15 rfl (lv_at hl 2 rfl) ?_
  obtain ⟨r3, hc4, Hf⟩ := sq_cb1_e Hf
  refine sq_roi (va_runS (As := [.int p1, .int p2]) (rest := [.ref qt]) ⟨hx, hb, hml, hown, ht⟩ (kt_Version_holds l dC dI p1 p2 tt r3 hc4) (va_cwS 2 ht (sq_gS tb_403 tb_404 tb_16 tb_405) rfl rfl rfl (by decide +kernel) ⟨Nat.le_of_ble_eq_true rfl, Nat.le_of_ble_eq_true rfl⟩) (sq_roSX (hP.sub (ws' := ([] : va_W)) [] rfl) (hK.sub (tys' := []) [] rfl) hX hS (fun _ h => h.elim)) rfl rfl hl.1 rfl (lv_room (Nat.le_of_ble_eq_true rfl)) d_Codewords_begin_16 ⟨Nat.le_of_ble_eq_true rfl, Nat.le_of_ble_eq_true rfl⟩) ?_
  refine va_put (D := (dC, dI)) (ci := 3) (v := .int r3) (ty := .int) (C := R_Codewords) (T := F_Codewords) (N := 14) hx hb ht i_Codewords t_Codewords t_Codewords_ok n_Codewords hown hK hP hD hS 0 rfl rfl 6 (by decide) (ht _ tb_110) (fun _ h9 => h9) rfl (by decide +kernel) rfl rfl (Nat.le_of_ble_eq_true rfl) d_Codewords_begin_19 (fun H locs hP hD hS => ?_)
  replace hP : va_P (dC, dI) cl_All (ww_Codewords_begin qt qt_field qt_bytes qt_generator qt_rest p2 r1 r3 vt_blocks vt_checks vt_shortLength vt_shortBlocks vt_filled vt_waiting vt_waitingBits) H := hP
  replace hD : va_D A (ww_Codewords_begin qt qt_field qt_bytes qt_generator qt_rest p2 r1 r3 vt_blocks vt_checks vt_shortLength vt_shortBlocks vt_filled vt_waiting vt_waitingBits) := hD
  refine lv_aload_n hx hb d_Codewords_begin_22 rfl (lv_at hl 0 rfl) ?_
  refine lv_iconst (v := (1 : Int32)) hx hb d_Codewords_begin_23 (by decide) ?_
  refine lv_iload_n hx hb d_Codewords_begin_24 rfl (lv_at hl 1 rfl) ?_
  refine lv_iload_n hx hb d_Codewords_begin_25 rfl (lv_at hl 2 rfl) ?_
  obtain ⟨r5, hc6, Hf⟩ := sq_cb1_e Hf
  refine sq_roi (va_runS (As := [.int p1, .int p2]) (rest := [.int (1 : Int32), .ref qt]) ⟨hx, hb, hml, hown, ht⟩ (kt_Version_blocks l dC dI p1 p2 tt r5 hc6) (va_cwS 2 ht (sq_gS tb_423 tb_408 tb_16 tb_409) rfl rfl rfl (by decide +kernel) ⟨Nat.le_of_ble_eq_true rfl, Nat.le_of_ble_eq_true rfl⟩) (sq_roSX (hP.sub (ws' := ([] : va_W)) [] rfl) (hK.sub (tys' := []) [] rfl) hX hS (fun _ h => h.elim)) rfl rfl hl.1 rfl (lv_room (Nat.le_of_ble_eq_true rfl)) d_Codewords_begin_26 ⟨Nat.le_of_ble_eq_true rfl, Nat.le_of_ble_eq_true rfl⟩) ?_
  refine va_mmax hx hb (by rw [hml]; exact hl.1.symm) hown (ht _ tb_424) (ht _ tb_416) (ht _ tb_17) (ht _ tb_417) (Nat.le_of_ble_eq_true rfl) (Nat.le_of_ble_eq_true rfl) (Nat.zero_le _) (Nat.zero_le _) d_Codewords_begin_29 ?_
  obtain ⟨x7, ex7, Hf⟩ := sq_bd_e Hf
  refine sq_top ex7 ?_
  refine va_put (D := (dC, dI)) (ci := 3) (v := .int x7) (ty := .int) (C := R_Codewords) (T := F_Codewords) (N := 14) hx hb ht i_Codewords t_Codewords t_Codewords_ok n_Codewords hown hK hP hD hS 0 rfl rfl 7 (by decide) (ht _ tb_111) (fun _ h9 => h9) rfl (by decide +kernel) rfl rfl (Nat.le_of_ble_eq_true rfl) d_Codewords_begin_32 (fun H locs hP hD hS => ?_)
  replace hP : va_P (dC, dI) cl_All (ww_Codewords_begin qt qt_field qt_bytes qt_generator qt_rest p2 r1 r3 x7 vt_checks vt_shortLength vt_shortBlocks vt_filled vt_waiting vt_waitingBits) H := hP
  replace hD : va_D A (ww_Codewords_begin qt qt_field qt_bytes qt_generator qt_rest p2 r1 r3 x7 vt_checks vt_shortLength vt_shortBlocks vt_filled vt_waiting vt_waitingBits) := hD
  refine lv_aload_n hx hb d_Codewords_begin_35 rfl (lv_at hl 0 rfl) ?_
  refine lv_bipush (v := (30 : Int32)) hx hb d_Codewords_begin_36 (by decide) ?_
  refine lv_iload_n hx hb d_Codewords_begin_38 rfl (lv_at hl 1 rfl) ?_
  refine lv_iload_n hx hb d_Codewords_begin_39 rfl (lv_at hl 2 rfl) ?_
  obtain ⟨r8, hc9, Hf⟩ := sq_cb1_e Hf
  refine sq_roi (va_runS (As := [.int p1, .int p2]) (rest := [.int (30 : Int32), .ref qt]) ⟨hx, hb, hml, hown, ht⟩ (kt_Version_checks l dC dI p1 p2 tt r8 hc9) (va_cwS 2 ht (sq_gS tb_425 tb_419 tb_16 tb_420) rfl rfl rfl (by decide +kernel) ⟨Nat.le_of_ble_eq_true rfl, Nat.le_of_ble_eq_true rfl⟩) (sq_roSX (hP.sub (ws' := ([] : va_W)) [] rfl) (hK.sub (tys' := []) [] rfl) hX hS (fun _ h => h.elim)) rfl rfl hl.1 rfl (lv_room (Nat.le_of_ble_eq_true rfl)) d_Codewords_begin_40 ⟨Nat.le_of_ble_eq_true rfl, Nat.le_of_ble_eq_true rfl⟩) ?_
  refine va_mmin hx hb (by rw [hml]; exact hl.1.symm) hown (ht _ tb_426) (ht _ tb_427) (ht _ tb_17) (ht _ tb_428) (Nat.le_of_ble_eq_true rfl) (Nat.le_of_ble_eq_true rfl) (Nat.zero_le _) (Nat.zero_le _) d_Codewords_begin_43 ?_
  obtain ⟨x10, ex10, Hf⟩ := sq_bd_e Hf
  refine sq_top ex10 ?_
  refine va_put (D := (dC, dI)) (ci := 3) (v := .int x10) (ty := .int) (C := R_Codewords) (T := F_Codewords) (N := 14) hx hb ht i_Codewords t_Codewords t_Codewords_ok n_Codewords hown hK hP hD hS 0 rfl rfl 8 (by decide) (ht _ tb_112) (fun _ h9 => h9) rfl (by decide +kernel) rfl rfl (Nat.le_of_ble_eq_true rfl) d_Codewords_begin_46 (fun H locs hP hD hS => ?_)
  replace hP : va_P (dC, dI) cl_All (ww_Codewords_begin qt qt_field qt_bytes qt_generator qt_rest p2 r1 r3 x7 x10 vt_shortLength vt_shortBlocks vt_filled vt_waiting vt_waitingBits) H := hP
  replace hD : va_D A (ww_Codewords_begin qt qt_field qt_bytes qt_generator qt_rest p2 r1 r3 x7 x10 vt_shortLength vt_shortBlocks vt_filled vt_waiting vt_waitingBits) := hD
  refine lv_aload_n hx hb d_Codewords_begin_49 rfl (lv_at hl 0 rfl) ?_
  refine lv_aload_n hx hb d_Codewords_begin_50 rfl (lv_at hl 0 rfl) ?_
  refine va_get (D := (dC, dI)) (ci := 3) (v := .int r3) (C := R_Codewords) (T := F_Codewords) (N := 14) hx hb ht i_Codewords hown hK hP 0 rfl rfl 6 (by decide) (ht _ tb_110) (fun _ h9 => h9) rfl d_Codewords_begin_51 ?_
  refine lv_aload_n hx hb d_Codewords_begin_54 rfl (lv_at hl 0 rfl) ?_
  refine va_get (D := (dC, dI)) (ci := 3) (v := .int x7) (C := R_Codewords) (T := F_Codewords) (N := 14) hx hb ht i_Codewords hown hK hP 0 rfl rfl 7 (by decide) (ht _ tb_111) (fun _ h9 => h9) rfl d_Codewords_begin_55 ?_
  obtain ⟨hz11, Hf⟩ := sq_gz_e Hf
  refine lv_idiv hx hb d_Codewords_begin_58 hz11 ?_
  obtain ⟨x12, ex12, Hf⟩ := sq_bd_e Hf
  refine sq_top ex12 ?_
  refine va_put (D := (dC, dI)) (ci := 3) (v := .int x12) (ty := .int) (C := R_Codewords) (T := F_Codewords) (N := 14) hx hb ht i_Codewords t_Codewords t_Codewords_ok n_Codewords hown hK hP hD hS 0 rfl rfl 9 (by decide) (ht _ tb_113) (fun _ h9 => h9) rfl (by decide +kernel) rfl rfl (Nat.le_of_ble_eq_true rfl) d_Codewords_begin_59 (fun H locs hP hD hS => ?_)
  replace hP : va_P (dC, dI) cl_All (ww_Codewords_begin qt qt_field qt_bytes qt_generator qt_rest p2 r1 r3 x7 x10 x12 vt_shortBlocks vt_filled vt_waiting vt_waitingBits) H := hP
  replace hD : va_D A (ww_Codewords_begin qt qt_field qt_bytes qt_generator qt_rest p2 r1 r3 x7 x10 x12 vt_shortBlocks vt_filled vt_waiting vt_waitingBits) := hD
  refine lv_aload_n hx hb d_Codewords_begin_62 rfl (lv_at hl 0 rfl) ?_
  refine lv_aload_n hx hb d_Codewords_begin_63 rfl (lv_at hl 0 rfl) ?_
  refine va_get (D := (dC, dI)) (ci := 3) (v := .int x7) (C := R_Codewords) (T := F_Codewords) (N := 14) hx hb ht i_Codewords hown hK hP 0 rfl rfl 7 (by decide) (ht _ tb_111) (fun _ h9 => h9) rfl d_Codewords_begin_64 ?_
  refine lv_aload_n hx hb d_Codewords_begin_67 rfl (lv_at hl 0 rfl) ?_
  refine va_get (D := (dC, dI)) (ci := 3) (v := .int r3) (C := R_Codewords) (T := F_Codewords) (N := 14) hx hb ht i_Codewords hown hK hP 0 rfl rfl 6 (by decide) (ht _ tb_110) (fun _ h9 => h9) rfl d_Codewords_begin_68 ?_
  refine lv_aload_n hx hb d_Codewords_begin_71 rfl (lv_at hl 0 rfl) ?_
  refine va_get (D := (dC, dI)) (ci := 3) (v := .int x7) (C := R_Codewords) (T := F_Codewords) (N := 14) hx hb ht i_Codewords hown hK hP 0 rfl rfl 7 (by decide) (ht _ tb_111) (fun _ h9 => h9) rfl d_Codewords_begin_72 ?_
  obtain ⟨hz13, Hf⟩ := sq_gz_e Hf
  refine lv_irem hx hb d_Codewords_begin_75 hz13 ?_
  obtain ⟨x14, ex14, Hf⟩ := sq_bd_e Hf
  refine sq_top ex14 ?_
  refine lv_isub hx hb d_Codewords_begin_76 ?_
  obtain ⟨x15, ex15, Hf⟩ := sq_bd_e Hf
  refine sq_top ex15 ?_
  refine va_put (D := (dC, dI)) (ci := 3) (v := .int x15) (ty := .int) (C := R_Codewords) (T := F_Codewords) (N := 14) hx hb ht i_Codewords t_Codewords t_Codewords_ok n_Codewords hown hK hP hD hS 0 rfl rfl 10 (by decide) (ht _ tb_114) (fun _ h9 => h9) rfl (by decide +kernel) rfl rfl (Nat.le_of_ble_eq_true rfl) d_Codewords_begin_77 (fun H locs hP hD hS => ?_)
  replace hP : va_P (dC, dI) cl_All (ww_Codewords_begin qt qt_field qt_bytes qt_generator qt_rest p2 r1 r3 x7 x10 x12 x15 vt_filled vt_waiting vt_waitingBits) H := hP
  replace hD : va_D A (ww_Codewords_begin qt qt_field qt_bytes qt_generator qt_rest p2 r1 r3 x7 x10 x12 x15 vt_filled vt_waiting vt_waitingBits) := hD
  refine lv_aload_n hx hb d_Codewords_begin_80 rfl (lv_at hl 0 rfl) ?_
  refine lv_iconst (v := (0 : Int32)) hx hb d_Codewords_begin_81 (by decide) ?_
  refine va_put (D := (dC, dI)) (ci := 3) (v := .int (0 : Int32)) (ty := .int) (C := R_Codewords) (T := F_Codewords) (N := 14) hx hb ht i_Codewords t_Codewords t_Codewords_ok n_Codewords hown hK hP hD hS 0 rfl rfl 11 (by decide) (ht _ tb_115) (fun _ h9 => h9) rfl (by decide +kernel) rfl rfl (Nat.le_of_ble_eq_true rfl) d_Codewords_begin_82 (fun H locs hP hD hS => ?_)
  replace hP : va_P (dC, dI) cl_All (ww_Codewords_begin qt qt_field qt_bytes qt_generator qt_rest p2 r1 r3 x7 x10 x12 x15 (0 : Int32) vt_waiting vt_waitingBits) H := hP
  replace hD : va_D A (ww_Codewords_begin qt qt_field qt_bytes qt_generator qt_rest p2 r1 r3 x7 x10 x12 x15 (0 : Int32) vt_waiting vt_waitingBits) := hD
  refine lv_aload_n hx hb d_Codewords_begin_85 rfl (lv_at hl 0 rfl) ?_
  refine lv_iconst (v := (0 : Int32)) hx hb d_Codewords_begin_86 (by decide) ?_
  refine va_put (D := (dC, dI)) (ci := 3) (v := .int (0 : Int32)) (ty := .int) (C := R_Codewords) (T := F_Codewords) (N := 14) hx hb ht i_Codewords t_Codewords t_Codewords_ok n_Codewords hown hK hP hD hS 0 rfl rfl 12 (by decide) (ht _ tb_116) (fun _ h9 => h9) rfl (by decide +kernel) rfl rfl (Nat.le_of_ble_eq_true rfl) d_Codewords_begin_87 (fun H locs hP hD hS => ?_)
  replace hP : va_P (dC, dI) cl_All (ww_Codewords_begin qt qt_field qt_bytes qt_generator qt_rest p2 r1 r3 x7 x10 x12 x15 (0 : Int32) (0 : Int32) vt_waitingBits) H := hP
  replace hD : va_D A (ww_Codewords_begin qt qt_field qt_bytes qt_generator qt_rest p2 r1 r3 x7 x10 x12 x15 (0 : Int32) (0 : Int32) vt_waitingBits) := hD
  refine lv_aload_n hx hb d_Codewords_begin_90 rfl (lv_at hl 0 rfl) ?_
  refine lv_iconst (v := (0 : Int32)) hx hb d_Codewords_begin_91 (by decide) ?_
  refine va_put (D := (dC, dI)) (ci := 3) (v := .int (0 : Int32)) (ty := .int) (C := R_Codewords) (T := F_Codewords) (N := 14) hx hb ht i_Codewords t_Codewords t_Codewords_ok n_Codewords hown hK hP hD hS 0 rfl rfl 13 (by decide) (ht _ tb_117) (fun _ h9 => h9) rfl (by decide +kernel) rfl rfl (Nat.le_of_ble_eq_true rfl) d_Codewords_begin_92 (fun H locs hP hD hS => ?_)
  replace hP : va_P (dC, dI) cl_All (ww_Codewords_begin qt qt_field qt_bytes qt_generator qt_rest p2 r1 r3 x7 x10 x12 x15 (0 : Int32) (0 : Int32) (0 : Int32)) H := hP
  replace hD : va_D A (ww_Codewords_begin qt qt_field qt_bytes qt_generator qt_rest p2 r1 r3 x7 x10 x12 x15 (0 : Int32) (0 : Int32) (0 : Int32)) := hD
  obtain ⟨rfl, rfl, rfl, rfl, rfl, rfl, rfl, rfl, rfl, rfl⟩ := sq_so10 Hf
  exact W.vret hx hb hr (fun t ht hW => ⟨⟨(), rfl, trivial, by rw [ht]; exact hP, hD⟩, hS.F ht⟩) hS.2.2 d_Codewords_begin_95

def fn_Codewords_total (vt_total : Int32) : Option (Int32) :=
  some (vt_total)
abbrev ww_Codewords_total (qt qt_field qt_bytes qt_generator qt_rest : Nat) (vt_version : Int32) (vt_total : Int32) (vt_holds : Int32) (vt_blocks : Int32) (vt_checks : Int32) (vt_shortLength : Int32) (vt_shortBlocks : Int32) (vt_filled : Int32) (vt_waiting : Int32) (vt_waitingBits : Int32) : va_W := [(qt, .inr (3, [.ref qt_field, .ref qt_bytes, .ref qt_generator, .ref qt_rest, .int vt_version, .int vt_total, .int vt_holds, .int vt_blocks, .int vt_checks, .int vt_shortLength, .int vt_shortBlocks, .int vt_filled, .int vt_waiting, .int vt_waitingBits]))]

def rm_Codewords_total : Room := { frames := 0, cells := 0, slots := 0, locals := 0 }
abbrev qc_Codewords_total (r0 : Int32) : Array Value → State → Outcome → State → Prop := vp_Si (fun r => r = r0)

set_option maxHeartbeats 4000000 in
set_option maxRecDepth 100000 in
theorem kt_Codewords_total (l : Launch) (dC : Nat → ClassId) (dI : Nat → Nat → Nat) (qt qt_field qt_bytes qt_generator qt_rest : Nat) (vt_version : Int32) (vt_total : Int32) (vt_holds : Int32) (vt_blocks : Int32) (vt_checks : Int32) (vt_shortLength : Int32) (vt_shortBlocks : Int32) (vt_filled : Int32) (vt_waiting : Int32) (vt_waitingBits : Int32) (r0 : Int32) (Hf : fn_Codewords_total vt_total = some r0) : Met l y_Codewords_total w_Codewords_total rm_Codewords_total (va_Pc [.ref qt] (fun U => va_P (dC, dI) cl_All (ww_Codewords_total qt qt_field qt_bytes qt_generator qt_rest vt_version vt_total vt_holds vt_blocks vt_checks vt_shortLength vt_shortBlocks vt_filled vt_waiting vt_waitingBits) U.heap ∧ va_K (dC, dI) cl_All [] U)) (qc_Codewords_total r0) 0 0 (fun _ => False) := by
  refine Met.ofW (cc := prog_2_method_3_code) (maxL := 1) (ret := (some .int)) (by decide) rfl ?_
  intro p e s m args below meth c s₁ B hml hv
  obtain ⟨rfl, hP, hK⟩ := hv
  have hx := B.exec; have hb := B.bytes; have hr := B.returns; have hlocks := B.notSynchronized
  have ht : ∀ w ∈ lw_g, w.before _ s = true := fun w h => atoms_spec (ws := w_Codewords_total) B.pre w (List.mem_cons_of_mem _ h)
  have hown : s.vm.findClass "SquareSymbols$Codewords" = some m.cls := findClass_of_methodNamed B.named
  have hl := lv_entry ([.ref qt]) (n := 1) (Nat.le_of_ble_eq_true rfl)
  rw [lg_entry_eq]
  generalize (lg_sl ([.ref qt]) ++ List.replicate (1 - (lg_sl ([.ref qt])).length) Slot.unset).toArray = ls at hl ⊢
  have hl : lv_has ls 1 [(0, .ref qt)] := hl
  refine lv_aload_n hx hb d_Codewords_total_0 rfl (lv_at hl 0 rfl) ?_
  refine va_get (D := (dC, dI)) (ci := 3) (v := .int vt_total) (C := R_Codewords) (T := F_Codewords) (N := 14) hx hb ht i_Codewords hown hK hP 0 rfl rfl 5 (by decide) (ht _ tb_109) (fun _ h9 => h9) rfl d_Codewords_total_1 ?_
  have er := Option.some.inj Hf
  exact W.iret hx hb hr (fun t ht hW => ⟨_, rfl, er, ht⟩) (fun q h => by cases h) d_Codewords_total_4

def fn_Codewords_length (p1 : Int32) (vt_shortLength : Int32) (vt_shortBlocks : Int32) : Option (Int32) :=
  if vt_shortBlocks ≤ p1 then (some (vt_shortLength + (1 : Int32))) else (some (vt_shortLength))
abbrev ww_Codewords_length (qt qt_field qt_bytes qt_generator qt_rest : Nat) (vt_version : Int32) (vt_total : Int32) (vt_holds : Int32) (vt_blocks : Int32) (vt_checks : Int32) (vt_shortLength : Int32) (vt_shortBlocks : Int32) (vt_filled : Int32) (vt_waiting : Int32) (vt_waitingBits : Int32) : va_W := [(qt, .inr (3, [.ref qt_field, .ref qt_bytes, .ref qt_generator, .ref qt_rest, .int vt_version, .int vt_total, .int vt_holds, .int vt_blocks, .int vt_checks, .int vt_shortLength, .int vt_shortBlocks, .int vt_filled, .int vt_waiting, .int vt_waitingBits]))]

def rm_Codewords_length : Room := { frames := 0, cells := 0, slots := 0, locals := 0 }
abbrev qc_Codewords_length (r0 : Int32) : Array Value → State → Outcome → State → Prop := vp_Si (fun r => r = r0)

set_option maxHeartbeats 4000000 in
set_option maxRecDepth 100000 in
theorem kt_Codewords_length (l : Launch) (dC : Nat → ClassId) (dI : Nat → Nat → Nat) (qt qt_field qt_bytes qt_generator qt_rest : Nat) (vt_version : Int32) (vt_total : Int32) (vt_holds : Int32) (vt_blocks : Int32) (vt_checks : Int32) (vt_shortLength : Int32) (vt_shortBlocks : Int32) (vt_filled : Int32) (vt_waiting : Int32) (vt_waitingBits : Int32) (p1 : Int32) (r0 : Int32) (Hf : fn_Codewords_length p1 vt_shortLength vt_shortBlocks = some r0) : Met l y_Codewords_length w_Codewords_length rm_Codewords_length (va_Pc [.ref qt, .int p1] (fun U => va_P (dC, dI) cl_All (ww_Codewords_length qt qt_field qt_bytes qt_generator qt_rest vt_version vt_total vt_holds vt_blocks vt_checks vt_shortLength vt_shortBlocks vt_filled vt_waiting vt_waitingBits) U.heap ∧ va_K (dC, dI) cl_All [] U)) (qc_Codewords_length r0) 0 0 (fun _ => False) := by
  refine Met.ofW (cc := prog_2_method_9_code) (maxL := 2) (ret := (some .int)) (by decide) rfl ?_
  intro p e s m args below meth c s₁ B hml hv
  obtain ⟨rfl, hP, hK⟩ := hv
  have hx := B.exec; have hb := B.bytes; have hr := B.returns; have hlocks := B.notSynchronized
  have ht : ∀ w ∈ lw_g, w.before _ s = true := fun w h => atoms_spec (ws := w_Codewords_length) B.pre w (List.mem_cons_of_mem _ h)
  have hown : s.vm.findClass "SquareSymbols$Codewords" = some m.cls := findClass_of_methodNamed B.named
  have hl := lv_entry ([.ref qt, .int p1]) (n := 2) (Nat.le_of_ble_eq_true rfl)
  rw [lg_entry_eq]
  generalize (lg_sl ([.ref qt, .int p1]) ++ List.replicate (2 - (lg_sl ([.ref qt, .int p1])).length) Slot.unset).toArray = ls at hl ⊢
  have hl : lv_has ls 2 [(0, .ref qt), (1, .int p1)] := hl
  refine lv_iload_n hx hb d_Codewords_length_0 rfl (lv_at hl 1 rfl) ?_
  refine lv_aload_n hx hb d_Codewords_length_1 rfl (lv_at hl 0 rfl) ?_
  refine va_get (D := (dC, dI)) (ci := 3) (v := .int vt_shortBlocks) (C := R_Codewords) (T := F_Codewords) (N := 14) hx hb ht i_Codewords hown hK hP 0 rfl rfl 10 (by decide) (ht _ tb_114) (fun _ h9 => h9) rfl d_Codewords_length_2 ?_
  refine lv_icmp_ge (tgt := 15) hx hb d_Codewords_length_5 (by decide) (fun c1 => ?_) (fun c1 => ?_)
  · replace Hf := sq_ite_t Hf c1
    refine lv_aload_n hx hb d_Codewords_length_15 rfl (lv_at hl 0 rfl) ?_
    refine va_get (D := (dC, dI)) (ci := 3) (v := .int vt_shortLength) (C := R_Codewords) (T := F_Codewords) (N := 14) hx hb ht i_Codewords hown hK hP 0 rfl rfl 9 (by decide) (ht _ tb_113) (fun _ h9 => h9) rfl d_Codewords_length_16 ?_
    refine lv_iconst (v := (1 : Int32)) hx hb d_Codewords_length_19 (by decide) ?_
    refine lv_iadd hx hb d_Codewords_length_20 ?_
    have er := Option.some.inj Hf
    exact W.iret hx hb hr (fun t ht hW => ⟨_, rfl, er, ht⟩) (fun q h => by cases h) d_Codewords_length_21
  · replace Hf := sq_ite_f Hf c1
    refine lv_aload_n hx hb d_Codewords_length_8 rfl (lv_at hl 0 rfl) ?_
    refine va_get (D := (dC, dI)) (ci := 3) (v := .int vt_shortLength) (C := R_Codewords) (T := F_Codewords) (N := 14) hx hb ht i_Codewords hown hK hP 0 rfl rfl 9 (by decide) (ht _ tb_113) (fun _ h9 => h9) rfl d_Codewords_length_9 ?_
    refine lv_goto (tgt := 21) hx hb d_Codewords_length_12 (by decide) ?_
    have er := Option.some.inj Hf
    exact W.iret hx hb hr (fun t ht hW => ⟨_, rfl, er, ht⟩) (fun q h => by cases h) d_Codewords_length_21

def fn_Codewords_start (p1 : Int32) (vt_shortLength : Int32) (vt_shortBlocks : Int32) : Option (Int32) :=
  sq_bd (p1 - vt_shortBlocks) fun x1 => sq_bd (sq_max (0 : Int32) x1) fun x2 => some ((p1 * vt_shortLength) + x2)
abbrev ww_Codewords_start (qt qt_field qt_bytes qt_generator qt_rest : Nat) (vt_version : Int32) (vt_total : Int32) (vt_holds : Int32) (vt_blocks : Int32) (vt_checks : Int32) (vt_shortLength : Int32) (vt_shortBlocks : Int32) (vt_filled : Int32) (vt_waiting : Int32) (vt_waitingBits : Int32) : va_W := [(qt, .inr (3, [.ref qt_field, .ref qt_bytes, .ref qt_generator, .ref qt_rest, .int vt_version, .int vt_total, .int vt_holds, .int vt_blocks, .int vt_checks, .int vt_shortLength, .int vt_shortBlocks, .int vt_filled, .int vt_waiting, .int vt_waitingBits]))]

def rm_Codewords_start : Room := { frames := 1, cells := 0, slots := 0, locals := 24 }
abbrev qc_Codewords_start (r0 : Int32) : Array Value → State → Outcome → State → Prop := vp_Si (fun r => r = r0)

set_option maxHeartbeats 4000000 in
set_option maxRecDepth 100000 in
theorem kt_Codewords_start (l : Launch) (dC : Nat → ClassId) (dI : Nat → Nat → Nat) (qt qt_field qt_bytes qt_generator qt_rest : Nat) (vt_version : Int32) (vt_total : Int32) (vt_holds : Int32) (vt_blocks : Int32) (vt_checks : Int32) (vt_shortLength : Int32) (vt_shortBlocks : Int32) (vt_filled : Int32) (vt_waiting : Int32) (vt_waitingBits : Int32) (p1 : Int32) (r0 : Int32) (Hf : fn_Codewords_start p1 vt_shortLength vt_shortBlocks = some r0) : Met l y_Codewords_start w_Codewords_start rm_Codewords_start (va_Pc [.ref qt, .int p1] (fun U => va_P (dC, dI) cl_All (ww_Codewords_start qt qt_field qt_bytes qt_generator qt_rest vt_version vt_total vt_holds vt_blocks vt_checks vt_shortLength vt_shortBlocks vt_filled vt_waiting vt_waitingBits) U.heap ∧ va_K (dC, dI) cl_All [] U)) (qc_Codewords_start r0) 0 0 (fun _ => False) := by
  refine Met.ofW (cc := prog_2_method_10_code) (maxL := 2) (ret := (some .int)) (by decide) rfl ?_
  intro p e s m args below meth c s₁ B hml hv
  obtain ⟨rfl, hP, hK⟩ := hv
  have hx := B.exec; have hb := B.bytes; have hr := B.returns; have hlocks := B.notSynchronized
  have ht : ∀ w ∈ lw_g, w.before _ s = true := fun w h => atoms_spec (ws := w_Codewords_start) B.pre w (List.mem_cons_of_mem _ h)
  have hown : s.vm.findClass "SquareSymbols$Codewords" = some m.cls := findClass_of_methodNamed B.named
  have hl := lv_entry ([.ref qt, .int p1]) (n := 2) (Nat.le_of_ble_eq_true rfl)
  rw [lg_entry_eq]
  generalize (lg_sl ([.ref qt, .int p1]) ++ List.replicate (2 - (lg_sl ([.ref qt, .int p1])).length) Slot.unset).toArray = ls at hl ⊢
  have hl : lv_has ls 2 [(0, .ref qt), (1, .int p1)] := hl
  refine lv_iload_n hx hb d_Codewords_start_0 rfl (lv_at hl 1 rfl) ?_
  refine lv_aload_n hx hb d_Codewords_start_1 rfl (lv_at hl 0 rfl) ?_
  refine va_get (D := (dC, dI)) (ci := 3) (v := .int vt_shortLength) (C := R_Codewords) (T := F_Codewords) (N := 14) hx hb ht i_Codewords hown hK hP 0 rfl rfl 9 (by decide) (ht _ tb_113) (fun _ h9 => h9) rfl d_Codewords_start_2 ?_
  refine lv_imul hx hb d_Codewords_start_5 ?_
  refine lv_iconst (v := (0 : Int32)) hx hb d_Codewords_start_6 (by decide) ?_
  refine lv_iload_n hx hb d_Codewords_start_7 rfl (lv_at hl 1 rfl) ?_
  refine lv_aload_n hx hb d_Codewords_start_8 rfl (lv_at hl 0 rfl) ?_
  refine va_get (D := (dC, dI)) (ci := 3) (v := .int vt_shortBlocks) (C := R_Codewords) (T := F_Codewords) (N := 14) hx hb ht i_Codewords hown hK hP 0 rfl rfl 10 (by decide) (ht _ tb_114) (fun _ h9 => h9) rfl d_Codewords_start_9 ?_
  refine lv_isub hx hb d_Codewords_start_12 ?_
  obtain ⟨x1, ex1, Hf⟩ := sq_bd_e Hf
  refine sq_top ex1 ?_
  refine va_mmax hx hb (by rw [hml]; exact hl.1.symm) hown (ht _ tb_424) (ht _ tb_416) (ht _ tb_17) (ht _ tb_417) (Nat.le_of_ble_eq_true rfl) (Nat.le_of_ble_eq_true rfl) (Nat.zero_le _) (Nat.zero_le _) d_Codewords_start_13 ?_
  obtain ⟨x2, ex2, Hf⟩ := sq_bd_e Hf
  refine sq_top ex2 ?_
  refine lv_iadd hx hb d_Codewords_start_16 ?_
  have er := Option.some.inj Hf
  exact W.iret hx hb hr (fun t ht hW => ⟨_, rfl, er, ht⟩) (fun q h => by cases h) d_Codewords_start_17

def fn_Codewords_placeInBlock (p1 : Int32) (p2 : Int32) (vt_holds : Int32) (vt_checks : Int32) (vt_shortLength : Int32) (vt_shortBlocks : Int32) : Option (Int32) :=
  sq_cb1 (fn_Codewords_length p1 vt_shortLength vt_shortBlocks) fun r1 => if r1 ≤ p2 then (some (((vt_holds + (p1 * vt_checks)) + p2) - r1)) else (sq_cb1 (fn_Codewords_start p1 vt_shortLength vt_shortBlocks) fun r4 => some (r4 + p2))
abbrev ww_Codewords_placeInBlock (qt qt_field qt_bytes qt_generator qt_rest : Nat) (vt_version : Int32) (vt_total : Int32) (vt_holds : Int32) (vt_blocks : Int32) (vt_checks : Int32) (vt_shortLength : Int32) (vt_shortBlocks : Int32) (vt_filled : Int32) (vt_waiting : Int32) (vt_waitingBits : Int32) : va_W := [(qt, .inr (3, [.ref qt_field, .ref qt_bytes, .ref qt_generator, .ref qt_rest, .int vt_version, .int vt_total, .int vt_holds, .int vt_blocks, .int vt_checks, .int vt_shortLength, .int vt_shortBlocks, .int vt_filled, .int vt_waiting, .int vt_waitingBits]))]

def rm_Codewords_placeInBlock : Room := { frames := 2, cells := 0, slots := 0, locals := 45 }
abbrev qc_Codewords_placeInBlock (r0 : Int32) : Array Value → State → Outcome → State → Prop := vp_Si (fun r => r = r0)

set_option maxHeartbeats 4000000 in
set_option maxRecDepth 100000 in
theorem kt_Codewords_placeInBlock (l : Launch) (dC : Nat → ClassId) (dI : Nat → Nat → Nat) (qt qt_field qt_bytes qt_generator qt_rest : Nat) (vt_version : Int32) (vt_total : Int32) (vt_holds : Int32) (vt_blocks : Int32) (vt_checks : Int32) (vt_shortLength : Int32) (vt_shortBlocks : Int32) (vt_filled : Int32) (vt_waiting : Int32) (vt_waitingBits : Int32) (p1 : Int32) (p2 : Int32) (r0 : Int32) (Hf : fn_Codewords_placeInBlock p1 p2 vt_holds vt_checks vt_shortLength vt_shortBlocks = some r0) : Met l y_Codewords_placeInBlock w_Codewords_placeInBlock rm_Codewords_placeInBlock (va_Pc [.ref qt, .int p1, .int p2] (fun U => va_P (dC, dI) cl_All (ww_Codewords_placeInBlock qt qt_field qt_bytes qt_generator qt_rest vt_version vt_total vt_holds vt_blocks vt_checks vt_shortLength vt_shortBlocks vt_filled vt_waiting vt_waitingBits) U.heap ∧ va_K (dC, dI) cl_All [] U)) (qc_Codewords_placeInBlock r0) 0 0 (fun _ => False) := by
  refine Met.ofW (cc := prog_2_method_11_code) (maxL := 4) (ret := (some .int)) (by decide) rfl ?_
  intro p e s m args below meth c s₁ B hml hv
  obtain ⟨rfl, hP, hK⟩ := hv
  have hx := B.exec; have hb := B.bytes; have hr := B.returns; have hlocks := B.notSynchronized
  have ht : ∀ w ∈ lw_g, w.before _ s = true := fun w h => atoms_spec (ws := w_Codewords_placeInBlock) B.pre w (List.mem_cons_of_mem _ h)
  have hown : s.vm.findClass "SquareSymbols$Codewords" = some m.cls := findClass_of_methodNamed B.named
  have hl := lv_entry ([.ref qt, .int p1, .int p2]) (n := 4) (Nat.le_of_ble_eq_true rfl)
  rw [lg_entry_eq]
  generalize (lg_sl ([.ref qt, .int p1, .int p2]) ++ List.replicate (4 - (lg_sl ([.ref qt, .int p1, .int p2])).length) Slot.unset).toArray = ls at hl ⊢
  have hl : lv_has ls 4 [(0, .ref qt), (1, .int p1), (2, .int p2)] := hl
  refine lv_aload_n hx hb d_Codewords_placeInBlock_0 rfl (lv_at hl 0 rfl) ?_
  refine lv_iload_n hx hb d_Codewords_placeInBlock_1 rfl (lv_at hl 1 rfl) ?_
  obtain ⟨r1, hc2, Hf⟩ := sq_cb1_e Hf
  refine sq_roi (va_runV (As := [.int p1]) (rest := []) ⟨hx, hb, hml, hown, ht⟩ (kt_Codewords_length l dC dI qt qt_field qt_bytes qt_generator qt_rest vt_version vt_total vt_holds vt_blocks vt_checks vt_shortLength vt_shortBlocks vt_filled vt_waiting vt_waitingBits p1 r1 hc2) (cwV 1 ht (sq_gV tb_505 tb_506 tb_507 tb_5 tb_508) rfl rfl rfl (by decide +kernel) ⟨Nat.le_of_ble_eq_true rfl, Nat.le_of_ble_eq_true rfl⟩) (sq_roV (hP.sub (ws' := (ww_Codewords_length qt qt_field qt_bytes qt_generator qt_rest vt_version vt_total vt_holds vt_blocks vt_checks vt_shortLength vt_shortBlocks vt_filled vt_waiting vt_waitingBits)) [0] rfl) (hK.sub (tys' := []) [] rfl) (va_recv hK hP (ci := 3) (q0 := 0) rfl rfl)) rfl rfl hl.1 rfl (lv_room (Nat.le_of_ble_eq_true rfl)) d_Codewords_placeInBlock_2 ⟨Nat.le_of_ble_eq_true rfl, Nat.le_of_ble_eq_true rfl⟩) ?_
  refine lv_istore_n (lv' := [(3, .int r1), (0, .ref qt), (1, .int p1), (2, .int p2)]) hx hb d_Codewords_placeInBlock_5 rfl hl (by decide) rfl (fun ls hl => ?_)
  refine lv_iload_n hx hb d_Codewords_placeInBlock_6 rfl (lv_at hl 3 rfl) ?_
  refine lv_iload_n hx hb d_Codewords_placeInBlock_7 rfl (lv_at hl 0 rfl) ?_
  refine lv_icmp_ge (tgt := 21) hx hb d_Codewords_placeInBlock_8 (by decide) (fun c3 => ?_) (fun c3 => ?_)
  · replace Hf := sq_ite_t Hf c3
    refine lv_aload_n hx hb d_Codewords_placeInBlock_21 rfl (lv_at hl 1 rfl) ?_
    refine va_get (D := (dC, dI)) (ci := 3) (v := .int vt_holds) (C := R_Codewords) (T := F_Codewords) (N := 14) hx hb ht i_Codewords hown hK hP 0 rfl rfl 6 (by decide) (ht _ tb_110) (fun _ h9 => h9) rfl d_Codewords_placeInBlock_22 ?_
    refine lv_iload_n hx hb d_Codewords_placeInBlock_25 rfl (lv_at hl 2 rfl) ?_
    refine lv_aload_n hx hb d_Codewords_placeInBlock_26 rfl (lv_at hl 1 rfl) ?_
    refine va_get (D := (dC, dI)) (ci := 3) (v := .int vt_checks) (C := R_Codewords) (T := F_Codewords) (N := 14) hx hb ht i_Codewords hown hK hP 0 rfl rfl 8 (by decide) (ht _ tb_112) (fun _ h9 => h9) rfl d_Codewords_placeInBlock_27 ?_
    refine lv_imul hx hb d_Codewords_placeInBlock_30 ?_
    refine lv_iadd hx hb d_Codewords_placeInBlock_31 ?_
    refine lv_iload_n hx hb d_Codewords_placeInBlock_32 rfl (lv_at hl 3 rfl) ?_
    refine lv_iadd hx hb d_Codewords_placeInBlock_33 ?_
    refine lv_iload_n hx hb d_Codewords_placeInBlock_34 rfl (lv_at hl 0 rfl) ?_
    refine lv_isub hx hb d_Codewords_placeInBlock_35 ?_
    have er := Option.some.inj Hf
    exact W.iret hx hb hr (fun t ht hW => ⟨_, rfl, er, ht⟩) (fun q h => by cases h) d_Codewords_placeInBlock_36
  · replace Hf := sq_ite_f Hf c3
    refine lv_aload_n hx hb d_Codewords_placeInBlock_11 rfl (lv_at hl 1 rfl) ?_
    refine lv_iload_n hx hb d_Codewords_placeInBlock_12 rfl (lv_at hl 2 rfl) ?_
    obtain ⟨r4, hc5, Hf⟩ := sq_cb1_e Hf
    refine sq_roi (va_runV (As := [.int p1]) (rest := []) ⟨hx, hb, hml, hown, ht⟩ (kt_Codewords_start l dC dI qt qt_field qt_bytes qt_generator qt_rest vt_version vt_total vt_holds vt_blocks vt_checks vt_shortLength vt_shortBlocks vt_filled vt_waiting vt_waitingBits p1 r4 hc5) (cwV 1 ht (sq_gV tb_509 tb_511 sl_7 tb_5 tb_512) rfl rfl rfl (by decide +kernel) ⟨Nat.le_of_ble_eq_true rfl, Nat.le_of_ble_eq_true rfl⟩) (sq_roV (hP.sub (ws' := (ww_Codewords_start qt qt_field qt_bytes qt_generator qt_rest vt_version vt_total vt_holds vt_blocks vt_checks vt_shortLength vt_shortBlocks vt_filled vt_waiting vt_waitingBits)) [0] rfl) (hK.sub (tys' := []) [] rfl) (va_recv hK hP (ci := 3) (q0 := 0) rfl rfl)) rfl rfl hl.1 rfl (lv_room (Nat.le_of_ble_eq_true rfl)) d_Codewords_placeInBlock_13 ⟨Nat.le_of_ble_eq_true rfl, Nat.le_of_ble_eq_true rfl⟩) ?_
    refine lv_iload_n hx hb d_Codewords_placeInBlock_16 rfl (lv_at hl 3 rfl) ?_
    refine lv_iadd hx hb d_Codewords_placeInBlock_17 ?_
    refine lv_goto (tgt := 36) hx hb d_Codewords_placeInBlock_18 (by decide) ?_
    have er := Option.some.inj Hf
    exact W.iret hx hb hr (fun t ht hW => ⟨_, rfl, er, ht⟩) (fun q h => by cases h) d_Codewords_placeInBlock_36

def fn_Codewords_placeInOrder (p1 : Int32) (vt_holds : Int32) (vt_blocks : Int32) (vt_checks : Int32) (vt_shortLength : Int32) (vt_shortBlocks : Int32) : Option (Int32) :=
  sq_bd (sq_max (1 : Int32) vt_blocks) fun x1 => if (vt_shortLength * x1) ≤ p1 then (if vt_holds ≤ p1 then (sq_bd (p1 - vt_holds) fun x4 => sq_gz x1 <| sq_bd (sq_rem x4 x1) fun x6 => sq_gz x1 <| some ((vt_holds + (x6 * vt_checks)) + (x4 / x1))) else (sq_cb1 (fn_Codewords_placeInBlock ((vt_shortBlocks + p1) - (vt_shortLength * x1)) vt_shortLength vt_holds vt_checks vt_shortLength vt_shortBlocks) fun r8 => some (r8))) else (sq_gz x1 <| sq_bd (sq_rem p1 x1) fun x11 => sq_gz x1 <| sq_cb1 (fn_Codewords_placeInBlock x11 (p1 / x1) vt_holds vt_checks vt_shortLength vt_shortBlocks) fun r13 => some (r13))
abbrev ww_Codewords_placeInOrder (qt qt_field qt_bytes qt_generator qt_rest : Nat) (vt_version : Int32) (vt_total : Int32) (vt_holds : Int32) (vt_blocks : Int32) (vt_checks : Int32) (vt_shortLength : Int32) (vt_shortBlocks : Int32) (vt_filled : Int32) (vt_waiting : Int32) (vt_waitingBits : Int32) : va_W := [(qt, .inr (3, [.ref qt_field, .ref qt_bytes, .ref qt_generator, .ref qt_rest, .int vt_version, .int vt_total, .int vt_holds, .int vt_blocks, .int vt_checks, .int vt_shortLength, .int vt_shortBlocks, .int vt_filled, .int vt_waiting, .int vt_waitingBits]))]

def rm_Codewords_placeInOrder : Room := { frames := 3, cells := 0, slots := 0, locals := 68 }
abbrev qc_Codewords_placeInOrder (r0 : Int32) : Array Value → State → Outcome → State → Prop := vp_Si (fun r => r = r0)

set_option maxHeartbeats 4000000 in
set_option maxRecDepth 100000 in
theorem kt_Codewords_placeInOrder (l : Launch) (dC : Nat → ClassId) (dI : Nat → Nat → Nat) (qt qt_field qt_bytes qt_generator qt_rest : Nat) (vt_version : Int32) (vt_total : Int32) (vt_holds : Int32) (vt_blocks : Int32) (vt_checks : Int32) (vt_shortLength : Int32) (vt_shortBlocks : Int32) (vt_filled : Int32) (vt_waiting : Int32) (vt_waitingBits : Int32) (p1 : Int32) (r0 : Int32) (Hf : fn_Codewords_placeInOrder p1 vt_holds vt_blocks vt_checks vt_shortLength vt_shortBlocks = some r0) : Met l y_Codewords_placeInOrder w_Codewords_placeInOrder rm_Codewords_placeInOrder (va_Pc [.ref qt, .int p1] (fun U => va_P (dC, dI) cl_All (ww_Codewords_placeInOrder qt qt_field qt_bytes qt_generator qt_rest vt_version vt_total vt_holds vt_blocks vt_checks vt_shortLength vt_shortBlocks vt_filled vt_waiting vt_waitingBits) U.heap ∧ va_K (dC, dI) cl_All [] U)) (qc_Codewords_placeInOrder r0) 0 0 (fun _ => False) := by
  refine Met.ofW (cc := prog_2_method_12_code) (maxL := 4) (ret := (some .int)) (by decide) rfl ?_
  intro p e s m args below meth c s₁ B hml hv
  obtain ⟨rfl, hP, hK⟩ := hv
  have hx := B.exec; have hb := B.bytes; have hr := B.returns; have hlocks := B.notSynchronized
  have ht : ∀ w ∈ lw_g, w.before _ s = true := fun w h => atoms_spec (ws := w_Codewords_placeInOrder) B.pre w (List.mem_cons_of_mem _ h)
  have hown : s.vm.findClass "SquareSymbols$Codewords" = some m.cls := findClass_of_methodNamed B.named
  have hl := lv_entry ([.ref qt, .int p1]) (n := 4) (Nat.le_of_ble_eq_true rfl)
  rw [lg_entry_eq]
  generalize (lg_sl ([.ref qt, .int p1]) ++ List.replicate (4 - (lg_sl ([.ref qt, .int p1])).length) Slot.unset).toArray = ls at hl ⊢
  have hl : lv_has ls 4 [(0, .ref qt), (1, .int p1)] := hl
  refine lv_iconst (v := (1 : Int32)) hx hb d_Codewords_placeInOrder_0 (by decide) ?_
  refine lv_aload_n hx hb d_Codewords_placeInOrder_1 rfl (lv_at hl 0 rfl) ?_
  refine va_get (D := (dC, dI)) (ci := 3) (v := .int vt_blocks) (C := R_Codewords) (T := F_Codewords) (N := 14) hx hb ht i_Codewords hown hK hP 0 rfl rfl 7 (by decide) (ht _ tb_111) (fun _ h9 => h9) rfl d_Codewords_placeInOrder_2 ?_
  refine va_mmax hx hb (by rw [hml]; exact hl.1.symm) hown (ht _ tb_424) (ht _ tb_416) (ht _ tb_17) (ht _ tb_417) (Nat.le_of_ble_eq_true rfl) (Nat.le_of_ble_eq_true rfl) (Nat.zero_le _) (Nat.zero_le _) d_Codewords_placeInOrder_5 ?_
  obtain ⟨x1, ex1, Hf⟩ := sq_bd_e Hf
  refine sq_top ex1 ?_
  refine lv_istore_n (lv' := [(2, .int x1), (0, .ref qt), (1, .int p1)]) hx hb d_Codewords_placeInOrder_8 rfl hl (by decide) rfl (fun ls hl => ?_)
  refine lv_iload_n hx hb d_Codewords_placeInOrder_9 rfl (lv_at hl 2 rfl) ?_
  refine lv_aload_n hx hb d_Codewords_placeInOrder_10 rfl (lv_at hl 1 rfl) ?_
  refine va_get (D := (dC, dI)) (ci := 3) (v := .int vt_shortLength) (C := R_Codewords) (T := F_Codewords) (N := 14) hx hb ht i_Codewords hown hK hP 0 rfl rfl 9 (by decide) (ht _ tb_113) (fun _ h9 => h9) rfl d_Codewords_placeInOrder_11 ?_
  refine lv_iload_n hx hb d_Codewords_placeInOrder_14 rfl (lv_at hl 0 rfl) ?_
  refine lv_imul hx hb d_Codewords_placeInOrder_15 ?_
  refine lv_icmp_ge (tgt := 30) hx hb d_Codewords_placeInOrder_16 (by decide) (fun c2 => ?_) (fun c2 => ?_)
  · replace Hf := sq_ite_t Hf c2
    refine lv_iload_n hx hb d_Codewords_placeInOrder_30 rfl (lv_at hl 2 rfl) ?_
    refine lv_aload_n hx hb d_Codewords_placeInOrder_31 rfl (lv_at hl 1 rfl) ?_
    refine va_get (D := (dC, dI)) (ci := 3) (v := .int vt_holds) (C := R_Codewords) (T := F_Codewords) (N := 14) hx hb ht i_Codewords hown hK hP 0 rfl rfl 6 (by decide) (ht _ tb_110) (fun _ h9 => h9) rfl d_Codewords_placeInOrder_32 ?_
    refine lv_icmp_ge (tgt := 60) hx hb d_Codewords_placeInOrder_35 (by decide) (fun c3 => ?_) (fun c3 => ?_)
    · replace Hf := sq_ite_t Hf c3
      refine lv_iload_n hx hb d_Codewords_placeInOrder_60 rfl (lv_at hl 2 rfl) ?_
      refine lv_aload_n hx hb d_Codewords_placeInOrder_61 rfl (lv_at hl 1 rfl) ?_
      refine va_get (D := (dC, dI)) (ci := 3) (v := .int vt_holds) (C := R_Codewords) (T := F_Codewords) (N := 14) hx hb ht i_Codewords hown hK hP 0 rfl rfl 6 (by decide) (ht _ tb_110) (fun _ h9 => h9) rfl d_Codewords_placeInOrder_62 ?_
      refine lv_isub hx hb d_Codewords_placeInOrder_65 ?_
      obtain ⟨x4, ex4, Hf⟩ := sq_bd_e Hf
      refine sq_top ex4 ?_
      refine lv_istore_n (lv' := [(3, .int x4), (2, .int x1), (0, .ref qt), (1, .int p1)]) hx hb d_Codewords_placeInOrder_66 rfl hl (by decide) rfl (fun ls hl => ?_)
      refine lv_aload_n hx hb d_Codewords_placeInOrder_67 rfl (lv_at hl 2 rfl) ?_
      refine va_get (D := (dC, dI)) (ci := 3) (v := .int vt_holds) (C := R_Codewords) (T := F_Codewords) (N := 14) hx hb ht i_Codewords hown hK hP 0 rfl rfl 6 (by decide) (ht _ tb_110) (fun _ h9 => h9) rfl d_Codewords_placeInOrder_68 ?_
      refine lv_iload_n hx hb d_Codewords_placeInOrder_71 rfl (lv_at hl 0 rfl) ?_
      refine lv_iload_n hx hb d_Codewords_placeInOrder_72 rfl (lv_at hl 1 rfl) ?_
      obtain ⟨hz5, Hf⟩ := sq_gz_e Hf
      refine lv_irem hx hb d_Codewords_placeInOrder_73 hz5 ?_
      obtain ⟨x6, ex6, Hf⟩ := sq_bd_e Hf
      refine sq_top ex6 ?_
      refine lv_aload_n hx hb d_Codewords_placeInOrder_74 rfl (lv_at hl 2 rfl) ?_
      refine va_get (D := (dC, dI)) (ci := 3) (v := .int vt_checks) (C := R_Codewords) (T := F_Codewords) (N := 14) hx hb ht i_Codewords hown hK hP 0 rfl rfl 8 (by decide) (ht _ tb_112) (fun _ h9 => h9) rfl d_Codewords_placeInOrder_75 ?_
      refine lv_imul hx hb d_Codewords_placeInOrder_78 ?_
      refine lv_iadd hx hb d_Codewords_placeInOrder_79 ?_
      refine lv_iload_n hx hb d_Codewords_placeInOrder_80 rfl (lv_at hl 0 rfl) ?_
      refine lv_iload_n hx hb d_Codewords_placeInOrder_81 rfl (lv_at hl 1 rfl) ?_
      obtain ⟨hz7, Hf⟩ := sq_gz_e Hf
      refine lv_idiv hx hb d_Codewords_placeInOrder_82 hz7 ?_
      refine lv_iadd hx hb d_Codewords_placeInOrder_83 ?_
      have er := Option.some.inj Hf
      exact W.iret hx hb hr (fun t ht hW => ⟨_, rfl, er, ht⟩) (fun q h => by cases h) d_Codewords_placeInOrder_84
    · replace Hf := sq_ite_f Hf c3
      refine lv_aload_n hx hb d_Codewords_placeInOrder_38 rfl (lv_at hl 1 rfl) ?_
      refine lv_aload_n hx hb d_Codewords_placeInOrder_39 rfl (lv_at hl 1 rfl) ?_
      refine va_get (D := (dC, dI)) (ci := 3) (v := .int vt_shortBlocks) (C := R_Codewords) (T := F_Codewords) (N := 14) hx hb ht i_Codewords hown hK hP 0 rfl rfl 10 (by decide) (ht _ tb_114) (fun _ h9 => h9) rfl d_Codewords_placeInOrder_40 ?_
      refine lv_iload_n hx hb d_Codewords_placeInOrder_43 rfl (lv_at hl 2 rfl) ?_
      refine lv_iadd hx hb d_Codewords_placeInOrder_44 ?_
      refine lv_aload_n hx hb d_Codewords_placeInOrder_45 rfl (lv_at hl 1 rfl) ?_
      refine va_get (D := (dC, dI)) (ci := 3) (v := .int vt_shortLength) (C := R_Codewords) (T := F_Codewords) (N := 14) hx hb ht i_Codewords hown hK hP 0 rfl rfl 9 (by decide) (ht _ tb_113) (fun _ h9 => h9) rfl d_Codewords_placeInOrder_46 ?_
      refine lv_iload_n hx hb d_Codewords_placeInOrder_49 rfl (lv_at hl 0 rfl) ?_
      refine lv_imul hx hb d_Codewords_placeInOrder_50 ?_
      refine lv_isub hx hb d_Codewords_placeInOrder_51 ?_
      refine lv_aload_n hx hb d_Codewords_placeInOrder_52 rfl (lv_at hl 1 rfl) ?_
      refine va_get (D := (dC, dI)) (ci := 3) (v := .int vt_shortLength) (C := R_Codewords) (T := F_Codewords) (N := 14) hx hb ht i_Codewords hown hK hP 0 rfl rfl 9 (by decide) (ht _ tb_113) (fun _ h9 => h9) rfl d_Codewords_placeInOrder_53 ?_
      obtain ⟨r8, hc9, Hf⟩ := sq_cb1_e Hf
      refine sq_roi (va_runV (As := [.int ((vt_shortBlocks + p1) - (vt_shortLength * x1)), .int vt_shortLength]) (rest := []) ⟨hx, hb, hml, hown, ht⟩ (kt_Codewords_placeInBlock l dC dI qt qt_field qt_bytes qt_generator qt_rest vt_version vt_total vt_holds vt_blocks vt_checks vt_shortLength vt_shortBlocks vt_filled vt_waiting vt_waitingBits ((vt_shortBlocks + p1) - (vt_shortLength * x1)) vt_shortLength r8 hc9) (cwV 2 ht (sq_gV tb_501 tb_502 tb_503 tb_5 tb_504) rfl rfl rfl (by decide +kernel) ⟨Nat.le_of_ble_eq_true rfl, Nat.le_of_ble_eq_true rfl⟩) (sq_roV (hP.sub (ws' := (ww_Codewords_placeInBlock qt qt_field qt_bytes qt_generator qt_rest vt_version vt_total vt_holds vt_blocks vt_checks vt_shortLength vt_shortBlocks vt_filled vt_waiting vt_waitingBits)) [0] rfl) (hK.sub (tys' := []) [] rfl) (va_recv hK hP (ci := 3) (q0 := 0) rfl rfl)) rfl rfl hl.1 rfl (lv_room (Nat.le_of_ble_eq_true rfl)) d_Codewords_placeInOrder_56 ⟨Nat.le_of_ble_eq_true rfl, Nat.le_of_ble_eq_true rfl⟩) ?_
      have er := Option.some.inj Hf
      exact W.iret hx hb hr (fun t ht hW => ⟨_, rfl, er, ht⟩) (fun q h => by cases h) d_Codewords_placeInOrder_59
  · replace Hf := sq_ite_f Hf c2
    refine lv_aload_n hx hb d_Codewords_placeInOrder_19 rfl (lv_at hl 1 rfl) ?_
    refine lv_iload_n hx hb d_Codewords_placeInOrder_20 rfl (lv_at hl 2 rfl) ?_
    refine lv_iload_n hx hb d_Codewords_placeInOrder_21 rfl (lv_at hl 0 rfl) ?_
    obtain ⟨hz10, Hf⟩ := sq_gz_e Hf
    refine lv_irem hx hb d_Codewords_placeInOrder_22 hz10 ?_
    obtain ⟨x11, ex11, Hf⟩ := sq_bd_e Hf
    refine sq_top ex11 ?_
    refine lv_iload_n hx hb d_Codewords_placeInOrder_23 rfl (lv_at hl 2 rfl) ?_
    refine lv_iload_n hx hb d_Codewords_placeInOrder_24 rfl (lv_at hl 0 rfl) ?_
    obtain ⟨hz12, Hf⟩ := sq_gz_e Hf
    refine lv_idiv hx hb d_Codewords_placeInOrder_25 hz12 ?_
    obtain ⟨r13, hc14, Hf⟩ := sq_cb1_e Hf
    refine sq_roi (va_runV (As := [.int x11, .int (p1 / x1)]) (rest := []) ⟨hx, hb, hml, hown, ht⟩ (kt_Codewords_placeInBlock l dC dI qt qt_field qt_bytes qt_generator qt_rest vt_version vt_total vt_holds vt_blocks vt_checks vt_shortLength vt_shortBlocks vt_filled vt_waiting vt_waitingBits x11 (p1 / x1) r13 hc14) (cwV 2 ht (sq_gV tb_501 tb_502 tb_503 tb_5 tb_504) rfl rfl rfl (by decide +kernel) ⟨Nat.le_of_ble_eq_true rfl, Nat.le_of_ble_eq_true rfl⟩) (sq_roV (hP.sub (ws' := (ww_Codewords_placeInBlock qt qt_field qt_bytes qt_generator qt_rest vt_version vt_total vt_holds vt_blocks vt_checks vt_shortLength vt_shortBlocks vt_filled vt_waiting vt_waitingBits)) [0] rfl) (hK.sub (tys' := []) [] rfl) (va_recv hK hP (ci := 3) (q0 := 0) rfl rfl)) rfl rfl hl.1 rfl (lv_room (Nat.le_of_ble_eq_true rfl)) d_Codewords_placeInOrder_26 ⟨Nat.le_of_ble_eq_true rfl, Nat.le_of_ble_eq_true rfl⟩) ?_
    have er := Option.some.inj Hf
    exact W.iret hx hb hr (fun t ht hW => ⟨_, rfl, er, ht⟩) (fun q h => by cases h) d_Codewords_placeInOrder_29

def fn_Codewords_set (p1 : Int32) (p2 : Int32) (vt_bytes : Nat → Int32) : Option ((Nat → Int32)) :=
  if p1 < 0 then (some vt_bytes) else (if (3706 : Int32) ≤ p1 then (some vt_bytes) else (sq_bd (sq_i2b p2) fun x3 => sq_gi p1 3706 <| sq_bd (upd vt_bytes p1.toNatClampNeg (vp_nar .byte x3)) fun b5 => some b5))
abbrev ww_Codewords_set (qt qt_bytes qt_field qt_generator qt_rest : Nat) (ct_bytes : ClassId) (vt_version : Int32) (vt_total : Int32) (vt_holds : Int32) (vt_blocks : Int32) (vt_checks : Int32) (vt_shortLength : Int32) (vt_shortBlocks : Int32) (vt_filled : Int32) (vt_waiting : Int32) (vt_waitingBits : Int32) (vt_bytes : Nat → Int32) : va_W := [(qt, .inr (3, [.ref qt_field, .ref qt_bytes, .ref qt_generator, .ref qt_rest, .int vt_version, .int vt_total, .int vt_holds, .int vt_blocks, .int vt_checks, .int vt_shortLength, .int vt_shortBlocks, .int vt_filled, .int vt_waiting, .int vt_waitingBits])), (qt_bytes, .inl (ct_bytes, 3706, .inl vt_bytes))]

def rm_Codewords_set : Room := { frames := 0, cells := 0, slots := 0, locals := 0 }
abbrev qc_Codewords_set (dC : Nat → ClassId) (dI : Nat → Nat → Nat) (A : Nat → Prop) (qt qt_bytes qt_field qt_generator qt_rest : Nat) (ct_bytes : ClassId) (vt_version : Int32) (vt_total : Int32) (vt_holds : Int32) (vt_blocks : Int32) (vt_checks : Int32) (vt_shortLength : Int32) (vt_shortBlocks : Int32) (vt_filled : Int32) (vt_waiting : Int32) (vt_waitingBits : Int32) (vt_bytes : Nat → Int32) : Array Value → State → Outcome → State → Prop := va_Qv (fun (_ : Unit) => True) (fun _ t => va_P (dC, dI) cl_All (ww_Codewords_set qt qt_bytes qt_field qt_generator qt_rest ct_bytes vt_version vt_total vt_holds vt_blocks vt_checks vt_shortLength vt_shortBlocks vt_filled vt_waiting vt_waitingBits vt_bytes) t.heap ∧ va_D A (ww_Codewords_set qt qt_bytes qt_field qt_generator qt_rest ct_bytes vt_version vt_total vt_holds vt_blocks vt_checks vt_shortLength vt_shortBlocks vt_filled vt_waiting vt_waitingBits vt_bytes)) A

set_option maxHeartbeats 4000000 in
set_option maxRecDepth 100000 in
theorem kt_Codewords_set (l : Launch) (dC : Nat → ClassId) (dI : Nat → Nat → Nat) (qt qt_bytes qt_field qt_generator qt_rest : Nat) (ct_bytes : ClassId) (vt_version : Int32) (vt_total : Int32) (vt_holds : Int32) (vt_blocks : Int32) (vt_checks : Int32) (vt_shortLength : Int32) (vt_shortBlocks : Int32) (vt_filled : Int32) (vt_waiting : Int32) (vt_waitingBits : Int32) (vt_bytes : Nat → Int32) (p1 : Int32) (p2 : Int32) (sz : Nat) (nvt_bytes : Nat → Int32) (Hf : fn_Codewords_set p1 p2 vt_bytes = some nvt_bytes) : Met l y_Codewords_set w_Codewords_set rm_Codewords_set (va_Pc [.ref qt, .int p1, .int p2] (fun U => U.heap.size = sz ∧ va_P (dC, dI) cl_All (ww_Codewords_set qt qt_bytes qt_field qt_generator qt_rest ct_bytes vt_version vt_total vt_holds vt_blocks vt_checks vt_shortLength vt_shortBlocks vt_filled vt_waiting vt_waitingBits vt_bytes) U.heap ∧ va_K (dC, dI) cl_All [(ct_bytes, .byte)] U ∧ va_D (fun _ => True) (ww_Codewords_set qt qt_bytes qt_field qt_generator qt_rest ct_bytes vt_version vt_total vt_holds vt_blocks vt_checks vt_shortLength vt_shortBlocks vt_filled vt_waiting vt_waitingBits vt_bytes))) (qc_Codewords_set dC dI (va_A (ww_Codewords_set qt qt_bytes qt_field qt_generator qt_rest ct_bytes vt_version vt_total vt_holds vt_blocks vt_checks vt_shortLength vt_shortBlocks vt_filled vt_waiting vt_waitingBits vt_bytes) sz) qt qt_bytes qt_field qt_generator qt_rest ct_bytes vt_version vt_total vt_holds vt_blocks vt_checks vt_shortLength vt_shortBlocks vt_filled vt_waiting vt_waitingBits nvt_bytes) 0 0 (va_A (ww_Codewords_set qt qt_bytes qt_field qt_generator qt_rest ct_bytes vt_version vt_total vt_holds vt_blocks vt_checks vt_shortLength vt_shortBlocks vt_filled vt_waiting vt_waitingBits vt_bytes) sz) := by
  refine Met.ofW (cc := prog_2_method_8_code) (maxL := 3) (ret := none) (by decide) rfl ?_
  intro p e s m args below meth c s₁ B hml hv
  obtain ⟨rfl, hsz, hP, hK, hD0⟩ := hv
  have hx := B.exec; have hb := B.bytes; have hr := B.returns; have hlocks := B.notSynchronized
  have ht : ∀ w ∈ lw_g, w.before _ s = true := fun w h => atoms_spec (ws := w_Codewords_set) B.pre w (List.mem_cons_of_mem _ h)
  have hown : s.vm.findClass "SquareSymbols$Codewords" = some m.cls := findClass_of_methodNamed B.named
  subst hsz
  have hD := hD0.self (sz := s.heap.size)
  generalize hAe : va_A (ww_Codewords_set qt qt_bytes qt_field qt_generator qt_rest ct_bytes vt_version vt_total vt_holds vt_blocks vt_checks vt_shortLength vt_shortBlocks vt_filled vt_waiting vt_waitingBits vt_bytes) s.heap.size = A at hD ⊢
  have hA : ∀ q : Nat, s.heap.size ≤ q → A q := fun q h => by rw [← hAe]; exact Or.inr h
  have hS : va_S A s.heap s.heap [] := va_S.rf
  have hl := lv_entry ([.ref qt, .int p1, .int p2]) (n := 3) (Nat.le_of_ble_eq_true rfl)
  rw [lg_entry_eq]
  generalize (lg_sl ([.ref qt, .int p1, .int p2]) ++ List.replicate (3 - (lg_sl ([.ref qt, .int p1, .int p2])).length) Slot.unset).toArray = ls at hl ⊢
  have hl : lv_has ls 3 [(0, .ref qt), (1, .int p1), (2, .int p2)] := hl
  refine lv_iload_n hx hb d_Codewords_set_0 rfl (lv_at hl 1 rfl) ?_
  refine lv_if_lt (tgt := 21) hx hb d_Codewords_set_1 (by decide) (fun c1 => ?_) (fun c1 => ?_)
  · replace Hf := sq_ite_t Hf c1
    obtain rfl := Option.some.inj Hf
    exact W.vret hx hb hr (fun t ht hW => ⟨⟨(), rfl, trivial, by rw [ht]; exact hP, hD⟩, hS.F ht⟩) hS.2.2 d_Codewords_set_21
  · replace Hf := sq_ite_f Hf c1
    refine lv_iload_n hx hb d_Codewords_set_4 rfl (lv_at hl 1 rfl) ?_
    refine lv_aload_n hx hb d_Codewords_set_5 rfl (lv_at hl 0 rfl) ?_
    refine va_get (D := (dC, dI)) (ci := 3) (v := .ref qt_bytes) (C := R_Codewords) (T := F_Codewords) (N := 14) hx hb ht i_Codewords hown hK hP 0 rfl rfl 1 (by decide) (ht _ tb_105) (fun _ h9 => h9) rfl d_Codewords_set_6 ?_
    refine va_alen hx hb hK hP 1 0 rfl rfl (v := (3706 : Int32)) rfl d_Codewords_set_9 ?_
    refine lv_icmp_ge (tgt := 21) hx hb d_Codewords_set_10 (by decide) (fun c2 => ?_) (fun c2 => ?_)
    · replace Hf := sq_ite_t Hf c2
      obtain rfl := Option.some.inj Hf
      exact W.vret hx hb hr (fun t ht hW => ⟨⟨(), rfl, trivial, by rw [ht]; exact hP, hD⟩, hS.F ht⟩) hS.2.2 d_Codewords_set_21
    · replace Hf := sq_ite_f Hf c2
      refine lv_aload_n hx hb d_Codewords_set_13 rfl (lv_at hl 0 rfl) ?_
      refine va_get (D := (dC, dI)) (ci := 3) (v := .ref qt_bytes) (C := R_Codewords) (T := F_Codewords) (N := 14) hx hb ht i_Codewords hown hK hP 0 rfl rfl 1 (by decide) (ht _ tb_105) (fun _ h9 => h9) rfl d_Codewords_set_14 ?_
      refine lv_iload_n hx hb d_Codewords_set_17 rfl (lv_at hl 1 rfl) ?_
      refine lv_iload_n hx hb d_Codewords_set_18 rfl (lv_at hl 2 rfl) ?_
      refine lv_i2b hx hb d_Codewords_set_19 rfl ?_
      obtain ⟨x3, ex3, Hf⟩ := sq_bd_e Hf
      refine sq_top ex3 ?_
      obtain ⟨hi4, Hf⟩ := sq_gi_e Hf
      obtain ⟨b5, eb5, Hf⟩ := sq_bd_e Hf
      refine va_bast hx hb hK hP hD hS 1 0 rfl rfl hi4 d_Codewords_set_20 (fun H locs hP hD hS => ?_)
      rw [← eb5] at hP hD
      replace hP : va_P (dC, dI) cl_All (ww_Codewords_set qt qt_bytes qt_field qt_generator qt_rest ct_bytes vt_version vt_total vt_holds vt_blocks vt_checks vt_shortLength vt_shortBlocks vt_filled vt_waiting vt_waitingBits b5) H := hP
      replace hD : va_D A (ww_Codewords_set qt qt_bytes qt_field qt_generator qt_rest ct_bytes vt_version vt_total vt_holds vt_blocks vt_checks vt_shortLength vt_shortBlocks vt_filled vt_waiting vt_waitingBits b5) := hD
      obtain rfl := Option.some.inj Hf
      exact W.vret hx hb hr (fun t ht hW => ⟨⟨(), rfl, trivial, by rw [ht]; exact hP, hD⟩, hS.F ht⟩) hS.2.2 d_Codewords_set_21

def fn_Codewords_blocks (vt_blocks : Int32) : Option (Int32) :=
  some (vt_blocks)
abbrev ww_Codewords_blocks (qt qt_field qt_bytes qt_generator qt_rest : Nat) (vt_version : Int32) (vt_total : Int32) (vt_holds : Int32) (vt_blocks : Int32) (vt_checks : Int32) (vt_shortLength : Int32) (vt_shortBlocks : Int32) (vt_filled : Int32) (vt_waiting : Int32) (vt_waitingBits : Int32) : va_W := [(qt, .inr (3, [.ref qt_field, .ref qt_bytes, .ref qt_generator, .ref qt_rest, .int vt_version, .int vt_total, .int vt_holds, .int vt_blocks, .int vt_checks, .int vt_shortLength, .int vt_shortBlocks, .int vt_filled, .int vt_waiting, .int vt_waitingBits]))]

def rm_Codewords_blocks : Room := { frames := 0, cells := 0, slots := 0, locals := 0 }
abbrev qc_Codewords_blocks (r0 : Int32) : Array Value → State → Outcome → State → Prop := vp_Si (fun r => r = r0)

set_option maxHeartbeats 4000000 in
set_option maxRecDepth 100000 in
theorem kt_Codewords_blocks (l : Launch) (dC : Nat → ClassId) (dI : Nat → Nat → Nat) (qt qt_field qt_bytes qt_generator qt_rest : Nat) (vt_version : Int32) (vt_total : Int32) (vt_holds : Int32) (vt_blocks : Int32) (vt_checks : Int32) (vt_shortLength : Int32) (vt_shortBlocks : Int32) (vt_filled : Int32) (vt_waiting : Int32) (vt_waitingBits : Int32) (r0 : Int32) (Hf : fn_Codewords_blocks vt_blocks = some r0) : Met l y_Codewords_blocks w_Codewords_blocks rm_Codewords_blocks (va_Pc [.ref qt] (fun U => va_P (dC, dI) cl_All (ww_Codewords_blocks qt qt_field qt_bytes qt_generator qt_rest vt_version vt_total vt_holds vt_blocks vt_checks vt_shortLength vt_shortBlocks vt_filled vt_waiting vt_waitingBits) U.heap ∧ va_K (dC, dI) cl_All [] U)) (qc_Codewords_blocks r0) 0 0 (fun _ => False) := by
  refine Met.ofW (cc := prog_2_method_5_code) (maxL := 1) (ret := (some .int)) (by decide) rfl ?_
  intro p e s m args below meth c s₁ B hml hv
  obtain ⟨rfl, hP, hK⟩ := hv
  have hx := B.exec; have hb := B.bytes; have hr := B.returns; have hlocks := B.notSynchronized
  have ht : ∀ w ∈ lw_g, w.before _ s = true := fun w h => atoms_spec (ws := w_Codewords_blocks) B.pre w (List.mem_cons_of_mem _ h)
  have hown : s.vm.findClass "SquareSymbols$Codewords" = some m.cls := findClass_of_methodNamed B.named
  have hl := lv_entry ([.ref qt]) (n := 1) (Nat.le_of_ble_eq_true rfl)
  rw [lg_entry_eq]
  generalize (lg_sl ([.ref qt]) ++ List.replicate (1 - (lg_sl ([.ref qt])).length) Slot.unset).toArray = ls at hl ⊢
  have hl : lv_has ls 1 [(0, .ref qt)] := hl
  refine lv_aload_n hx hb d_Codewords_blocks_0 rfl (lv_at hl 0 rfl) ?_
  refine va_get (D := (dC, dI)) (ci := 3) (v := .int vt_blocks) (C := R_Codewords) (T := F_Codewords) (N := 14) hx hb ht i_Codewords hown hK hP 0 rfl rfl 7 (by decide) (ht _ tb_111) (fun _ h9 => h9) rfl d_Codewords_blocks_1 ?_
  have er := Option.some.inj Hf
  exact W.iret hx hb hr (fun t ht hW => ⟨_, rfl, er, ht⟩) (fun q h => by cases h) d_Codewords_blocks_4

def fn_Codewords_checks (vt_checks : Int32) : Option (Int32) :=
  some (vt_checks)
abbrev ww_Codewords_checks (qt qt_field qt_bytes qt_generator qt_rest : Nat) (vt_version : Int32) (vt_total : Int32) (vt_holds : Int32) (vt_blocks : Int32) (vt_checks : Int32) (vt_shortLength : Int32) (vt_shortBlocks : Int32) (vt_filled : Int32) (vt_waiting : Int32) (vt_waitingBits : Int32) : va_W := [(qt, .inr (3, [.ref qt_field, .ref qt_bytes, .ref qt_generator, .ref qt_rest, .int vt_version, .int vt_total, .int vt_holds, .int vt_blocks, .int vt_checks, .int vt_shortLength, .int vt_shortBlocks, .int vt_filled, .int vt_waiting, .int vt_waitingBits]))]

def rm_Codewords_checks : Room := { frames := 0, cells := 0, slots := 0, locals := 0 }
abbrev qc_Codewords_checks (r0 : Int32) : Array Value → State → Outcome → State → Prop := vp_Si (fun r => r = r0)

set_option maxHeartbeats 4000000 in
set_option maxRecDepth 100000 in
theorem kt_Codewords_checks (l : Launch) (dC : Nat → ClassId) (dI : Nat → Nat → Nat) (qt qt_field qt_bytes qt_generator qt_rest : Nat) (vt_version : Int32) (vt_total : Int32) (vt_holds : Int32) (vt_blocks : Int32) (vt_checks : Int32) (vt_shortLength : Int32) (vt_shortBlocks : Int32) (vt_filled : Int32) (vt_waiting : Int32) (vt_waitingBits : Int32) (r0 : Int32) (Hf : fn_Codewords_checks vt_checks = some r0) : Met l y_Codewords_checks w_Codewords_checks rm_Codewords_checks (va_Pc [.ref qt] (fun U => va_P (dC, dI) cl_All (ww_Codewords_checks qt qt_field qt_bytes qt_generator qt_rest vt_version vt_total vt_holds vt_blocks vt_checks vt_shortLength vt_shortBlocks vt_filled vt_waiting vt_waitingBits) U.heap ∧ va_K (dC, dI) cl_All [] U)) (qc_Codewords_checks r0) 0 0 (fun _ => False) := by
  refine Met.ofW (cc := prog_2_method_6_code) (maxL := 1) (ret := (some .int)) (by decide) rfl ?_
  intro p e s m args below meth c s₁ B hml hv
  obtain ⟨rfl, hP, hK⟩ := hv
  have hx := B.exec; have hb := B.bytes; have hr := B.returns; have hlocks := B.notSynchronized
  have ht : ∀ w ∈ lw_g, w.before _ s = true := fun w h => atoms_spec (ws := w_Codewords_checks) B.pre w (List.mem_cons_of_mem _ h)
  have hown : s.vm.findClass "SquareSymbols$Codewords" = some m.cls := findClass_of_methodNamed B.named
  have hl := lv_entry ([.ref qt]) (n := 1) (Nat.le_of_ble_eq_true rfl)
  rw [lg_entry_eq]
  generalize (lg_sl ([.ref qt]) ++ List.replicate (1 - (lg_sl ([.ref qt])).length) Slot.unset).toArray = ls at hl ⊢
  have hl : lv_has ls 1 [(0, .ref qt)] := hl
  refine lv_aload_n hx hb d_Codewords_checks_0 rfl (lv_at hl 0 rfl) ?_
  refine va_get (D := (dC, dI)) (ci := 3) (v := .int vt_checks) (C := R_Codewords) (T := F_Codewords) (N := 14) hx hb ht i_Codewords hown hK hP 0 rfl rfl 8 (by decide) (ht _ tb_112) (fun _ h9 => h9) rfl d_Codewords_checks_1 ?_
  have er := Option.some.inj Hf
  exact W.iret hx hb hr (fun t ht hW => ⟨_, rfl, er, ht⟩) (fun q h => by cases h) d_Codewords_checks_4

def fn_Codewords_get (p1 : Int32) (vt_bytes : Nat → Int32) : Option (Int32) :=
  if p1 < 0 then (some ((0 : Int32))) else (if (3706 : Int32) ≤ p1 then (some ((0 : Int32))) else (sq_gi p1 3706 <| sq_bd (vt_bytes p1.toNatClampNeg) fun x4 => some (x4 &&& (255 : Int32))))
abbrev ww_Codewords_get (qt qt_bytes qt_field qt_generator qt_rest : Nat) (ct_bytes : ClassId) (vt_version : Int32) (vt_total : Int32) (vt_holds : Int32) (vt_blocks : Int32) (vt_checks : Int32) (vt_shortLength : Int32) (vt_shortBlocks : Int32) (vt_filled : Int32) (vt_waiting : Int32) (vt_waitingBits : Int32) (vt_bytes : Nat → Int32) : va_W := [(qt, .inr (3, [.ref qt_field, .ref qt_bytes, .ref qt_generator, .ref qt_rest, .int vt_version, .int vt_total, .int vt_holds, .int vt_blocks, .int vt_checks, .int vt_shortLength, .int vt_shortBlocks, .int vt_filled, .int vt_waiting, .int vt_waitingBits])), (qt_bytes, .inl (ct_bytes, 3706, .inl vt_bytes))]

def rm_Codewords_get : Room := { frames := 0, cells := 0, slots := 0, locals := 0 }
abbrev qc_Codewords_get (r0 : Int32) : Array Value → State → Outcome → State → Prop := vp_Si (fun r => r = r0)

set_option maxHeartbeats 4000000 in
set_option maxRecDepth 100000 in
theorem kt_Codewords_get (l : Launch) (dC : Nat → ClassId) (dI : Nat → Nat → Nat) (qt qt_bytes qt_field qt_generator qt_rest : Nat) (ct_bytes : ClassId) (vt_version : Int32) (vt_total : Int32) (vt_holds : Int32) (vt_blocks : Int32) (vt_checks : Int32) (vt_shortLength : Int32) (vt_shortBlocks : Int32) (vt_filled : Int32) (vt_waiting : Int32) (vt_waitingBits : Int32) (vt_bytes : Nat → Int32) (p1 : Int32) (r0 : Int32) (Hf : fn_Codewords_get p1 vt_bytes = some r0) : Met l y_Codewords_get w_Codewords_get rm_Codewords_get (va_Pc [.ref qt, .int p1] (fun U => va_P (dC, dI) cl_All (ww_Codewords_get qt qt_bytes qt_field qt_generator qt_rest ct_bytes vt_version vt_total vt_holds vt_blocks vt_checks vt_shortLength vt_shortBlocks vt_filled vt_waiting vt_waitingBits vt_bytes) U.heap ∧ va_K (dC, dI) cl_All [(ct_bytes, .byte)] U)) (qc_Codewords_get r0) 0 0 (fun _ => False) := by
  refine Met.ofW (cc := prog_2_method_7_code) (maxL := 2) (ret := (some .int)) (by decide) rfl ?_
  intro p e s m args below meth c s₁ B hml hv
  obtain ⟨rfl, hP, hK⟩ := hv
  have hx := B.exec; have hb := B.bytes; have hr := B.returns; have hlocks := B.notSynchronized
  have ht : ∀ w ∈ lw_g, w.before _ s = true := fun w h => atoms_spec (ws := w_Codewords_get) B.pre w (List.mem_cons_of_mem _ h)
  have hown : s.vm.findClass "SquareSymbols$Codewords" = some m.cls := findClass_of_methodNamed B.named
  have hl := lv_entry ([.ref qt, .int p1]) (n := 2) (Nat.le_of_ble_eq_true rfl)
  rw [lg_entry_eq]
  generalize (lg_sl ([.ref qt, .int p1]) ++ List.replicate (2 - (lg_sl ([.ref qt, .int p1])).length) Slot.unset).toArray = ls at hl ⊢
  have hl : lv_has ls 2 [(0, .ref qt), (1, .int p1)] := hl
  refine lv_iload_n hx hb d_Codewords_get_0 rfl (lv_at hl 1 rfl) ?_
  refine lv_if_lt (tgt := 26) hx hb d_Codewords_get_1 (by decide) (fun c1 => ?_) (fun c1 => ?_)
  · replace Hf := sq_ite_t Hf c1
    refine lv_iconst (v := (0 : Int32)) hx hb d_Codewords_get_26 (by decide) ?_
    have er := Option.some.inj Hf
    exact W.iret hx hb hr (fun t ht hW => ⟨_, rfl, er, ht⟩) (fun q h => by cases h) d_Codewords_get_27
  · replace Hf := sq_ite_f Hf c1
    refine lv_iload_n hx hb d_Codewords_get_4 rfl (lv_at hl 1 rfl) ?_
    refine lv_aload_n hx hb d_Codewords_get_5 rfl (lv_at hl 0 rfl) ?_
    refine va_get (D := (dC, dI)) (ci := 3) (v := .ref qt_bytes) (C := R_Codewords) (T := F_Codewords) (N := 14) hx hb ht i_Codewords hown hK hP 0 rfl rfl 1 (by decide) (ht _ tb_105) (fun _ h9 => h9) rfl d_Codewords_get_6 ?_
    refine va_alen hx hb hK hP 1 0 rfl rfl (v := (3706 : Int32)) rfl d_Codewords_get_9 ?_
    refine lv_icmp_ge (tgt := 26) hx hb d_Codewords_get_10 (by decide) (fun c2 => ?_) (fun c2 => ?_)
    · replace Hf := sq_ite_t Hf c2
      refine lv_iconst (v := (0 : Int32)) hx hb d_Codewords_get_26 (by decide) ?_
      have er := Option.some.inj Hf
      exact W.iret hx hb hr (fun t ht hW => ⟨_, rfl, er, ht⟩) (fun q h => by cases h) d_Codewords_get_27
    · replace Hf := sq_ite_f Hf c2
      refine lv_aload_n hx hb d_Codewords_get_13 rfl (lv_at hl 0 rfl) ?_
      refine va_get (D := (dC, dI)) (ci := 3) (v := .ref qt_bytes) (C := R_Codewords) (T := F_Codewords) (N := 14) hx hb ht i_Codewords hown hK hP 0 rfl rfl 1 (by decide) (ht _ tb_105) (fun _ h9 => h9) rfl d_Codewords_get_14 ?_
      refine lv_iload_n hx hb d_Codewords_get_17 rfl (lv_at hl 1 rfl) ?_
      obtain ⟨hi3, Hf⟩ := sq_gi_e Hf
      refine va_bald hx hb hK hP 1 0 rfl rfl hi3 d_Codewords_get_18 ?_
      obtain ⟨x4, ex4, Hf⟩ := sq_bd_e Hf
      refine sq_top ex4 ?_
      refine lv_sipush (v := (255 : Int32)) hx hb d_Codewords_get_19 (by decide) ?_
      refine lv_iand hx hb d_Codewords_get_22 ?_
      refine lv_goto (tgt := 27) hx hb d_Codewords_get_23 (by decide) ?_
      have er := Option.some.inj Hf
      exact W.iret hx hb hr (fun t ht hW => ⟨_, rfl, er, ht⟩) (fun q h => by cases h) d_Codewords_get_27

def fn_Codewords_holds (vt_holds : Int32) : Option (Int32) :=
  some (vt_holds)
abbrev ww_Codewords_holds (qt qt_field qt_bytes qt_generator qt_rest : Nat) (vt_version : Int32) (vt_total : Int32) (vt_holds : Int32) (vt_blocks : Int32) (vt_checks : Int32) (vt_shortLength : Int32) (vt_shortBlocks : Int32) (vt_filled : Int32) (vt_waiting : Int32) (vt_waitingBits : Int32) : va_W := [(qt, .inr (3, [.ref qt_field, .ref qt_bytes, .ref qt_generator, .ref qt_rest, .int vt_version, .int vt_total, .int vt_holds, .int vt_blocks, .int vt_checks, .int vt_shortLength, .int vt_shortBlocks, .int vt_filled, .int vt_waiting, .int vt_waitingBits]))]

def rm_Codewords_holds : Room := { frames := 0, cells := 0, slots := 0, locals := 0 }
abbrev qc_Codewords_holds (r0 : Int32) : Array Value → State → Outcome → State → Prop := vp_Si (fun r => r = r0)

set_option maxHeartbeats 4000000 in
set_option maxRecDepth 100000 in
theorem kt_Codewords_holds (l : Launch) (dC : Nat → ClassId) (dI : Nat → Nat → Nat) (qt qt_field qt_bytes qt_generator qt_rest : Nat) (vt_version : Int32) (vt_total : Int32) (vt_holds : Int32) (vt_blocks : Int32) (vt_checks : Int32) (vt_shortLength : Int32) (vt_shortBlocks : Int32) (vt_filled : Int32) (vt_waiting : Int32) (vt_waitingBits : Int32) (r0 : Int32) (Hf : fn_Codewords_holds vt_holds = some r0) : Met l y_Codewords_holds w_Codewords_holds rm_Codewords_holds (va_Pc [.ref qt] (fun U => va_P (dC, dI) cl_All (ww_Codewords_holds qt qt_field qt_bytes qt_generator qt_rest vt_version vt_total vt_holds vt_blocks vt_checks vt_shortLength vt_shortBlocks vt_filled vt_waiting vt_waitingBits) U.heap ∧ va_K (dC, dI) cl_All [] U)) (qc_Codewords_holds r0) 0 0 (fun _ => False) := by
  refine Met.ofW (cc := prog_2_method_4_code) (maxL := 1) (ret := (some .int)) (by decide) rfl ?_
  intro p e s m args below meth c s₁ B hml hv
  obtain ⟨rfl, hP, hK⟩ := hv
  have hx := B.exec; have hb := B.bytes; have hr := B.returns; have hlocks := B.notSynchronized
  have ht : ∀ w ∈ lw_g, w.before _ s = true := fun w h => atoms_spec (ws := w_Codewords_holds) B.pre w (List.mem_cons_of_mem _ h)
  have hown : s.vm.findClass "SquareSymbols$Codewords" = some m.cls := findClass_of_methodNamed B.named
  have hl := lv_entry ([.ref qt]) (n := 1) (Nat.le_of_ble_eq_true rfl)
  rw [lg_entry_eq]
  generalize (lg_sl ([.ref qt]) ++ List.replicate (1 - (lg_sl ([.ref qt])).length) Slot.unset).toArray = ls at hl ⊢
  have hl : lv_has ls 1 [(0, .ref qt)] := hl
  refine lv_aload_n hx hb d_Codewords_holds_0 rfl (lv_at hl 0 rfl) ?_
  refine va_get (D := (dC, dI)) (ci := 3) (v := .int vt_holds) (C := R_Codewords) (T := F_Codewords) (N := 14) hx hb ht i_Codewords hown hK hP 0 rfl rfl 6 (by decide) (ht _ tb_110) (fun _ h9 => h9) rfl d_Codewords_holds_1 ?_
  have er := Option.some.inj Hf
  exact W.iret hx hb hr (fun t ht hW => ⟨_, rfl, er, ht⟩) (fun q h => by cases h) d_Codewords_holds_4

def fn_Codewords_appendBits_L1 (x1 : Int32) (k6 : Int32 → Int32 → (Nat → Int32) → Option (Int32 × Int32 × Int32 × (Nat → Int32))) : Nat → Int32 → Int32 → (Nat → Int32) → Option (Int32 × Int32 × Int32 × (Nat → Int32))
  | 0, _, _, _ => none
  | m1 + 1, b8, b9, b10 => if b9 < (8 : Int32) then (k6 b8 b9 b10) else (sq_bd (b9 - (8 : Int32)) fun x12 => sq_cb1 (fn_Codewords_set b8 (x1 >>> (x12 &&& 31)) b10) fun b13 => sq_bd (b8 + (1 : Int32)) fun x15 => fn_Codewords_appendBits_L1 x1 k6 m1 x15 x12 b13)
theorem fn_Codewords_appendBits_L1_s (x1 : Int32) (k6 : Int32 → Int32 → (Nat → Int32) → Option (Int32 × Int32 × Int32 × (Nat → Int32))) (m1 : Nat) (b8 : Int32) (b9 : Int32) (b10 : Nat → Int32) : fn_Codewords_appendBits_L1 x1 k6 (m1 + 1) b8 b9 b10 = if b9 < (8 : Int32) then (k6 b8 b9 b10) else (sq_bd (b9 - (8 : Int32)) fun x12 => sq_cb1 (fn_Codewords_set b8 (x1 >>> (x12 &&& 31)) b10) fun b13 => sq_bd (b8 + (1 : Int32)) fun x15 => fn_Codewords_appendBits_L1 x1 k6 m1 x15 x12 b13) := rfl
def fn_Codewords_appendBits (n0 : Nat) (p1 : Int32) (p2 : Int32) (vt_filled : Int32) (vt_waiting : Int32) (vt_waitingBits : Int32) (vt_bytes : Nat → Int32) : Option (Int32 × Int32 × Int32 × (Nat → Int32)) :=
  sq_bd ((vt_waiting <<< (p2 &&& 31)) ||| p1) fun x1 => sq_bd (vt_waitingBits + p2) fun x2 => sq_jn (fun (b3 : Int32) (b4 : Int32) (b5 : Nat → Int32) => sq_bd (x1 &&& (((1 : Int32) <<< (b4 &&& 31)) - (1 : Int32))) fun x7 => some (b3, x7, b4, b5)) fun k6 => fn_Codewords_appendBits_L1 x1 k6 n0 vt_filled x2 vt_bytes
abbrev ww_Codewords_appendBits (qt qt_bytes qt_field qt_generator qt_rest : Nat) (ct_bytes : ClassId) (vt_version : Int32) (vt_total : Int32) (vt_holds : Int32) (vt_blocks : Int32) (vt_checks : Int32) (vt_shortLength : Int32) (vt_shortBlocks : Int32) (vt_filled : Int32) (vt_waiting : Int32) (vt_waitingBits : Int32) (vt_bytes : Nat → Int32) : va_W := [(qt, .inr (3, [.ref qt_field, .ref qt_bytes, .ref qt_generator, .ref qt_rest, .int vt_version, .int vt_total, .int vt_holds, .int vt_blocks, .int vt_checks, .int vt_shortLength, .int vt_shortBlocks, .int vt_filled, .int vt_waiting, .int vt_waitingBits])), (qt_bytes, .inl (ct_bytes, 3706, .inl vt_bytes))]

def rm_Codewords_appendBits : Room := { frames := 1, cells := 0, slots := 0, locals := 22 }
abbrev qc_Codewords_appendBits (dC : Nat → ClassId) (dI : Nat → Nat → Nat) (A : Nat → Prop) (qt qt_bytes qt_field qt_generator qt_rest : Nat) (ct_bytes : ClassId) (vt_version : Int32) (vt_total : Int32) (vt_holds : Int32) (vt_blocks : Int32) (vt_checks : Int32) (vt_shortLength : Int32) (vt_shortBlocks : Int32) (vt_filled : Int32) (vt_waiting : Int32) (vt_waitingBits : Int32) (vt_bytes : Nat → Int32) : Array Value → State → Outcome → State → Prop := va_Qv (fun (_ : Unit) => True) (fun _ t => va_P (dC, dI) cl_All (ww_Codewords_appendBits qt qt_bytes qt_field qt_generator qt_rest ct_bytes vt_version vt_total vt_holds vt_blocks vt_checks vt_shortLength vt_shortBlocks vt_filled vt_waiting vt_waitingBits vt_bytes) t.heap ∧ va_D A (ww_Codewords_appendBits qt qt_bytes qt_field qt_generator qt_rest ct_bytes vt_version vt_total vt_holds vt_blocks vt_checks vt_shortLength vt_shortBlocks vt_filled vt_waiting vt_waitingBits vt_bytes)) A

set_option maxHeartbeats 4000000 in
set_option maxRecDepth 100000 in
theorem kt_Codewords_appendBits (l : Launch) (dC : Nat → ClassId) (dI : Nat → Nat → Nat) (qt qt_bytes qt_field qt_generator qt_rest : Nat) (ct_bytes : ClassId) (vt_version : Int32) (vt_total : Int32) (vt_holds : Int32) (vt_blocks : Int32) (vt_checks : Int32) (vt_shortLength : Int32) (vt_shortBlocks : Int32) (vt_filled : Int32) (vt_waiting : Int32) (vt_waitingBits : Int32) (vt_bytes : Nat → Int32) (p1 : Int32) (p2 : Int32) (sz : Nat) (n0 : Nat) (nvt_filled : Int32) (nvt_waiting : Int32) (nvt_waitingBits : Int32) (nvt_bytes : Nat → Int32) (Hf : fn_Codewords_appendBits n0 p1 p2 vt_filled vt_waiting vt_waitingBits vt_bytes = some (nvt_filled, nvt_waiting, nvt_waitingBits, nvt_bytes)) : Met l y_Codewords_appendBits w_Codewords_appendBits rm_Codewords_appendBits (va_Pc [.ref qt, .int p1, .int p2] (fun U => U.heap.size = sz ∧ va_P (dC, dI) cl_All (ww_Codewords_appendBits qt qt_bytes qt_field qt_generator qt_rest ct_bytes vt_version vt_total vt_holds vt_blocks vt_checks vt_shortLength vt_shortBlocks vt_filled vt_waiting vt_waitingBits vt_bytes) U.heap ∧ va_K (dC, dI) cl_All [(ct_bytes, .byte)] U ∧ va_D (fun _ => True) (ww_Codewords_appendBits qt qt_bytes qt_field qt_generator qt_rest ct_bytes vt_version vt_total vt_holds vt_blocks vt_checks vt_shortLength vt_shortBlocks vt_filled vt_waiting vt_waitingBits vt_bytes))) (qc_Codewords_appendBits dC dI (va_A (ww_Codewords_appendBits qt qt_bytes qt_field qt_generator qt_rest ct_bytes vt_version vt_total vt_holds vt_blocks vt_checks vt_shortLength vt_shortBlocks vt_filled vt_waiting vt_waitingBits vt_bytes) sz) qt qt_bytes qt_field qt_generator qt_rest ct_bytes vt_version vt_total vt_holds vt_blocks vt_checks vt_shortLength vt_shortBlocks nvt_filled nvt_waiting nvt_waitingBits nvt_bytes) 0 0 (va_A (ww_Codewords_appendBits qt qt_bytes qt_field qt_generator qt_rest ct_bytes vt_version vt_total vt_holds vt_blocks vt_checks vt_shortLength vt_shortBlocks vt_filled vt_waiting vt_waitingBits vt_bytes) sz) := by
  refine Met.ofW (cc := prog_2_method_14_code) (maxL := 3) (ret := none) (by decide) rfl ?_
  intro p e s m args below meth c s₁ B hml hv
  obtain ⟨rfl, hsz, hP, hK, hD0⟩ := hv
  have hx := B.exec; have hb := B.bytes; have hr := B.returns; have hlocks := B.notSynchronized
  have ht : ∀ w ∈ lw_g, w.before _ s = true := fun w h => atoms_spec (ws := w_Codewords_appendBits) B.pre w (List.mem_cons_of_mem _ h)
  have hown : s.vm.findClass "SquareSymbols$Codewords" = some m.cls := findClass_of_methodNamed B.named
  subst hsz
  have hD := hD0.self (sz := s.heap.size)
  generalize hAe : va_A (ww_Codewords_appendBits qt qt_bytes qt_field qt_generator qt_rest ct_bytes vt_version vt_total vt_holds vt_blocks vt_checks vt_shortLength vt_shortBlocks vt_filled vt_waiting vt_waitingBits vt_bytes) s.heap.size = A at hD ⊢
  have hA : ∀ q : Nat, s.heap.size ≤ q → A q := fun q h => by rw [← hAe]; exact Or.inr h
  have hS : va_S A s.heap s.heap [] := va_S.rf
  have hl := lv_entry ([.ref qt, .int p1, .int p2]) (n := 3) (Nat.le_of_ble_eq_true rfl)
  rw [lg_entry_eq]
  generalize (lg_sl ([.ref qt, .int p1, .int p2]) ++ List.replicate (3 - (lg_sl ([.ref qt, .int p1, .int p2])).length) Slot.unset).toArray = ls at hl ⊢
  have hl : lv_has ls 3 [(0, .ref qt), (1, .int p1), (2, .int p2)] := hl
  refine lv_aload_n hx hb d_Codewords_appendBits_0 rfl (lv_at hl 0 rfl) ?_
  refine lv_aload_n hx hb d_Codewords_appendBits_1 rfl (lv_at hl 0 rfl) ?_
  refine va_get (D := (dC, dI)) (ci := 3) (v := .int vt_waiting) (C := R_Codewords) (T := F_Codewords) (N := 14) hx hb ht i_Codewords hown hK hP 0 rfl rfl 12 (by decide) (ht _ tb_116) (fun _ h9 => h9) rfl d_Codewords_appendBits_2 ?_
  refine lv_iload_n hx hb d_Codewords_appendBits_5 rfl (lv_at hl 2 rfl) ?_
  refine lv_ishl hx hb d_Codewords_appendBits_6 ?_
  refine lv_iload_n hx hb d_Codewords_appendBits_7 rfl (lv_at hl 1 rfl) ?_
  refine lv_ior hx hb d_Codewords_appendBits_8 ?_
  obtain ⟨x1, ex1, Hf⟩ := sq_bd_e Hf
  refine sq_top ex1 ?_
  refine va_put (D := (dC, dI)) (ci := 3) (v := .int x1) (ty := .int) (C := R_Codewords) (T := F_Codewords) (N := 14) hx hb ht i_Codewords t_Codewords t_Codewords_ok n_Codewords hown hK hP hD hS 0 rfl rfl 12 (by decide) (ht _ tb_116) (fun _ h9 => h9) rfl (by decide +kernel) rfl rfl (Nat.le_of_ble_eq_true rfl) d_Codewords_appendBits_9 (fun H locs hP hD hS => ?_)
  replace hP : va_P (dC, dI) cl_All (ww_Codewords_appendBits qt qt_bytes qt_field qt_generator qt_rest ct_bytes vt_version vt_total vt_holds vt_blocks vt_checks vt_shortLength vt_shortBlocks vt_filled x1 vt_waitingBits vt_bytes) H := hP
  replace hD : va_D A (ww_Codewords_appendBits qt qt_bytes qt_field qt_generator qt_rest ct_bytes vt_version vt_total vt_holds vt_blocks vt_checks vt_shortLength vt_shortBlocks vt_filled x1 vt_waitingBits vt_bytes) := hD
  refine lv_aload_n hx hb d_Codewords_appendBits_12 rfl (lv_at hl 0 rfl) ?_
  refine lv_dup hx hb d_Codewords_appendBits_13 rfl ?_
  refine va_get (D := (dC, dI)) (ci := 3) (v := .int vt_waitingBits) (C := R_Codewords) (T := F_Codewords) (N := 14) hx hb ht i_Codewords hown hK hP 0 rfl rfl 13 (by decide) (ht _ tb_117) (fun _ h9 => h9) rfl d_Codewords_appendBits_14 ?_
  refine lv_iload_n hx hb d_Codewords_appendBits_17 rfl (lv_at hl 2 rfl) ?_
  refine lv_iadd hx hb d_Codewords_appendBits_18 ?_
  obtain ⟨x2, ex2, Hf⟩ := sq_bd_e Hf
  refine sq_top ex2 ?_
  refine va_put (D := (dC, dI)) (ci := 3) (v := .int x2) (ty := .int) (C := R_Codewords) (T := F_Codewords) (N := 14) hx hb ht i_Codewords t_Codewords t_Codewords_ok n_Codewords hown hK hP hD hS 0 rfl rfl 13 (by decide) (ht _ tb_117) (fun _ h9 => h9) rfl (by decide +kernel) rfl rfl (Nat.le_of_ble_eq_true rfl) d_Codewords_appendBits_19 (fun H locs hP hD hS => ?_)
  replace hP : va_P (dC, dI) cl_All (ww_Codewords_appendBits qt qt_bytes qt_field qt_generator qt_rest ct_bytes vt_version vt_total vt_holds vt_blocks vt_checks vt_shortLength vt_shortBlocks vt_filled x1 x2 vt_bytes) H := hP
  replace hD : va_D A (ww_Codewords_appendBits qt qt_bytes qt_field qt_generator qt_rest ct_bytes vt_version vt_total vt_holds vt_blocks vt_checks vt_shortLength vt_shortBlocks vt_filled x1 x2 vt_bytes) := hD
  obtain ⟨k6, hk6, Hf⟩ := sq_jn_e Hf
  have Jk6 : ∀ (b3 : Int32) (b4 : Int32) (b5 : Nat → Int32), k6 b3 b4 b5 = some (nvt_filled, nvt_waiting, nvt_waitingBits, nvt_bytes) → ∀ (H : Heap) (locs : List Loc), va_P (dC, dI) cl_All (ww_Codewords_appendBits qt qt_bytes qt_field qt_generator qt_rest ct_bytes vt_version vt_total vt_holds vt_blocks vt_checks vt_shortLength vt_shortBlocks b3 x1 b4 b5) H → va_D A (ww_Codewords_appendBits qt qt_bytes qt_field qt_generator qt_rest ct_bytes vt_version vt_total vt_holds vt_blocks vt_checks vt_shortLength vt_shortBlocks b3 x1 b4 b5) → va_S A s.heap H locs → ∀ ls : Array Slot, lv_has ls 3 [(0, .ref qt)] → W p l e (headSpec w_Codewords_appendBits rm_Codewords_appendBits).room s m (([.ref qt, .int p1, .int p2] : List Value).toArray) below meth c H locs 0 0 (MQ below (qc_Codewords_appendBits dC dI A qt qt_bytes qt_field qt_generator qt_rest ct_bytes vt_version vt_total vt_holds vt_blocks vt_checks vt_shortLength vt_shortBlocks nvt_filled nvt_waiting nvt_waitingBits nvt_bytes) (([.ref qt, .int p1, .int p2] : List Value).toArray) s 0 0 A) (F0 m 72 ls []) := by
    intro b3 b4 b5 Hf H locs  hP hD hS ls hl
    rw [hk6] at Hf
    refine lv_aload_n hx hb d_Codewords_appendBits_72 rfl (lv_at hl 0 rfl) ?_
    refine lv_dup hx hb d_Codewords_appendBits_73 rfl ?_
    refine va_get (D := (dC, dI)) (ci := 3) (v := .int x1) (C := R_Codewords) (T := F_Codewords) (N := 14) hx hb ht i_Codewords hown hK hP 0 rfl rfl 12 (by decide) (ht _ tb_116) (fun _ h9 => h9) rfl d_Codewords_appendBits_74 ?_
    refine lv_iconst (v := (1 : Int32)) hx hb d_Codewords_appendBits_77 (by decide) ?_
    refine lv_aload_n hx hb d_Codewords_appendBits_78 rfl (lv_at hl 0 rfl) ?_
    refine va_get (D := (dC, dI)) (ci := 3) (v := .int b4) (C := R_Codewords) (T := F_Codewords) (N := 14) hx hb ht i_Codewords hown hK hP 0 rfl rfl 13 (by decide) (ht _ tb_117) (fun _ h9 => h9) rfl d_Codewords_appendBits_79 ?_
    refine lv_ishl hx hb d_Codewords_appendBits_82 ?_
    refine lv_iconst (v := (1 : Int32)) hx hb d_Codewords_appendBits_83 (by decide) ?_
    refine lv_isub hx hb d_Codewords_appendBits_84 ?_
    refine lv_iand hx hb d_Codewords_appendBits_85 ?_
    obtain ⟨x7, ex7, Hf⟩ := sq_bd_e Hf
    refine sq_top ex7 ?_
    refine va_put (D := (dC, dI)) (ci := 3) (v := .int x7) (ty := .int) (C := R_Codewords) (T := F_Codewords) (N := 14) hx hb ht i_Codewords t_Codewords t_Codewords_ok n_Codewords hown hK hP hD hS 0 rfl rfl 12 (by decide) (ht _ tb_116) (fun _ h9 => h9) rfl (by decide +kernel) rfl rfl (Nat.le_of_ble_eq_true rfl) d_Codewords_appendBits_86 (fun H locs hP hD hS => ?_)
    replace hP : va_P (dC, dI) cl_All (ww_Codewords_appendBits qt qt_bytes qt_field qt_generator qt_rest ct_bytes vt_version vt_total vt_holds vt_blocks vt_checks vt_shortLength vt_shortBlocks b3 x7 b4 b5) H := hP
    replace hD : va_D A (ww_Codewords_appendBits qt qt_bytes qt_field qt_generator qt_rest ct_bytes vt_version vt_total vt_holds vt_blocks vt_checks vt_shortLength vt_shortBlocks b3 x7 b4 b5) := hD
    obtain ⟨rfl, rfl, rfl, rfl⟩ := sq_so4 Hf
    exact W.vret hx hb hr (fun t ht hW => ⟨⟨(), rfl, trivial, by rw [ht]; exact hP, hD⟩, hS.F ht⟩) hS.2.2 d_Codewords_appendBits_89
  have L1 : ∀ (m1 : Nat), ∀ (b8 : Int32) (b9 : Int32) (b10 : Nat → Int32), fn_Codewords_appendBits_L1 x1 k6 m1 b8 b9 b10 = some (nvt_filled, nvt_waiting, nvt_waitingBits, nvt_bytes) → ∀ (H : Heap) (locs : List Loc), va_P (dC, dI) cl_All (ww_Codewords_appendBits qt qt_bytes qt_field qt_generator qt_rest ct_bytes vt_version vt_total vt_holds vt_blocks vt_checks vt_shortLength vt_shortBlocks b8 x1 b9 b10) H → va_D A (ww_Codewords_appendBits qt qt_bytes qt_field qt_generator qt_rest ct_bytes vt_version vt_total vt_holds vt_blocks vt_checks vt_shortLength vt_shortBlocks b8 x1 b9 b10) → va_S A s.heap H locs → ∀ ls : Array Slot, lv_has ls 3 [(0, .ref qt)] → W p l e (headSpec w_Codewords_appendBits rm_Codewords_appendBits).room s m (([.ref qt, .int p1, .int p2] : List Value).toArray) below meth c H locs 0 0 (MQ below (qc_Codewords_appendBits dC dI A qt qt_bytes qt_field qt_generator qt_rest ct_bytes vt_version vt_total vt_holds vt_blocks vt_checks vt_shortLength vt_shortBlocks nvt_filled nvt_waiting nvt_waitingBits nvt_bytes) (([.ref qt, .int p1, .int p2] : List Value).toArray) s 0 0 A) (F0 m 22 ls []) := by
    intro m1
    induction m1 with
    | zero => intro b8 b9 b10 Hf; exact sq_none Hf
    | succ m1 ih1 =>
      intro b8 b9 b10 Hf H locs  hP hD hS ls hl
      replace Hf := (fn_Codewords_appendBits_L1_s x1 k6 m1 b8 b9 b10).symm.trans Hf
      refine lv_aload_n hx hb d_Codewords_appendBits_22 rfl (lv_at hl 0 rfl) ?_
      refine va_get (D := (dC, dI)) (ci := 3) (v := .int b9) (C := R_Codewords) (T := F_Codewords) (N := 14) hx hb ht i_Codewords hown hK hP 0 rfl rfl 13 (by decide) (ht _ tb_117) (fun _ h9 => h9) rfl d_Codewords_appendBits_23 ?_
      refine lv_bipush (v := (8 : Int32)) hx hb d_Codewords_appendBits_26 (by decide) ?_
      refine lv_icmp_lt (tgt := 72) hx hb d_Codewords_appendBits_28 (by decide) (fun c11 => ?_) (fun c11 => ?_)
      · replace Hf := sq_ite_t Hf c11
        exact Jk6 b8 b9 b10 Hf _ _  hP hD hS _ (lv_sub hl [0] rfl)
      · replace Hf := sq_ite_f Hf c11
        refine lv_aload_n hx hb d_Codewords_appendBits_31 rfl (lv_at hl 0 rfl) ?_
        refine lv_dup hx hb d_Codewords_appendBits_32 rfl ?_
        refine va_get (D := (dC, dI)) (ci := 3) (v := .int b9) (C := R_Codewords) (T := F_Codewords) (N := 14) hx hb ht i_Codewords hown hK hP 0 rfl rfl 13 (by decide) (ht _ tb_117) (fun _ h9 => h9) rfl d_Codewords_appendBits_33 ?_
        refine lv_bipush (v := (8 : Int32)) hx hb d_Codewords_appendBits_36 (by decide) ?_
        refine lv_isub hx hb d_Codewords_appendBits_38 ?_
        obtain ⟨x12, ex12, Hf⟩ := sq_bd_e Hf
        refine sq_top ex12 ?_
        refine va_put (D := (dC, dI)) (ci := 3) (v := .int x12) (ty := .int) (C := R_Codewords) (T := F_Codewords) (N := 14) hx hb ht i_Codewords t_Codewords t_Codewords_ok n_Codewords hown hK hP hD hS 0 rfl rfl 13 (by decide) (ht _ tb_117) (fun _ h9 => h9) rfl (by decide +kernel) rfl rfl (Nat.le_of_ble_eq_true rfl) d_Codewords_appendBits_39 (fun H locs hP hD hS => ?_)
        replace hP : va_P (dC, dI) cl_All (ww_Codewords_appendBits qt qt_bytes qt_field qt_generator qt_rest ct_bytes vt_version vt_total vt_holds vt_blocks vt_checks vt_shortLength vt_shortBlocks b8 x1 x12 b10) H := hP
        replace hD : va_D A (ww_Codewords_appendBits qt qt_bytes qt_field qt_generator qt_rest ct_bytes vt_version vt_total vt_holds vt_blocks vt_checks vt_shortLength vt_shortBlocks b8 x1 x12 b10) := hD
        refine lv_aload_n hx hb d_Codewords_appendBits_42 rfl (lv_at hl 0 rfl) ?_
        refine lv_aload_n hx hb d_Codewords_appendBits_43 rfl (lv_at hl 0 rfl) ?_
        refine va_get (D := (dC, dI)) (ci := 3) (v := .int b8) (C := R_Codewords) (T := F_Codewords) (N := 14) hx hb ht i_Codewords hown hK hP 0 rfl rfl 11 (by decide) (ht _ tb_115) (fun _ h9 => h9) rfl d_Codewords_appendBits_44 ?_
        refine lv_aload_n hx hb d_Codewords_appendBits_47 rfl (lv_at hl 0 rfl) ?_
        refine va_get (D := (dC, dI)) (ci := 3) (v := .int x1) (C := R_Codewords) (T := F_Codewords) (N := 14) hx hb ht i_Codewords hown hK hP 0 rfl rfl 12 (by decide) (ht _ tb_116) (fun _ h9 => h9) rfl d_Codewords_appendBits_48 ?_
        refine lv_aload_n hx hb d_Codewords_appendBits_51 rfl (lv_at hl 0 rfl) ?_
        refine va_get (D := (dC, dI)) (ci := 3) (v := .int x12) (C := R_Codewords) (T := F_Codewords) (N := 14) hx hb ht i_Codewords hown hK hP 0 rfl rfl 13 (by decide) (ht _ tb_117) (fun _ h9 => h9) rfl d_Codewords_appendBits_52 ?_
        refine lv_ishr hx hb d_Codewords_appendBits_55 ?_
        obtain ⟨b13, hc14, Hf⟩ := sq_cb1_e Hf
        refine sq_rwv (wn := (ww_Codewords_appendBits qt qt_bytes qt_field qt_generator qt_rest ct_bytes vt_version vt_total vt_holds vt_blocks vt_checks vt_shortLength vt_shortBlocks b8 x1 x12 b13)) (va_runV (As := [.int b8, .int (x1 >>> (x12 &&& 31))]) (rest := []) ⟨hx, hb, hml, hown, ht⟩ (kt_Codewords_set l dC dI qt qt_bytes qt_field qt_generator qt_rest ct_bytes vt_version vt_total vt_holds vt_blocks vt_checks vt_shortLength vt_shortBlocks b8 x1 x12 b10 b8 (x1 >>> (x12 &&& 31)) H.size b13 hc14) (cwV 2 ht (sq_gV tb_937 tb_514 tb_515 tb_5 tb_516) rfl rfl rfl (by decide +kernel) ⟨Nat.le_of_ble_eq_true rfl, Nat.le_of_ble_eq_true rfl⟩) (sq_rwV (hP.sub (ws' := (ww_Codewords_set qt qt_bytes qt_field qt_generator qt_rest ct_bytes vt_version vt_total vt_holds vt_blocks vt_checks vt_shortLength vt_shortBlocks b8 x1 x12 b10)) [0, 1] rfl) (hK.sub (tys' := [(ct_bytes, .byte)]) [0] rfl) (hD.sub (ws' := (ww_Codewords_set qt qt_bytes qt_field qt_generator qt_rest ct_bytes vt_version vt_total vt_holds vt_blocks vt_checks vt_shortLength vt_shortBlocks b8 x1 x12 b10)) [0, 1] (by decide) rfl) (va_recv hK hP (ci := 3) (q0 := 0) rfl rfl)) rfl rfl hl.1 rfl (lv_room (Nat.le_of_ble_eq_true rfl)) d_Codewords_appendBits_56 ⟨Nat.le_of_ble_eq_true rfl, Nat.le_of_ble_eq_true rfl⟩) hP hD hS hA [0, 1] [] [0, 1] rfl rfl (by decide) (by decide) rfl (by decide) (fun H locs hP hD hS => ?_)
        refine lv_aload_n hx hb d_Codewords_appendBits_59 rfl (lv_at hl 0 rfl) ?_
        refine lv_dup hx hb d_Codewords_appendBits_60 rfl ?_
        refine va_get (D := (dC, dI)) (ci := 3) (v := .int b8) (C := R_Codewords) (T := F_Codewords) (N := 14) hx hb ht i_Codewords hown hK hP 0 rfl rfl 11 (by decide) (ht _ tb_115) (fun _ h9 => h9) rfl d_Codewords_appendBits_61 ?_
        refine lv_iconst (v := (1 : Int32)) hx hb d_Codewords_appendBits_64 (by decide) ?_
        refine lv_iadd hx hb d_Codewords_appendBits_65 ?_
        obtain ⟨x15, ex15, Hf⟩ := sq_bd_e Hf
        refine sq_top ex15 ?_
        refine va_put (D := (dC, dI)) (ci := 3) (v := .int x15) (ty := .int) (C := R_Codewords) (T := F_Codewords) (N := 14) hx hb ht i_Codewords t_Codewords t_Codewords_ok n_Codewords hown hK hP hD hS 0 rfl rfl 11 (by decide) (ht _ tb_115) (fun _ h9 => h9) rfl (by decide +kernel) rfl rfl (Nat.le_of_ble_eq_true rfl) d_Codewords_appendBits_66 (fun H locs hP hD hS => ?_)
        replace hP : va_P (dC, dI) cl_All (ww_Codewords_appendBits qt qt_bytes qt_field qt_generator qt_rest ct_bytes vt_version vt_total vt_holds vt_blocks vt_checks vt_shortLength vt_shortBlocks x15 x1 x12 b13) H := hP
        replace hD : va_D A (ww_Codewords_appendBits qt qt_bytes qt_field qt_generator qt_rest ct_bytes vt_version vt_total vt_holds vt_blocks vt_checks vt_shortLength vt_shortBlocks x15 x1 x12 b13) := hD
        refine lv_goto (tgt := 22) hx hb d_Codewords_appendBits_69 (by decide) ?_
        exact ih1 x15 x12 b13 Hf _ _  hP hD hS _ (lv_sub hl [0] rfl)
  exact L1 n0 vt_filled x2 vt_bytes Hf _ _  hP hD hS _ (lv_sub hl [0] rfl)

def fn_Codewords_appendSegment_L2 (p2 : Int32) (p4 : Int32) (n0 : Nat) (vp1_size : Int32) (vp1_bytes : Nat → Int32) (x16 : Int32) (x23 : Int32) (k25 : Int32 → Option (Int32 × Int32 × Int32 × (Nat → Int32))) : Nat → Int32 → Int32 → Option (Int32 × Int32 × Int32 × (Nat → Int32))
  | 0, _, _ => none
  | m2 + 1, x34, x35 => if x23 ≤ x35 then (k25 x34) else (sq_cb1 (fn_Data_get ((p2 + x16) + x35) vp1_size vp1_bytes) fun r37 => sq_cb1 (fn_Mode_numberOf n0 p4 r37) fun r39 => sq_cb1 (fn_Mode_base p4) fun r41 => sq_bd ((r41 * x34) + r39) fun x43 => sq_bd (x35 + (1 : Int32)) fun x44 => fn_Codewords_appendSegment_L2 p2 p4 n0 vp1_size vp1_bytes x16 x23 k25 m2 x43 x44)
theorem fn_Codewords_appendSegment_L2_s (p2 : Int32) (p4 : Int32) (n0 : Nat) (vp1_size : Int32) (vp1_bytes : Nat → Int32) (x16 : Int32) (x23 : Int32) (k25 : Int32 → Option (Int32 × Int32 × Int32 × (Nat → Int32))) (m2 : Nat) (x34 : Int32) (x35 : Int32) : fn_Codewords_appendSegment_L2 p2 p4 n0 vp1_size vp1_bytes x16 x23 k25 (m2 + 1) x34 x35 = if x23 ≤ x35 then (k25 x34) else (sq_cb1 (fn_Data_get ((p2 + x16) + x35) vp1_size vp1_bytes) fun r37 => sq_cb1 (fn_Mode_numberOf n0 p4 r37) fun r39 => sq_cb1 (fn_Mode_base p4) fun r41 => sq_bd ((r41 * x34) + r39) fun x43 => sq_bd (x35 + (1 : Int32)) fun x44 => fn_Codewords_appendSegment_L2 p2 p4 n0 vp1_size vp1_bytes x16 x23 k25 m2 x43 x44) := rfl
def fn_Codewords_appendSegment_L1 (p2 : Int32) (p3 : Int32) (p4 : Int32) (n0 : Nat) (vp1_size : Int32) (vp1_bytes : Nat → Int32) (x15 : Int32) : Nat → Int32 → Int32 → Int32 → Int32 → (Nat → Int32) → Option (Int32 × Int32 × Int32 × (Nat → Int32))
  | 0, _, _, _, _, _ => none
  | m1 + 1, x16, b17, b18, b19, b20 => if p3 ≤ x16 then (some (b17, b18, b19, b20)) else (sq_bd (p3 - x16) fun x22 => sq_bd (sq_min x15 x22) fun x23 => sq_jn (fun (x24 : Int32) => sq_cb1 (fn_Mode_groupBits p4 x23) fun r26 => sq_cb4 (fn_Codewords_appendBits n0 x24 r26 b17 b18 b19 b20) fun y28 y29 y30 b31 => sq_bd (x16 + x15) fun x33 => fn_Codewords_appendSegment_L1 p2 p3 p4 n0 vp1_size vp1_bytes x15 m1 x33 y28 y29 y30 b31) fun k25 => fn_Codewords_appendSegment_L2 p2 p4 n0 vp1_size vp1_bytes x16 x23 k25 n0 (0 : Int32) (0 : Int32))
theorem fn_Codewords_appendSegment_L1_s (p2 : Int32) (p3 : Int32) (p4 : Int32) (n0 : Nat) (vp1_size : Int32) (vp1_bytes : Nat → Int32) (x15 : Int32) (m1 : Nat) (x16 : Int32) (b17 : Int32) (b18 : Int32) (b19 : Int32) (b20 : Nat → Int32) : fn_Codewords_appendSegment_L1 p2 p3 p4 n0 vp1_size vp1_bytes x15 (m1 + 1) x16 b17 b18 b19 b20 = if p3 ≤ x16 then (some (b17, b18, b19, b20)) else (sq_bd (p3 - x16) fun x22 => sq_bd (sq_min x15 x22) fun x23 => sq_jn (fun (x24 : Int32) => sq_cb1 (fn_Mode_groupBits p4 x23) fun r26 => sq_cb4 (fn_Codewords_appendBits n0 x24 r26 b17 b18 b19 b20) fun y28 y29 y30 b31 => sq_bd (x16 + x15) fun x33 => fn_Codewords_appendSegment_L1 p2 p3 p4 n0 vp1_size vp1_bytes x15 m1 x33 y28 y29 y30 b31) fun k25 => fn_Codewords_appendSegment_L2 p2 p4 n0 vp1_size vp1_bytes x16 x23 k25 n0 (0 : Int32) (0 : Int32)) := rfl
def fn_Codewords_appendSegment (n0 : Nat) (p2 : Int32) (p3 : Int32) (p4 : Int32) (vp1_size : Int32) (vt_version : Int32) (vt_filled : Int32) (vt_waiting : Int32) (vt_waitingBits : Int32) (vp1_bytes : Nat → Int32) (vt_bytes : Nat → Int32) : Option (Int32 × Int32 × Int32 × (Nat → Int32)) :=
  sq_cb4 (fn_Codewords_appendBits n0 ((1 : Int32) <<< (p4 &&& 31)) (4 : Int32) vt_filled vt_waiting vt_waitingBits vt_bytes) fun y1 y2 y3 b4 => sq_cb1 (fn_Version_countBits p4 vt_version) fun r6 => sq_cb4 (fn_Codewords_appendBits n0 p3 r6 y1 y2 y3 b4) fun y8 y9 y10 b11 => sq_cb1 (fn_Mode_groupSize p4) fun r13 => sq_bd (sq_max (1 : Int32) r13) fun x15 => fn_Codewords_appendSegment_L1 p2 p3 p4 n0 vp1_size vp1_bytes x15 n0 (0 : Int32) y8 y9 y10 b11
abbrev ww_Codewords_appendSegment (qp1 qt qp1_bytes qt_bytes qt_field qt_generator qt_rest : Nat) (cp1_bytes ct_bytes : ClassId) (vp1_size : Int32) (vt_version : Int32) (vt_total : Int32) (vt_holds : Int32) (vt_blocks : Int32) (vt_checks : Int32) (vt_shortLength : Int32) (vt_shortBlocks : Int32) (vt_filled : Int32) (vt_waiting : Int32) (vt_waitingBits : Int32) (vp1_bytes : Nat → Int32) (vt_bytes : Nat → Int32) : va_W := [(qp1, .inr (0, [.ref qp1_bytes, .int vp1_size])), (qt, .inr (3, [.ref qt_field, .ref qt_bytes, .ref qt_generator, .ref qt_rest, .int vt_version, .int vt_total, .int vt_holds, .int vt_blocks, .int vt_checks, .int vt_shortLength, .int vt_shortBlocks, .int vt_filled, .int vt_waiting, .int vt_waitingBits])), (qp1_bytes, .inl (cp1_bytes, 3000, .inl vp1_bytes)), (qt_bytes, .inl (ct_bytes, 3706, .inl vt_bytes))]

def rm_Codewords_appendSegment : Room := { frames := 5, cells := 0, slots := 0, locals := 112 }
abbrev qc_Codewords_appendSegment (dC : Nat → ClassId) (dI : Nat → Nat → Nat) (A : Nat → Prop) (qp1 qt qp1_bytes qt_bytes qt_field qt_generator qt_rest : Nat) (cp1_bytes ct_bytes : ClassId) (vp1_size : Int32) (vt_version : Int32) (vt_total : Int32) (vt_holds : Int32) (vt_blocks : Int32) (vt_checks : Int32) (vt_shortLength : Int32) (vt_shortBlocks : Int32) (vt_filled : Int32) (vt_waiting : Int32) (vt_waitingBits : Int32) (vp1_bytes : Nat → Int32) (vt_bytes : Nat → Int32) : Array Value → State → Outcome → State → Prop := va_Qv (fun (_ : Unit) => True) (fun _ t => va_P (dC, dI) cl_All (ww_Codewords_appendSegment qp1 qt qp1_bytes qt_bytes qt_field qt_generator qt_rest cp1_bytes ct_bytes vp1_size vt_version vt_total vt_holds vt_blocks vt_checks vt_shortLength vt_shortBlocks vt_filled vt_waiting vt_waitingBits vp1_bytes vt_bytes) t.heap ∧ va_D A (ww_Codewords_appendSegment qp1 qt qp1_bytes qt_bytes qt_field qt_generator qt_rest cp1_bytes ct_bytes vp1_size vt_version vt_total vt_holds vt_blocks vt_checks vt_shortLength vt_shortBlocks vt_filled vt_waiting vt_waitingBits vp1_bytes vt_bytes)) A

set_option maxHeartbeats 4000000 in
set_option maxRecDepth 100000 in
theorem kt_Codewords_appendSegment (l : Launch) (dC : Nat → ClassId) (dI : Nat → Nat → Nat) (qp1 qt qp1_bytes qt_bytes qt_field qt_generator qt_rest : Nat) (cp1_bytes ct_bytes : ClassId) (vp1_size : Int32) (vt_version : Int32) (vt_total : Int32) (vt_holds : Int32) (vt_blocks : Int32) (vt_checks : Int32) (vt_shortLength : Int32) (vt_shortBlocks : Int32) (vt_filled : Int32) (vt_waiting : Int32) (vt_waitingBits : Int32) (vp1_bytes : Nat → Int32) (vt_bytes : Nat → Int32) (p2 : Int32) (p3 : Int32) (p4 : Int32) (tt : Nat → Nat) (sz : Nat) (n0 : Nat) (nvt_filled : Int32) (nvt_waiting : Int32) (nvt_waitingBits : Int32) (nvt_bytes : Nat → Int32) (Hf : fn_Codewords_appendSegment n0 p2 p3 p4 vp1_size vt_version vt_filled vt_waiting vt_waitingBits vp1_bytes vt_bytes = some (nvt_filled, nvt_waiting, nvt_waitingBits, nvt_bytes)) : Met l y_Codewords_appendSegment w_Codewords_appendSegment rm_Codewords_appendSegment (va_Pc [.ref qt, .ref qp1, .int p2, .int p3, .int p4] (fun U => U.heap.size = sz ∧ va_P (dC, dI) cl_All (ww_Codewords_appendSegment qp1 qt qp1_bytes qt_bytes qt_field qt_generator qt_rest cp1_bytes ct_bytes vp1_size vt_version vt_total vt_holds vt_blocks vt_checks vt_shortLength vt_shortBlocks vt_filled vt_waiting vt_waitingBits vp1_bytes vt_bytes) U.heap ∧ va_K (dC, dI) cl_All [(cp1_bytes, .byte), (ct_bytes, .byte)] U ∧ va_D (fun _ => True) (ww_Codewords_appendSegment qp1 qt qp1_bytes qt_bytes qt_field qt_generator qt_rest cp1_bytes ct_bytes vp1_size vt_version vt_total vt_holds vt_blocks vt_checks vt_shortLength vt_shortBlocks vt_filled vt_waiting vt_waitingBits vp1_bytes vt_bytes) ∧ sx_T tt (va_A (ww_Codewords_appendSegment qp1 qt qp1_bytes qt_bytes qt_field qt_generator qt_rest cp1_bytes ct_bytes vp1_size vt_version vt_total vt_holds vt_blocks vt_checks vt_shortLength vt_shortBlocks vt_filled vt_waiting vt_waitingBits vp1_bytes vt_bytes) sz) U U.heap)) (qc_Codewords_appendSegment dC dI (va_A (ww_Codewords_appendSegment qp1 qt qp1_bytes qt_bytes qt_field qt_generator qt_rest cp1_bytes ct_bytes vp1_size vt_version vt_total vt_holds vt_blocks vt_checks vt_shortLength vt_shortBlocks vt_filled vt_waiting vt_waitingBits vp1_bytes vt_bytes) sz) qp1 qt qp1_bytes qt_bytes qt_field qt_generator qt_rest cp1_bytes ct_bytes vp1_size vt_version vt_total vt_holds vt_blocks vt_checks vt_shortLength vt_shortBlocks nvt_filled nvt_waiting nvt_waitingBits vp1_bytes nvt_bytes) 0 0 (va_A (ww_Codewords_appendSegment qp1 qt qp1_bytes qt_bytes qt_field qt_generator qt_rest cp1_bytes ct_bytes vp1_size vt_version vt_total vt_holds vt_blocks vt_checks vt_shortLength vt_shortBlocks vt_filled vt_waiting vt_waitingBits vp1_bytes vt_bytes) sz) := by
  refine Met.ofW (cc := prog_2_method_13_code) (maxL := 11) (ret := none) (by decide) rfl ?_
  intro p e s m args below meth c s₁ B hml hv
  obtain ⟨rfl, hsz, hP, hK, hD0, hX⟩ := hv
  have hx := B.exec; have hb := B.bytes; have hr := B.returns; have hlocks := B.notSynchronized
  have ht : ∀ w ∈ lw_g, w.before _ s = true := fun w h => atoms_spec (ws := w_Codewords_appendSegment) B.pre w (List.mem_cons_of_mem _ h)
  have hown : s.vm.findClass "SquareSymbols$Codewords" = some m.cls := findClass_of_methodNamed B.named
  subst hsz
  have hD := hD0.self (sz := s.heap.size)
  generalize hAe : va_A (ww_Codewords_appendSegment qp1 qt qp1_bytes qt_bytes qt_field qt_generator qt_rest cp1_bytes ct_bytes vp1_size vt_version vt_total vt_holds vt_blocks vt_checks vt_shortLength vt_shortBlocks vt_filled vt_waiting vt_waitingBits vp1_bytes vt_bytes) s.heap.size = A at hD hX ⊢
  have hA : ∀ q : Nat, s.heap.size ≤ q → A q := fun q h => by rw [← hAe]; exact Or.inr h
  have hS : va_S A s.heap s.heap [] := va_S.rf
  have hl := lv_entry ([.ref qt, .ref qp1, .int p2, .int p3, .int p4]) (n := 11) (Nat.le_of_ble_eq_true rfl)
  rw [lg_entry_eq]
  generalize (lg_sl ([.ref qt, .ref qp1, .int p2, .int p3, .int p4]) ++ List.replicate (11 - (lg_sl ([.ref qt, .ref qp1, .int p2, .int p3, .int p4])).length) Slot.unset).toArray = ls at hl ⊢
  have hl : lv_has ls 11 [(0, .ref qt), (1, .ref qp1), (2, .int p2), (3, .int p3), (4, .int p4)] := hl
  refine lv_aload_n hx hb d_Codewords_appendSegment_0 rfl (lv_at hl 0 rfl) ?_
  refine lv_iconst (v := (1 : Int32)) hx hb d_Codewords_appendSegment_1 (by decide) ?_
  refine lv_iload hx hb d_Codewords_appendSegment_2 (lv_at hl 4 rfl) ?_
  refine lv_ishl hx hb d_Codewords_appendSegment_4 ?_
  refine lv_iconst (v := (4 : Int32)) hx hb d_Codewords_appendSegment_5 (by decide) ?_
  obtain ⟨y1, y2, y3, b4, hc5, Hf⟩ := sq_cb4_e Hf
  refine sq_rwv (wn := (ww_Codewords_appendSegment qp1 qt qp1_bytes qt_bytes qt_field qt_generator qt_rest cp1_bytes ct_bytes vp1_size vt_version vt_total vt_holds vt_blocks vt_checks vt_shortLength vt_shortBlocks y1 y2 y3 vp1_bytes b4)) (va_runV (As := [.int ((1 : Int32) <<< (p4 &&& 31)), .int (4 : Int32)]) (rest := []) ⟨hx, hb, hml, hown, ht⟩ (kt_Codewords_appendBits l dC dI qt qt_bytes qt_field qt_generator qt_rest ct_bytes vt_version vt_total vt_holds vt_blocks vt_checks vt_shortLength vt_shortBlocks vt_filled vt_waiting vt_waitingBits vt_bytes ((1 : Int32) <<< (p4 &&& 31)) (4 : Int32) s.heap.size n0 y1 y2 y3 b4 hc5) (cwV 2 ht (sq_gV tb_933 tb_935 sl_24 tb_5 tb_936) rfl rfl rfl (by decide +kernel) ⟨Nat.le_of_ble_eq_true rfl, Nat.le_of_ble_eq_true rfl⟩) (sq_rwV (hP.sub (ws' := (ww_Codewords_appendBits qt qt_bytes qt_field qt_generator qt_rest ct_bytes vt_version vt_total vt_holds vt_blocks vt_checks vt_shortLength vt_shortBlocks vt_filled vt_waiting vt_waitingBits vt_bytes)) [1, 3] rfl) (hK.sub (tys' := [(ct_bytes, .byte)]) [1] rfl) (hD.sub (ws' := (ww_Codewords_appendBits qt qt_bytes qt_field qt_generator qt_rest ct_bytes vt_version vt_total vt_holds vt_blocks vt_checks vt_shortLength vt_shortBlocks vt_filled vt_waiting vt_waitingBits vt_bytes)) [1, 3] (by decide) rfl) (va_recv hK hP (ci := 3) (q0 := 1) rfl rfl)) rfl rfl hl.1 rfl (lv_room (Nat.le_of_ble_eq_true rfl)) d_Codewords_appendSegment_6 ⟨Nat.le_of_ble_eq_true rfl, Nat.le_of_ble_eq_true rfl⟩) hP hD hS hA [1, 3] [0, 2] [0, 2, 1, 3] rfl rfl (by decide) (by decide) rfl (by decide) (fun H locs hP hD hS => ?_)
  refine lv_aload_n hx hb d_Codewords_appendSegment_9 rfl (lv_at hl 0 rfl) ?_
  refine lv_iload_n hx hb d_Codewords_appendSegment_10 rfl (lv_at hl 3 rfl) ?_
  refine lv_iload hx hb d_Codewords_appendSegment_11 (lv_at hl 4 rfl) ?_
  refine lv_aload_n hx hb d_Codewords_appendSegment_13 rfl (lv_at hl 0 rfl) ?_
  refine va_get (D := (dC, dI)) (ci := 3) (v := .int vt_version) (C := R_Codewords) (T := F_Codewords) (N := 14) hx hb ht i_Codewords hown hK hP 1 rfl rfl 4 (by decide) (ht _ tb_108) (fun _ h9 => h9) rfl d_Codewords_appendSegment_14 ?_
  obtain ⟨r6, hc7, Hf⟩ := sq_cb1_e Hf
  refine sq_roi (va_runS (As := [.int p4, .int vt_version]) (rest := [.int p3, .ref qt]) ⟨hx, hb, hml, hown, ht⟩ (kt_Version_countBits l dC dI p4 vt_version tt r6 hc7) (va_cwS 2 ht (sq_gS tb_938 tb_614 tb_16 tb_615) rfl rfl rfl (by decide +kernel) ⟨Nat.le_of_ble_eq_true rfl, Nat.le_of_ble_eq_true rfl⟩) (sq_roSX (hP.sub (ws' := ([] : va_W)) [] rfl) (hK.sub (tys' := []) [] rfl) hX hS (fun _ h => h.elim)) rfl rfl hl.1 rfl (lv_room (Nat.le_of_ble_eq_true rfl)) d_Codewords_appendSegment_17 ⟨Nat.le_of_ble_eq_true rfl, Nat.le_of_ble_eq_true rfl⟩) ?_
  obtain ⟨y8, y9, y10, b11, hc12, Hf⟩ := sq_cb4_e Hf
  refine sq_rwv (wn := (ww_Codewords_appendSegment qp1 qt qp1_bytes qt_bytes qt_field qt_generator qt_rest cp1_bytes ct_bytes vp1_size vt_version vt_total vt_holds vt_blocks vt_checks vt_shortLength vt_shortBlocks y8 y9 y10 vp1_bytes b11)) (va_runV (As := [.int p3, .int r6]) (rest := []) ⟨hx, hb, hml, hown, ht⟩ (kt_Codewords_appendBits l dC dI qt qt_bytes qt_field qt_generator qt_rest ct_bytes vt_version vt_total vt_holds vt_blocks vt_checks vt_shortLength vt_shortBlocks y1 y2 y3 b4 p3 r6 H.size n0 y8 y9 y10 b11 hc12) (cwV 2 ht (sq_gV tb_933 tb_935 sl_24 tb_5 tb_936) rfl rfl rfl (by decide +kernel) ⟨Nat.le_of_ble_eq_true rfl, Nat.le_of_ble_eq_true rfl⟩) (sq_rwV (hP.sub (ws' := (ww_Codewords_appendBits qt qt_bytes qt_field qt_generator qt_rest ct_bytes vt_version vt_total vt_holds vt_blocks vt_checks vt_shortLength vt_shortBlocks y1 y2 y3 b4)) [1, 3] rfl) (hK.sub (tys' := [(ct_bytes, .byte)]) [1] rfl) (hD.sub (ws' := (ww_Codewords_appendBits qt qt_bytes qt_field qt_generator qt_rest ct_bytes vt_version vt_total vt_holds vt_blocks vt_checks vt_shortLength vt_shortBlocks y1 y2 y3 b4)) [1, 3] (by decide) rfl) (va_recv hK hP (ci := 3) (q0 := 1) rfl rfl)) rfl rfl hl.1 rfl (lv_room (Nat.le_of_ble_eq_true rfl)) d_Codewords_appendSegment_20 ⟨Nat.le_of_ble_eq_true rfl, Nat.le_of_ble_eq_true rfl⟩) hP hD hS hA [1, 3] [0, 2] [0, 2, 1, 3] rfl rfl (by decide) (by decide) rfl (by decide) (fun H locs hP hD hS => ?_)
  refine lv_iconst (v := (1 : Int32)) hx hb d_Codewords_appendSegment_23 (by decide) ?_
  refine lv_iload hx hb d_Codewords_appendSegment_24 (lv_at hl 4 rfl) ?_
  obtain ⟨r13, hc14, Hf⟩ := sq_cb1_e Hf
  refine sq_roi (va_runS (As := [.int p4]) (rest := [.int (1 : Int32)]) ⟨hx, hb, hml, hown, ht⟩ (kt_Mode_groupSize l dC dI p4 r13 hc14) (va_cwS 1 ht (sq_gS tb_939 tb_622 tb_19 tb_623) rfl rfl rfl (by decide +kernel) ⟨Nat.le_of_ble_eq_true rfl, Nat.le_of_ble_eq_true rfl⟩) (sq_roS (hP.sub (ws' := ([] : va_W)) [] rfl) (hK.sub (tys' := []) [] rfl)) rfl rfl hl.1 rfl (lv_room (Nat.le_of_ble_eq_true rfl)) d_Codewords_appendSegment_26 ⟨Nat.le_of_ble_eq_true rfl, Nat.le_of_ble_eq_true rfl⟩) ?_
  refine va_mmax hx hb (by rw [hml]; exact hl.1.symm) hown (ht _ tb_424) (ht _ tb_416) (ht _ tb_17) (ht _ tb_417) (Nat.le_of_ble_eq_true rfl) (Nat.le_of_ble_eq_true rfl) (Nat.zero_le _) (Nat.zero_le _) d_Codewords_appendSegment_29 ?_
  obtain ⟨x15, ex15, Hf⟩ := sq_bd_e Hf
  refine sq_top ex15 ?_
  refine lv_istore (lv' := [(5, .int x15), (0, .ref qt), (1, .ref qp1), (2, .int p2), (3, .int p3), (4, .int p4)]) hx hb d_Codewords_appendSegment_32 hl (by decide) rfl (fun ls hl => ?_)
  refine lv_iconst (v := (0 : Int32)) hx hb d_Codewords_appendSegment_34 (by decide) ?_
  refine lv_istore (lv' := [(6, .int (0 : Int32)), (5, .int x15), (0, .ref qt), (1, .ref qp1), (2, .int p2), (3, .int p3), (4, .int p4)]) hx hb d_Codewords_appendSegment_35 hl (by decide) rfl (fun ls hl => ?_)
  have L1 : ∀ (m1 : Nat), ∀ (x16 : Int32) (b17 : Int32) (b18 : Int32) (b19 : Int32) (b20 : Nat → Int32), fn_Codewords_appendSegment_L1 p2 p3 p4 n0 vp1_size vp1_bytes x15 m1 x16 b17 b18 b19 b20 = some (nvt_filled, nvt_waiting, nvt_waitingBits, nvt_bytes) → ∀ (H : Heap) (locs : List Loc), va_P (dC, dI) cl_All (ww_Codewords_appendSegment qp1 qt qp1_bytes qt_bytes qt_field qt_generator qt_rest cp1_bytes ct_bytes vp1_size vt_version vt_total vt_holds vt_blocks vt_checks vt_shortLength vt_shortBlocks b17 b18 b19 vp1_bytes b20) H → va_D A (ww_Codewords_appendSegment qp1 qt qp1_bytes qt_bytes qt_field qt_generator qt_rest cp1_bytes ct_bytes vp1_size vt_version vt_total vt_holds vt_blocks vt_checks vt_shortLength vt_shortBlocks b17 b18 b19 vp1_bytes b20) → va_S A s.heap H locs → ∀ ls : Array Slot, lv_has ls 11 [(0, .ref qt), (1, .ref qp1), (2, .int p2), (3, .int p3), (4, .int p4), (5, .int x15), (6, .int x16)] → W p l e (headSpec w_Codewords_appendSegment rm_Codewords_appendSegment).room s m (([.ref qt, .ref qp1, .int p2, .int p3, .int p4] : List Value).toArray) below meth c H locs 0 0 (MQ below (qc_Codewords_appendSegment dC dI A qp1 qt qp1_bytes qt_bytes qt_field qt_generator qt_rest cp1_bytes ct_bytes vp1_size vt_version vt_total vt_holds vt_blocks vt_checks vt_shortLength vt_shortBlocks nvt_filled nvt_waiting nvt_waitingBits vp1_bytes nvt_bytes) (([.ref qt, .ref qp1, .int p2, .int p3, .int p4] : List Value).toArray) s 0 0 A) (F0 m 37 ls []) := by
    intro m1
    induction m1 with
    | zero => intro x16 b17 b18 b19 b20 Hf; exact sq_none Hf
    | succ m1 ih1 =>
      intro x16 b17 b18 b19 b20 Hf H locs  hP hD hS ls hl
      replace Hf := (fn_Codewords_appendSegment_L1_s p2 p3 p4 n0 vp1_size vp1_bytes x15 m1 x16 b17 b18 b19 b20).symm.trans Hf
      refine lv_iload hx hb d_Codewords_appendSegment_37 (lv_at hl 6 rfl) ?_
      refine lv_iload_n hx hb d_Codewords_appendSegment_39 rfl (lv_at hl 3 rfl) ?_
      refine lv_icmp_ge (tgt := 127) hx hb d_Codewords_appendSegment_40 (by decide) (fun c21 => ?_) (fun c21 => ?_)
      · replace Hf := sq_ite_t Hf c21
        obtain ⟨rfl, rfl, rfl, rfl⟩ := sq_so4 Hf
        exact W.vret hx hb hr (fun t ht hW => ⟨⟨(), rfl, trivial, by rw [ht]; exact hP, hD⟩, hS.F ht⟩) hS.2.2 d_Codewords_appendSegment_127
      · replace Hf := sq_ite_f Hf c21
        refine lv_iload hx hb d_Codewords_appendSegment_43 (lv_at hl 5 rfl) ?_
        refine lv_iload_n hx hb d_Codewords_appendSegment_45 rfl (lv_at hl 3 rfl) ?_
        refine lv_iload hx hb d_Codewords_appendSegment_46 (lv_at hl 6 rfl) ?_
        refine lv_isub hx hb d_Codewords_appendSegment_48 ?_
        obtain ⟨x22, ex22, Hf⟩ := sq_bd_e Hf
        refine sq_top ex22 ?_
        refine va_mmin hx hb (by rw [hml]; exact hl.1.symm) hown (ht _ tb_426) (ht _ tb_427) (ht _ tb_17) (ht _ tb_428) (Nat.le_of_ble_eq_true rfl) (Nat.le_of_ble_eq_true rfl) (Nat.zero_le _) (Nat.zero_le _) d_Codewords_appendSegment_49 ?_
        obtain ⟨x23, ex23, Hf⟩ := sq_bd_e Hf
        refine sq_top ex23 ?_
        refine lv_istore (lv' := [(7, .int x23), (0, .ref qt), (1, .ref qp1), (2, .int p2), (3, .int p3), (4, .int p4), (5, .int x15), (6, .int x16)]) hx hb d_Codewords_appendSegment_52 hl (by decide) rfl (fun ls hl => ?_)
        refine lv_iconst (v := (0 : Int32)) hx hb d_Codewords_appendSegment_54 (by decide) ?_
        refine lv_istore (lv' := [(8, .int (0 : Int32)), (7, .int x23), (0, .ref qt), (1, .ref qp1), (2, .int p2), (3, .int p3), (4, .int p4), (5, .int x15), (6, .int x16)]) hx hb d_Codewords_appendSegment_55 hl (by decide) rfl (fun ls hl => ?_)
        refine lv_iconst (v := (0 : Int32)) hx hb d_Codewords_appendSegment_57 (by decide) ?_
        refine lv_istore (lv' := [(9, .int (0 : Int32)), (8, .int (0 : Int32)), (7, .int x23), (0, .ref qt), (1, .ref qp1), (2, .int p2), (3, .int p3), (4, .int p4), (5, .int x15), (6, .int x16)]) hx hb d_Codewords_appendSegment_58 hl (by decide) rfl (fun ls hl => ?_)
        obtain ⟨k25, hk25, Hf⟩ := sq_jn_e Hf
        have Jk25 : ∀ (x24 : Int32), k25 x24 = some (nvt_filled, nvt_waiting, nvt_waitingBits, nvt_bytes) → ∀ (H : Heap) (locs : List Loc), va_P (dC, dI) cl_All (ww_Codewords_appendSegment qp1 qt qp1_bytes qt_bytes qt_field qt_generator qt_rest cp1_bytes ct_bytes vp1_size vt_version vt_total vt_holds vt_blocks vt_checks vt_shortLength vt_shortBlocks b17 b18 b19 vp1_bytes b20) H → va_D A (ww_Codewords_appendSegment qp1 qt qp1_bytes qt_bytes qt_field qt_generator qt_rest cp1_bytes ct_bytes vp1_size vt_version vt_total vt_holds vt_blocks vt_checks vt_shortLength vt_shortBlocks b17 b18 b19 vp1_bytes b20) → va_S A s.heap H locs → ∀ ls : Array Slot, lv_has ls 11 [(0, .ref qt), (1, .ref qp1), (2, .int p2), (3, .int p3), (4, .int p4), (5, .int x15), (6, .int x16), (7, .int x23), (8, .int x24)] → W p l e (headSpec w_Codewords_appendSegment rm_Codewords_appendSegment).room s m (([.ref qt, .ref qp1, .int p2, .int p3, .int p4] : List Value).toArray) below meth c H locs 0 0 (MQ below (qc_Codewords_appendSegment dC dI A qp1 qt qp1_bytes qt_bytes qt_field qt_generator qt_rest cp1_bytes ct_bytes vp1_size vt_version vt_total vt_holds vt_blocks vt_checks vt_shortLength vt_shortBlocks nvt_filled nvt_waiting nvt_waitingBits vp1_bytes nvt_bytes) (([.ref qt, .ref qp1, .int p2, .int p3, .int p4] : List Value).toArray) s 0 0 A) (F0 m 104 ls []) := by
          intro x24 Hf H locs  hP hD hS ls hl
          rw [hk25] at Hf
          refine lv_aload_n hx hb d_Codewords_appendSegment_104 rfl (lv_at hl 0 rfl) ?_
          refine lv_iload hx hb d_Codewords_appendSegment_105 (lv_at hl 8 rfl) ?_
          refine lv_iload hx hb d_Codewords_appendSegment_107 (lv_at hl 4 rfl) ?_
          refine lv_iload hx hb d_Codewords_appendSegment_109 (lv_at hl 7 rfl) ?_
          obtain ⟨r26, hc27, Hf⟩ := sq_cb1_e Hf
          refine sq_roi (va_runS (As := [.int p4, .int x23]) (rest := [.int x24, .ref qt]) ⟨hx, hb, hml, hown, ht⟩ (kt_Mode_groupBits l dC dI p4 x23 r26 hc27) (va_cwS 2 ht (sq_gS tb_945 tb_631 tb_19 tb_632) rfl rfl rfl (by decide +kernel) ⟨Nat.le_of_ble_eq_true rfl, Nat.le_of_ble_eq_true rfl⟩) (sq_roS (hP.sub (ws' := ([] : va_W)) [] rfl) (hK.sub (tys' := []) [] rfl)) rfl rfl hl.1 rfl (lv_room (Nat.le_of_ble_eq_true rfl)) d_Codewords_appendSegment_111 ⟨Nat.le_of_ble_eq_true rfl, Nat.le_of_ble_eq_true rfl⟩) ?_
          obtain ⟨y28, y29, y30, b31, hc32, Hf⟩ := sq_cb4_e Hf
          refine sq_rwv (wn := (ww_Codewords_appendSegment qp1 qt qp1_bytes qt_bytes qt_field qt_generator qt_rest cp1_bytes ct_bytes vp1_size vt_version vt_total vt_holds vt_blocks vt_checks vt_shortLength vt_shortBlocks y28 y29 y30 vp1_bytes b31)) (va_runV (As := [.int x24, .int r26]) (rest := []) ⟨hx, hb, hml, hown, ht⟩ (kt_Codewords_appendBits l dC dI qt qt_bytes qt_field qt_generator qt_rest ct_bytes vt_version vt_total vt_holds vt_blocks vt_checks vt_shortLength vt_shortBlocks b17 b18 b19 b20 x24 r26 H.size n0 y28 y29 y30 b31 hc32) (cwV 2 ht (sq_gV tb_933 tb_935 sl_24 tb_5 tb_936) rfl rfl rfl (by decide +kernel) ⟨Nat.le_of_ble_eq_true rfl, Nat.le_of_ble_eq_true rfl⟩) (sq_rwV (hP.sub (ws' := (ww_Codewords_appendBits qt qt_bytes qt_field qt_generator qt_rest ct_bytes vt_version vt_total vt_holds vt_blocks vt_checks vt_shortLength vt_shortBlocks b17 b18 b19 b20)) [1, 3] rfl) (hK.sub (tys' := [(ct_bytes, .byte)]) [1] rfl) (hD.sub (ws' := (ww_Codewords_appendBits qt qt_bytes qt_field qt_generator qt_rest ct_bytes vt_version vt_total vt_holds vt_blocks vt_checks vt_shortLength vt_shortBlocks b17 b18 b19 b20)) [1, 3] (by decide) rfl) (va_recv hK hP (ci := 3) (q0 := 1) rfl rfl)) rfl rfl hl.1 rfl (lv_room (Nat.le_of_ble_eq_true rfl)) d_Codewords_appendSegment_114 ⟨Nat.le_of_ble_eq_true rfl, Nat.le_of_ble_eq_true rfl⟩) hP hD hS hA [1, 3] [0, 2] [0, 2, 1, 3] rfl rfl (by decide) (by decide) rfl (by decide) (fun H locs hP hD hS => ?_)
          refine lv_iload hx hb d_Codewords_appendSegment_117 (lv_at hl 6 rfl) ?_
          refine lv_iload hx hb d_Codewords_appendSegment_119 (lv_at hl 5 rfl) ?_
          refine lv_iadd hx hb d_Codewords_appendSegment_121 ?_
          obtain ⟨x33, ex33, Hf⟩ := sq_bd_e Hf
          refine sq_top ex33 ?_
          refine lv_istore (lv' := [(6, .int x33), (0, .ref qt), (1, .ref qp1), (2, .int p2), (3, .int p3), (4, .int p4), (5, .int x15), (7, .int x23), (8, .int x24)]) hx hb d_Codewords_appendSegment_122 hl (by decide) rfl (fun ls hl => ?_)
          refine lv_goto (tgt := 37) hx hb d_Codewords_appendSegment_124 (by decide) ?_
          exact ih1 x33 y28 y29 y30 b31 Hf _ _  hP hD hS _ (lv_sub hl [1, 2, 3, 4, 5, 6, 0] rfl)
        have L2 : ∀ (m2 : Nat), ∀ (x34 : Int32) (x35 : Int32), fn_Codewords_appendSegment_L2 p2 p4 n0 vp1_size vp1_bytes x16 x23 k25 m2 x34 x35 = some (nvt_filled, nvt_waiting, nvt_waitingBits, nvt_bytes) → ∀ (H : Heap) (locs : List Loc), va_P (dC, dI) cl_All (ww_Codewords_appendSegment qp1 qt qp1_bytes qt_bytes qt_field qt_generator qt_rest cp1_bytes ct_bytes vp1_size vt_version vt_total vt_holds vt_blocks vt_checks vt_shortLength vt_shortBlocks b17 b18 b19 vp1_bytes b20) H → va_D A (ww_Codewords_appendSegment qp1 qt qp1_bytes qt_bytes qt_field qt_generator qt_rest cp1_bytes ct_bytes vp1_size vt_version vt_total vt_holds vt_blocks vt_checks vt_shortLength vt_shortBlocks b17 b18 b19 vp1_bytes b20) → va_S A s.heap H locs → ∀ ls : Array Slot, lv_has ls 11 [(0, .ref qt), (1, .ref qp1), (2, .int p2), (3, .int p3), (4, .int p4), (5, .int x15), (6, .int x16), (7, .int x23), (8, .int x34), (9, .int x35)] → W p l e (headSpec w_Codewords_appendSegment rm_Codewords_appendSegment).room s m (([.ref qt, .ref qp1, .int p2, .int p3, .int p4] : List Value).toArray) below meth c H locs 0 0 (MQ below (qc_Codewords_appendSegment dC dI A qp1 qt qp1_bytes qt_bytes qt_field qt_generator qt_rest cp1_bytes ct_bytes vp1_size vt_version vt_total vt_holds vt_blocks vt_checks vt_shortLength vt_shortBlocks nvt_filled nvt_waiting nvt_waitingBits vp1_bytes nvt_bytes) (([.ref qt, .ref qp1, .int p2, .int p3, .int p4] : List Value).toArray) s 0 0 A) (F0 m 60 ls []) := by
          intro m2
          induction m2 with
          | zero => intro x34 x35 Hf; exact sq_none Hf
          | succ m2 ih2 =>
            intro x34 x35 Hf H locs  hP hD hS ls hl
            replace Hf := (fn_Codewords_appendSegment_L2_s p2 p4 n0 vp1_size vp1_bytes x16 x23 k25 m2 x34 x35).symm.trans Hf
            refine lv_iload hx hb d_Codewords_appendSegment_60 (lv_at hl 9 rfl) ?_
            refine lv_iload hx hb d_Codewords_appendSegment_62 (lv_at hl 7 rfl) ?_
            refine lv_icmp_ge (tgt := 104) hx hb d_Codewords_appendSegment_64 (by decide) (fun c36 => ?_) (fun c36 => ?_)
            · replace Hf := sq_ite_t Hf c36
              exact Jk25 x34 Hf _ _  hP hD hS _ (lv_sub hl [0, 1, 2, 3, 4, 5, 6, 7, 8] rfl)
            · replace Hf := sq_ite_f Hf c36
              refine lv_iload hx hb d_Codewords_appendSegment_67 (lv_at hl 4 rfl) ?_
              refine lv_aload_n hx hb d_Codewords_appendSegment_69 rfl (lv_at hl 1 rfl) ?_
              refine lv_iload_n hx hb d_Codewords_appendSegment_70 rfl (lv_at hl 2 rfl) ?_
              refine lv_iload hx hb d_Codewords_appendSegment_71 (lv_at hl 6 rfl) ?_
              refine lv_iadd hx hb d_Codewords_appendSegment_73 ?_
              refine lv_iload hx hb d_Codewords_appendSegment_74 (lv_at hl 9 rfl) ?_
              refine lv_iadd hx hb d_Codewords_appendSegment_76 ?_
              obtain ⟨r37, hc38, Hf⟩ := sq_cb1_e Hf
              refine sq_roi (va_runV (As := [.int ((p2 + x16) + x35)]) (rest := [.int p4]) ⟨hx, hb, hml, hown, ht⟩ (kt_Data_get l dC dI qp1 qp1_bytes cp1_bytes vp1_size vp1_bytes ((p2 + x16) + x35) r37 hc38) (cwV 1 ht (sq_gV tb_940 tb_318 tb_319 tb_3 tb_320) rfl rfl rfl (by decide +kernel) ⟨Nat.le_of_ble_eq_true rfl, Nat.le_of_ble_eq_true rfl⟩) (sq_roV (hP.sub (ws' := (ww_Data_get qp1 qp1_bytes cp1_bytes vp1_size vp1_bytes)) [0, 2] rfl) (hK.sub (tys' := [(cp1_bytes, .byte)]) [0] rfl) (va_recv hK hP (ci := 0) (q0 := 0) rfl rfl)) rfl rfl hl.1 rfl (lv_room (Nat.le_of_ble_eq_true rfl)) d_Codewords_appendSegment_77 ⟨Nat.le_of_ble_eq_true rfl, Nat.le_of_ble_eq_true rfl⟩) ?_
              obtain ⟨r39, hc40, Hf⟩ := sq_cb1_e Hf
              refine sq_roi (va_runS (As := [.int p4, .int r37]) (rest := []) ⟨hx, hb, hml, hown, ht⟩ (kt_Mode_numberOf l dC dI p4 r37 tt n0 r39 hc40) (va_cwS 2 ht (sq_gS tb_941 tb_942 tb_19 tb_943) rfl rfl rfl (by decide +kernel) ⟨Nat.le_of_ble_eq_true rfl, Nat.le_of_ble_eq_true rfl⟩) (sq_roSX (hP.sub (ws' := ([] : va_W)) [] rfl) (hK.sub (tys' := []) [] rfl) hX hS (fun _ h => h.elim)) rfl rfl hl.1 rfl (lv_room (Nat.le_of_ble_eq_true rfl)) d_Codewords_appendSegment_80 ⟨Nat.le_of_ble_eq_true rfl, Nat.le_of_ble_eq_true rfl⟩) ?_
              refine lv_istore (lv' := [(10, .int r39), (0, .ref qt), (1, .ref qp1), (2, .int p2), (3, .int p3), (4, .int p4), (5, .int x15), (6, .int x16), (7, .int x23), (8, .int x34), (9, .int x35)]) hx hb d_Codewords_appendSegment_83 hl (by decide) rfl (fun ls hl => ?_)
              refine lv_iload hx hb d_Codewords_appendSegment_85 (lv_at hl 5 rfl) ?_
              obtain ⟨r41, hc42, Hf⟩ := sq_cb1_e Hf
              refine sq_roi (va_runS (As := [.int p4]) (rest := []) ⟨hx, hb, hml, hown, ht⟩ (kt_Mode_base l dC dI p4 r41 hc42) (va_cwS 1 ht (sq_gS tb_944 tb_637 tb_19 tb_638) rfl rfl rfl (by decide +kernel) ⟨Nat.le_of_ble_eq_true rfl, Nat.le_of_ble_eq_true rfl⟩) (sq_roS (hP.sub (ws' := ([] : va_W)) [] rfl) (hK.sub (tys' := []) [] rfl)) rfl rfl hl.1 rfl (lv_room (Nat.le_of_ble_eq_true rfl)) d_Codewords_appendSegment_87 ⟨Nat.le_of_ble_eq_true rfl, Nat.le_of_ble_eq_true rfl⟩) ?_
              refine lv_iload hx hb d_Codewords_appendSegment_90 (lv_at hl 9 rfl) ?_
              refine lv_imul hx hb d_Codewords_appendSegment_92 ?_
              refine lv_iload hx hb d_Codewords_appendSegment_93 (lv_at hl 0 rfl) ?_
              refine lv_iadd hx hb d_Codewords_appendSegment_95 ?_
              obtain ⟨x43, ex43, Hf⟩ := sq_bd_e Hf
              refine sq_top ex43 ?_
              refine lv_istore (lv' := [(8, .int x43), (10, .int r39), (0, .ref qt), (1, .ref qp1), (2, .int p2), (3, .int p3), (4, .int p4), (5, .int x15), (6, .int x16), (7, .int x23), (9, .int x35)]) hx hb d_Codewords_appendSegment_96 hl (by decide) rfl (fun ls hl => ?_)
              obtain ⟨x44, ex44, Hf⟩ := sq_bd_e Hf
              refine lv_iinc (v := x44) (lv' := [(9, .int x44), (8, .int x43), (10, .int r39), (0, .ref qt), (1, .ref qp1), (2, .int p2), (3, .int p3), (4, .int p4), (5, .int x15), (6, .int x16), (7, .int x23)]) hx hb d_Codewords_appendSegment_98 hl (k := 10) rfl (by rw [ex44]; rfl) (by decide) rfl (fun ls hl => ?_)
              refine lv_goto (tgt := 60) hx hb d_Codewords_appendSegment_101 (by decide) ?_
              exact ih2 x43 x44 Hf _ _  hP hD hS _ (lv_sub hl [3, 4, 5, 6, 7, 8, 9, 10, 1, 0] rfl)
        exact L2 n0 (0 : Int32) (0 : Int32) Hf _ _  hP hD hS _ (lv_sub hl [3, 4, 5, 6, 7, 8, 9, 2, 1, 0] rfl)
  exact L1 n0 (0 : Int32) y8 y9 y10 b11 Hf _ _  hP hD hS _ (lv_sub hl [2, 3, 4, 5, 6, 1, 0] rfl)

def fn_Codewords_fillUp_L1 (vt_holds : Int32) (y10 : Int32) (y11 : Int32) : Nat → Int32 → Int32 → (Nat → Int32) → Option (Int32 × Int32 × Int32 × (Nat → Int32))
  | 0, _, _, _ => none
  | m1 + 1, x14, b15, b16 => if vt_holds ≤ b15 then (some (b15, y10, y11, b16)) else (sq_cb1 (fn_Codewords_set b15 x14 b16) fun b18 => sq_bd (x14 ^^^ (253 : Int32)) fun x20 => sq_bd (b15 + (1 : Int32)) fun x21 => fn_Codewords_fillUp_L1 vt_holds y10 y11 m1 x20 x21 b18)
theorem fn_Codewords_fillUp_L1_s (vt_holds : Int32) (y10 : Int32) (y11 : Int32) (m1 : Nat) (x14 : Int32) (b15 : Int32) (b16 : Nat → Int32) : fn_Codewords_fillUp_L1 vt_holds y10 y11 (m1 + 1) x14 b15 b16 = if vt_holds ≤ b15 then (some (b15, y10, y11, b16)) else (sq_cb1 (fn_Codewords_set b15 x14 b16) fun b18 => sq_bd (x14 ^^^ (253 : Int32)) fun x20 => sq_bd (b15 + (1 : Int32)) fun x21 => fn_Codewords_fillUp_L1 vt_holds y10 y11 m1 x20 x21 b18) := rfl
def fn_Codewords_fillUp (n0 : Nat) (vt_holds : Int32) (vt_filled : Int32) (vt_waiting : Int32) (vt_waitingBits : Int32) (vt_bytes : Nat → Int32) : Option (Int32 × Int32 × Int32 × (Nat → Int32)) :=
  sq_bd (((8 : Int32) * (vt_holds - vt_filled)) - vt_waitingBits) fun x1 => sq_bd (sq_min (4 : Int32) x1) fun x2 => sq_bd (sq_max (0 : Int32) x2) fun x3 => sq_cb4 (fn_Codewords_appendBits n0 (0 : Int32) x3 vt_filled vt_waiting vt_waitingBits vt_bytes) fun y4 y5 y6 b7 => sq_cb4 (fn_Codewords_appendBits n0 (0 : Int32) (((8 : Int32) - y6) &&& (7 : Int32)) y4 y5 y6 b7) fun y9 y10 y11 b12 => fn_Codewords_fillUp_L1 vt_holds y10 y11 n0 (236 : Int32) y9 b12
abbrev ww_Codewords_fillUp (qt qt_bytes qt_field qt_generator qt_rest : Nat) (ct_bytes : ClassId) (vt_version : Int32) (vt_total : Int32) (vt_holds : Int32) (vt_blocks : Int32) (vt_checks : Int32) (vt_shortLength : Int32) (vt_shortBlocks : Int32) (vt_filled : Int32) (vt_waiting : Int32) (vt_waitingBits : Int32) (vt_bytes : Nat → Int32) : va_W := [(qt, .inr (3, [.ref qt_field, .ref qt_bytes, .ref qt_generator, .ref qt_rest, .int vt_version, .int vt_total, .int vt_holds, .int vt_blocks, .int vt_checks, .int vt_shortLength, .int vt_shortBlocks, .int vt_filled, .int vt_waiting, .int vt_waitingBits])), (qt_bytes, .inl (ct_bytes, 3706, .inl vt_bytes))]

def rm_Codewords_fillUp : Room := { frames := 2, cells := 0, slots := 0, locals := 44 }
abbrev qc_Codewords_fillUp (dC : Nat → ClassId) (dI : Nat → Nat → Nat) (A : Nat → Prop) (qt qt_bytes qt_field qt_generator qt_rest : Nat) (ct_bytes : ClassId) (vt_version : Int32) (vt_total : Int32) (vt_holds : Int32) (vt_blocks : Int32) (vt_checks : Int32) (vt_shortLength : Int32) (vt_shortBlocks : Int32) (vt_filled : Int32) (vt_waiting : Int32) (vt_waitingBits : Int32) (vt_bytes : Nat → Int32) : Array Value → State → Outcome → State → Prop := va_Qv (fun (_ : Unit) => True) (fun _ t => va_P (dC, dI) cl_All (ww_Codewords_fillUp qt qt_bytes qt_field qt_generator qt_rest ct_bytes vt_version vt_total vt_holds vt_blocks vt_checks vt_shortLength vt_shortBlocks vt_filled vt_waiting vt_waitingBits vt_bytes) t.heap ∧ va_D A (ww_Codewords_fillUp qt qt_bytes qt_field qt_generator qt_rest ct_bytes vt_version vt_total vt_holds vt_blocks vt_checks vt_shortLength vt_shortBlocks vt_filled vt_waiting vt_waitingBits vt_bytes)) A

set_option maxHeartbeats 4000000 in
set_option maxRecDepth 100000 in
theorem kt_Codewords_fillUp (l : Launch) (dC : Nat → ClassId) (dI : Nat → Nat → Nat) (qt qt_bytes qt_field qt_generator qt_rest : Nat) (ct_bytes : ClassId) (vt_version : Int32) (vt_total : Int32) (vt_holds : Int32) (vt_blocks : Int32) (vt_checks : Int32) (vt_shortLength : Int32) (vt_shortBlocks : Int32) (vt_filled : Int32) (vt_waiting : Int32) (vt_waitingBits : Int32) (vt_bytes : Nat → Int32) (sz : Nat) (n0 : Nat) (nvt_filled : Int32) (nvt_waiting : Int32) (nvt_waitingBits : Int32) (nvt_bytes : Nat → Int32) (Hf : fn_Codewords_fillUp n0 vt_holds vt_filled vt_waiting vt_waitingBits vt_bytes = some (nvt_filled, nvt_waiting, nvt_waitingBits, nvt_bytes)) : Met l y_Codewords_fillUp w_Codewords_fillUp rm_Codewords_fillUp (va_Pc [.ref qt] (fun U => U.heap.size = sz ∧ va_P (dC, dI) cl_All (ww_Codewords_fillUp qt qt_bytes qt_field qt_generator qt_rest ct_bytes vt_version vt_total vt_holds vt_blocks vt_checks vt_shortLength vt_shortBlocks vt_filled vt_waiting vt_waitingBits vt_bytes) U.heap ∧ va_K (dC, dI) cl_All [(ct_bytes, .byte)] U ∧ va_D (fun _ => True) (ww_Codewords_fillUp qt qt_bytes qt_field qt_generator qt_rest ct_bytes vt_version vt_total vt_holds vt_blocks vt_checks vt_shortLength vt_shortBlocks vt_filled vt_waiting vt_waitingBits vt_bytes))) (qc_Codewords_fillUp dC dI (va_A (ww_Codewords_fillUp qt qt_bytes qt_field qt_generator qt_rest ct_bytes vt_version vt_total vt_holds vt_blocks vt_checks vt_shortLength vt_shortBlocks vt_filled vt_waiting vt_waitingBits vt_bytes) sz) qt qt_bytes qt_field qt_generator qt_rest ct_bytes vt_version vt_total vt_holds vt_blocks vt_checks vt_shortLength vt_shortBlocks nvt_filled nvt_waiting nvt_waitingBits nvt_bytes) 0 0 (va_A (ww_Codewords_fillUp qt qt_bytes qt_field qt_generator qt_rest ct_bytes vt_version vt_total vt_holds vt_blocks vt_checks vt_shortLength vt_shortBlocks vt_filled vt_waiting vt_waitingBits vt_bytes) sz) := by
  refine Met.ofW (cc := prog_2_method_15_code) (maxL := 3) (ret := none) (by decide) rfl ?_
  intro p e s m args below meth c s₁ B hml hv
  obtain ⟨rfl, hsz, hP, hK, hD0⟩ := hv
  have hx := B.exec; have hb := B.bytes; have hr := B.returns; have hlocks := B.notSynchronized
  have ht : ∀ w ∈ lw_g, w.before _ s = true := fun w h => atoms_spec (ws := w_Codewords_fillUp) B.pre w (List.mem_cons_of_mem _ h)
  have hown : s.vm.findClass "SquareSymbols$Codewords" = some m.cls := findClass_of_methodNamed B.named
  subst hsz
  have hD := hD0.self (sz := s.heap.size)
  generalize hAe : va_A (ww_Codewords_fillUp qt qt_bytes qt_field qt_generator qt_rest ct_bytes vt_version vt_total vt_holds vt_blocks vt_checks vt_shortLength vt_shortBlocks vt_filled vt_waiting vt_waitingBits vt_bytes) s.heap.size = A at hD ⊢
  have hA : ∀ q : Nat, s.heap.size ≤ q → A q := fun q h => by rw [← hAe]; exact Or.inr h
  have hS : va_S A s.heap s.heap [] := va_S.rf
  have hl := lv_entry ([.ref qt]) (n := 3) (Nat.le_of_ble_eq_true rfl)
  rw [lg_entry_eq]
  generalize (lg_sl ([.ref qt]) ++ List.replicate (3 - (lg_sl ([.ref qt])).length) Slot.unset).toArray = ls at hl ⊢
  have hl : lv_has ls 3 [(0, .ref qt)] := hl
  refine lv_bipush (v := (8 : Int32)) hx hb d_Codewords_fillUp_0 (by decide) ?_
  refine lv_aload_n hx hb d_Codewords_fillUp_2 rfl (lv_at hl 0 rfl) ?_
  refine va_get (D := (dC, dI)) (ci := 3) (v := .int vt_holds) (C := R_Codewords) (T := F_Codewords) (N := 14) hx hb ht i_Codewords hown hK hP 0 rfl rfl 6 (by decide) (ht _ tb_110) (fun _ h9 => h9) rfl d_Codewords_fillUp_3 ?_
  refine lv_aload_n hx hb d_Codewords_fillUp_6 rfl (lv_at hl 0 rfl) ?_
  refine va_get (D := (dC, dI)) (ci := 3) (v := .int vt_filled) (C := R_Codewords) (T := F_Codewords) (N := 14) hx hb ht i_Codewords hown hK hP 0 rfl rfl 11 (by decide) (ht _ tb_115) (fun _ h9 => h9) rfl d_Codewords_fillUp_7 ?_
  refine lv_isub hx hb d_Codewords_fillUp_10 ?_
  refine lv_imul hx hb d_Codewords_fillUp_11 ?_
  refine lv_aload_n hx hb d_Codewords_fillUp_12 rfl (lv_at hl 0 rfl) ?_
  refine va_get (D := (dC, dI)) (ci := 3) (v := .int vt_waitingBits) (C := R_Codewords) (T := F_Codewords) (N := 14) hx hb ht i_Codewords hown hK hP 0 rfl rfl 13 (by decide) (ht _ tb_117) (fun _ h9 => h9) rfl d_Codewords_fillUp_13 ?_
  refine lv_isub hx hb d_Codewords_fillUp_16 ?_
  obtain ⟨x1, ex1, Hf⟩ := sq_bd_e Hf
  refine sq_top ex1 ?_
  refine lv_istore_n (lv' := [(1, .int x1), (0, .ref qt)]) hx hb d_Codewords_fillUp_17 rfl hl (by decide) rfl (fun ls hl => ?_)
  refine lv_aload_n hx hb d_Codewords_fillUp_18 rfl (lv_at hl 1 rfl) ?_
  refine lv_iconst (v := (0 : Int32)) hx hb d_Codewords_fillUp_19 (by decide) ?_
  refine lv_iconst (v := (0 : Int32)) hx hb d_Codewords_fillUp_20 (by decide) ?_
  refine lv_iconst (v := (4 : Int32)) hx hb d_Codewords_fillUp_21 (by decide) ?_
  refine lv_iload_n hx hb d_Codewords_fillUp_22 rfl (lv_at hl 0 rfl) ?_
  refine va_mmin hx hb (by rw [hml]; exact hl.1.symm) hown (ht _ tb_426) (ht _ tb_427) (ht _ tb_17) (ht _ tb_428) (Nat.le_of_ble_eq_true rfl) (Nat.le_of_ble_eq_true rfl) (Nat.zero_le _) (Nat.zero_le _) d_Codewords_fillUp_23 ?_
  obtain ⟨x2, ex2, Hf⟩ := sq_bd_e Hf
  refine sq_top ex2 ?_
  refine va_mmax hx hb (by rw [hml]; exact hl.1.symm) hown (ht _ tb_424) (ht _ tb_416) (ht _ tb_17) (ht _ tb_417) (Nat.le_of_ble_eq_true rfl) (Nat.le_of_ble_eq_true rfl) (Nat.zero_le _) (Nat.zero_le _) d_Codewords_fillUp_26 ?_
  obtain ⟨x3, ex3, Hf⟩ := sq_bd_e Hf
  refine sq_top ex3 ?_
  obtain ⟨y4, y5, y6, b7, hc8, Hf⟩ := sq_cb4_e Hf
  refine sq_rwv (wn := (ww_Codewords_fillUp qt qt_bytes qt_field qt_generator qt_rest ct_bytes vt_version vt_total vt_holds vt_blocks vt_checks vt_shortLength vt_shortBlocks y4 y5 y6 b7)) (va_runV (As := [.int (0 : Int32), .int x3]) (rest := []) ⟨hx, hb, hml, hown, ht⟩ (kt_Codewords_appendBits l dC dI qt qt_bytes qt_field qt_generator qt_rest ct_bytes vt_version vt_total vt_holds vt_blocks vt_checks vt_shortLength vt_shortBlocks vt_filled vt_waiting vt_waitingBits vt_bytes (0 : Int32) x3 s.heap.size n0 y4 y5 y6 b7 hc8) (cwV 2 ht (sq_gV tb_933 tb_935 sl_24 tb_5 tb_936) rfl rfl rfl (by decide +kernel) ⟨Nat.le_of_ble_eq_true rfl, Nat.le_of_ble_eq_true rfl⟩) (sq_rwV (hP.sub (ws' := (ww_Codewords_appendBits qt qt_bytes qt_field qt_generator qt_rest ct_bytes vt_version vt_total vt_holds vt_blocks vt_checks vt_shortLength vt_shortBlocks vt_filled vt_waiting vt_waitingBits vt_bytes)) [0, 1] rfl) (hK.sub (tys' := [(ct_bytes, .byte)]) [0] rfl) (hD.sub (ws' := (ww_Codewords_appendBits qt qt_bytes qt_field qt_generator qt_rest ct_bytes vt_version vt_total vt_holds vt_blocks vt_checks vt_shortLength vt_shortBlocks vt_filled vt_waiting vt_waitingBits vt_bytes)) [0, 1] (by decide) rfl) (va_recv hK hP (ci := 3) (q0 := 0) rfl rfl)) rfl rfl hl.1 rfl (lv_room (Nat.le_of_ble_eq_true rfl)) d_Codewords_fillUp_29 ⟨Nat.le_of_ble_eq_true rfl, Nat.le_of_ble_eq_true rfl⟩) hP hD hS hA [0, 1] [] [0, 1] rfl rfl (by decide) (by decide) rfl (by decide) (fun H locs hP hD hS => ?_)
  refine lv_aload_n hx hb d_Codewords_fillUp_32 rfl (lv_at hl 1 rfl) ?_
  refine lv_iconst (v := (0 : Int32)) hx hb d_Codewords_fillUp_33 (by decide) ?_
  refine lv_bipush (v := (8 : Int32)) hx hb d_Codewords_fillUp_34 (by decide) ?_
  refine lv_aload_n hx hb d_Codewords_fillUp_36 rfl (lv_at hl 1 rfl) ?_
  refine va_get (D := (dC, dI)) (ci := 3) (v := .int y6) (C := R_Codewords) (T := F_Codewords) (N := 14) hx hb ht i_Codewords hown hK hP 0 rfl rfl 13 (by decide) (ht _ tb_117) (fun _ h9 => h9) rfl d_Codewords_fillUp_37 ?_
  refine lv_isub hx hb d_Codewords_fillUp_40 ?_
  refine lv_bipush (v := (7 : Int32)) hx hb d_Codewords_fillUp_41 (by decide) ?_
  refine lv_iand hx hb d_Codewords_fillUp_43 ?_
  obtain ⟨y9, y10, y11, b12, hc13, Hf⟩ := sq_cb4_e Hf
  refine sq_rwv (wn := (ww_Codewords_fillUp qt qt_bytes qt_field qt_generator qt_rest ct_bytes vt_version vt_total vt_holds vt_blocks vt_checks vt_shortLength vt_shortBlocks y9 y10 y11 b12)) (va_runV (As := [.int (0 : Int32), .int (((8 : Int32) - y6) &&& (7 : Int32))]) (rest := []) ⟨hx, hb, hml, hown, ht⟩ (kt_Codewords_appendBits l dC dI qt qt_bytes qt_field qt_generator qt_rest ct_bytes vt_version vt_total vt_holds vt_blocks vt_checks vt_shortLength vt_shortBlocks y4 y5 y6 b7 (0 : Int32) (((8 : Int32) - y6) &&& (7 : Int32)) H.size n0 y9 y10 y11 b12 hc13) (cwV 2 ht (sq_gV tb_933 tb_935 sl_24 tb_5 tb_936) rfl rfl rfl (by decide +kernel) ⟨Nat.le_of_ble_eq_true rfl, Nat.le_of_ble_eq_true rfl⟩) (sq_rwV (hP.sub (ws' := (ww_Codewords_appendBits qt qt_bytes qt_field qt_generator qt_rest ct_bytes vt_version vt_total vt_holds vt_blocks vt_checks vt_shortLength vt_shortBlocks y4 y5 y6 b7)) [0, 1] rfl) (hK.sub (tys' := [(ct_bytes, .byte)]) [0] rfl) (hD.sub (ws' := (ww_Codewords_appendBits qt qt_bytes qt_field qt_generator qt_rest ct_bytes vt_version vt_total vt_holds vt_blocks vt_checks vt_shortLength vt_shortBlocks y4 y5 y6 b7)) [0, 1] (by decide) rfl) (va_recv hK hP (ci := 3) (q0 := 0) rfl rfl)) rfl rfl hl.1 rfl (lv_room (Nat.le_of_ble_eq_true rfl)) d_Codewords_fillUp_44 ⟨Nat.le_of_ble_eq_true rfl, Nat.le_of_ble_eq_true rfl⟩) hP hD hS hA [0, 1] [] [0, 1] rfl rfl (by decide) (by decide) rfl (by decide) (fun H locs hP hD hS => ?_)
  refine lv_sipush (v := (236 : Int32)) hx hb d_Codewords_fillUp_47 (by decide) ?_
  refine lv_istore_n (lv' := [(2, .int (236 : Int32)), (1, .int x1), (0, .ref qt)]) hx hb d_Codewords_fillUp_50 rfl hl (by decide) rfl (fun ls hl => ?_)
  have L1 : ∀ (m1 : Nat), ∀ (x14 : Int32) (b15 : Int32) (b16 : Nat → Int32), fn_Codewords_fillUp_L1 vt_holds y10 y11 m1 x14 b15 b16 = some (nvt_filled, nvt_waiting, nvt_waitingBits, nvt_bytes) → ∀ (H : Heap) (locs : List Loc), va_P (dC, dI) cl_All (ww_Codewords_fillUp qt qt_bytes qt_field qt_generator qt_rest ct_bytes vt_version vt_total vt_holds vt_blocks vt_checks vt_shortLength vt_shortBlocks b15 y10 y11 b16) H → va_D A (ww_Codewords_fillUp qt qt_bytes qt_field qt_generator qt_rest ct_bytes vt_version vt_total vt_holds vt_blocks vt_checks vt_shortLength vt_shortBlocks b15 y10 y11 b16) → va_S A s.heap H locs → ∀ ls : Array Slot, lv_has ls 3 [(0, .ref qt), (2, .int x14)] → W p l e (headSpec w_Codewords_fillUp rm_Codewords_fillUp).room s m (([.ref qt] : List Value).toArray) below meth c H locs 0 0 (MQ below (qc_Codewords_fillUp dC dI A qt qt_bytes qt_field qt_generator qt_rest ct_bytes vt_version vt_total vt_holds vt_blocks vt_checks vt_shortLength vt_shortBlocks nvt_filled nvt_waiting nvt_waitingBits nvt_bytes) (([.ref qt] : List Value).toArray) s 0 0 A) (F0 m 51 ls []) := by
    intro m1
    induction m1 with
    | zero => intro x14 b15 b16 Hf; exact sq_none Hf
    | succ m1 ih1 =>
      intro x14 b15 b16 Hf H locs  hP hD hS ls hl
      replace Hf := (fn_Codewords_fillUp_L1_s vt_holds y10 y11 m1 x14 b15 b16).symm.trans Hf
      refine lv_aload_n hx hb d_Codewords_fillUp_51 rfl (lv_at hl 0 rfl) ?_
      refine va_get (D := (dC, dI)) (ci := 3) (v := .int b15) (C := R_Codewords) (T := F_Codewords) (N := 14) hx hb ht i_Codewords hown hK hP 0 rfl rfl 11 (by decide) (ht _ tb_115) (fun _ h9 => h9) rfl d_Codewords_fillUp_52 ?_
      refine lv_aload_n hx hb d_Codewords_fillUp_55 rfl (lv_at hl 0 rfl) ?_
      refine va_get (D := (dC, dI)) (ci := 3) (v := .int vt_holds) (C := R_Codewords) (T := F_Codewords) (N := 14) hx hb ht i_Codewords hown hK hP 0 rfl rfl 6 (by decide) (ht _ tb_110) (fun _ h9 => h9) rfl d_Codewords_fillUp_56 ?_
      refine lv_icmp_ge (tgt := 90) hx hb d_Codewords_fillUp_59 (by decide) (fun c17 => ?_) (fun c17 => ?_)
      · replace Hf := sq_ite_t Hf c17
        obtain ⟨rfl, rfl, rfl, rfl⟩ := sq_so4 Hf
        exact W.vret hx hb hr (fun t ht hW => ⟨⟨(), rfl, trivial, by rw [ht]; exact hP, hD⟩, hS.F ht⟩) hS.2.2 d_Codewords_fillUp_90
      · replace Hf := sq_ite_f Hf c17
        refine lv_aload_n hx hb d_Codewords_fillUp_62 rfl (lv_at hl 0 rfl) ?_
        refine lv_aload_n hx hb d_Codewords_fillUp_63 rfl (lv_at hl 0 rfl) ?_
        refine va_get (D := (dC, dI)) (ci := 3) (v := .int b15) (C := R_Codewords) (T := F_Codewords) (N := 14) hx hb ht i_Codewords hown hK hP 0 rfl rfl 11 (by decide) (ht _ tb_115) (fun _ h9 => h9) rfl d_Codewords_fillUp_64 ?_
        refine lv_iload_n hx hb d_Codewords_fillUp_67 rfl (lv_at hl 1 rfl) ?_
        obtain ⟨b18, hc19, Hf⟩ := sq_cb1_e Hf
        refine sq_rwv (wn := (ww_Codewords_fillUp qt qt_bytes qt_field qt_generator qt_rest ct_bytes vt_version vt_total vt_holds vt_blocks vt_checks vt_shortLength vt_shortBlocks b15 y10 y11 b18)) (va_runV (As := [.int b15, .int x14]) (rest := []) ⟨hx, hb, hml, hown, ht⟩ (kt_Codewords_set l dC dI qt qt_bytes qt_field qt_generator qt_rest ct_bytes vt_version vt_total vt_holds vt_blocks vt_checks vt_shortLength vt_shortBlocks b15 y10 y11 b16 b15 x14 H.size b18 hc19) (cwV 2 ht (sq_gV tb_937 tb_514 tb_515 tb_5 tb_516) rfl rfl rfl (by decide +kernel) ⟨Nat.le_of_ble_eq_true rfl, Nat.le_of_ble_eq_true rfl⟩) (sq_rwV (hP.sub (ws' := (ww_Codewords_set qt qt_bytes qt_field qt_generator qt_rest ct_bytes vt_version vt_total vt_holds vt_blocks vt_checks vt_shortLength vt_shortBlocks b15 y10 y11 b16)) [0, 1] rfl) (hK.sub (tys' := [(ct_bytes, .byte)]) [0] rfl) (hD.sub (ws' := (ww_Codewords_set qt qt_bytes qt_field qt_generator qt_rest ct_bytes vt_version vt_total vt_holds vt_blocks vt_checks vt_shortLength vt_shortBlocks b15 y10 y11 b16)) [0, 1] (by decide) rfl) (va_recv hK hP (ci := 3) (q0 := 0) rfl rfl)) rfl rfl hl.1 rfl (lv_room (Nat.le_of_ble_eq_true rfl)) d_Codewords_fillUp_68 ⟨Nat.le_of_ble_eq_true rfl, Nat.le_of_ble_eq_true rfl⟩) hP hD hS hA [0, 1] [] [0, 1] rfl rfl (by decide) (by decide) rfl (by decide) (fun H locs hP hD hS => ?_)
        refine lv_iload_n hx hb d_Codewords_fillUp_71 rfl (lv_at hl 1 rfl) ?_
        refine lv_sipush (v := (253 : Int32)) hx hb d_Codewords_fillUp_72 (by decide) ?_
        refine lv_ixor hx hb d_Codewords_fillUp_75 ?_
        obtain ⟨x20, ex20, Hf⟩ := sq_bd_e Hf
        refine sq_top ex20 ?_
        refine lv_istore_n (lv' := [(2, .int x20), (0, .ref qt)]) hx hb d_Codewords_fillUp_76 rfl hl (by decide) rfl (fun ls hl => ?_)
        refine lv_aload_n hx hb d_Codewords_fillUp_77 rfl (lv_at hl 1 rfl) ?_
        refine lv_dup hx hb d_Codewords_fillUp_78 rfl ?_
        refine va_get (D := (dC, dI)) (ci := 3) (v := .int b15) (C := R_Codewords) (T := F_Codewords) (N := 14) hx hb ht i_Codewords hown hK hP 0 rfl rfl 11 (by decide) (ht _ tb_115) (fun _ h9 => h9) rfl d_Codewords_fillUp_79 ?_
        refine lv_iconst (v := (1 : Int32)) hx hb d_Codewords_fillUp_82 (by decide) ?_
        refine lv_iadd hx hb d_Codewords_fillUp_83 ?_
        obtain ⟨x21, ex21, Hf⟩ := sq_bd_e Hf
        refine sq_top ex21 ?_
        refine va_put (D := (dC, dI)) (ci := 3) (v := .int x21) (ty := .int) (C := R_Codewords) (T := F_Codewords) (N := 14) hx hb ht i_Codewords t_Codewords t_Codewords_ok n_Codewords hown hK hP hD hS 0 rfl rfl 11 (by decide) (ht _ tb_115) (fun _ h9 => h9) rfl (by decide +kernel) rfl rfl (Nat.le_of_ble_eq_true rfl) d_Codewords_fillUp_84 (fun H locs hP hD hS => ?_)
        replace hP : va_P (dC, dI) cl_All (ww_Codewords_fillUp qt qt_bytes qt_field qt_generator qt_rest ct_bytes vt_version vt_total vt_holds vt_blocks vt_checks vt_shortLength vt_shortBlocks x21 y10 y11 b18) H := hP
        replace hD : va_D A (ww_Codewords_fillUp qt qt_bytes qt_field qt_generator qt_rest ct_bytes vt_version vt_total vt_holds vt_blocks vt_checks vt_shortLength vt_shortBlocks x21 y10 y11 b18) := hD
        refine lv_goto (tgt := 51) hx hb d_Codewords_fillUp_87 (by decide) ?_
        exact ih1 x20 x21 b18 Hf _ _  hP hD hS _ (lv_sub hl [1, 0] rfl)
  exact L1 n0 (236 : Int32) y9 b12 Hf _ _  hP hD hS _ (lv_sub hl [2, 0] rfl)

def fn_JArrays_fill1_L1 (p2 : Int32) (lenp1 : Nat) (x1 : Int32) : Nat → Int32 → (Nat → Int32) → Option ((Nat → Int32))
  | 0, _, _ => none
  | m1 + 1, x2, b3 => if x1 ≤ x2 then (some b3) else (sq_gi x2 lenp1 <| sq_bd (upd b3 x2.toNatClampNeg p2) fun b6 => sq_bd (x2 + (1 : Int32)) fun x7 => fn_JArrays_fill1_L1 p2 lenp1 x1 m1 x7 b6)
theorem fn_JArrays_fill1_L1_s (p2 : Int32) (lenp1 : Nat) (x1 : Int32) (m1 : Nat) (x2 : Int32) (b3 : Nat → Int32) : fn_JArrays_fill1_L1 p2 lenp1 x1 (m1 + 1) x2 b3 = if x1 ≤ x2 then (some b3) else (sq_gi x2 lenp1 <| sq_bd (upd b3 x2.toNatClampNeg p2) fun b6 => sq_bd (x2 + (1 : Int32)) fun x7 => fn_JArrays_fill1_L1 p2 lenp1 x1 m1 x7 b6) := rfl
def fn_JArrays_fill1 (n0 : Nat) (p2 : Int32) (lenp1 : Nat) (vp1 : Nat → Int32) : Option ((Nat → Int32)) :=
  sq_bd (Int32.ofNat lenp1) fun x1 => fn_JArrays_fill1_L1 p2 lenp1 x1 n0 (0 : Int32) vp1
abbrev ww_JArrays_fill1 (qp1 : Nat) (cp1 : ClassId) (lenp1 : Nat) (vp1 : Nat → Int32) : va_W := [(qp1, .inl (cp1, lenp1, .inl vp1))]

def rm_JArrays_fill1 : Room := { frames := 0, cells := 0, slots := 0, locals := 0 }
abbrev qc_JArrays_fill1 (dC : Nat → ClassId) (dI : Nat → Nat → Nat) (A : Nat → Prop) (qp1 : Nat) (cp1 : ClassId) (lenp1 : Nat) (vp1 : Nat → Int32) : Array Value → State → Outcome → State → Prop := va_Qv (fun (_ : Unit) => True) (fun _ t => va_P (dC, dI) cl_All (ww_JArrays_fill1 qp1 cp1 lenp1 vp1) t.heap ∧ va_D A (ww_JArrays_fill1 qp1 cp1 lenp1 vp1)) A

set_option maxHeartbeats 4000000 in
set_option maxRecDepth 100000 in
theorem kt_JArrays_fill1 (l : Launch) (dC : Nat → ClassId) (dI : Nat → Nat → Nat) (qp1 : Nat) (cp1 : ClassId) (lenp1 : Nat) (vp1 : Nat → Int32) (p2 : Int32) (sz : Nat) (n0 : Nat) (nvp1 : Nat → Int32) (Hf : fn_JArrays_fill1 n0 p2 lenp1 vp1 = some nvp1) : Met l y_JArrays_fill1 w_JArrays_fill1 rm_JArrays_fill1 (va_Pc [.ref qp1, .int p2] (fun U => U.heap.size = sz ∧ va_P (dC, dI) cl_All (ww_JArrays_fill1 qp1 cp1 lenp1 vp1) U.heap ∧ va_K (dC, dI) cl_All [(cp1, .int)] U ∧ va_D (fun _ => True) (ww_JArrays_fill1 qp1 cp1 lenp1 vp1))) (qc_JArrays_fill1 dC dI (va_A (ww_JArrays_fill1 qp1 cp1 lenp1 vp1) sz) qp1 cp1 lenp1 nvp1) 0 0 (va_A (ww_JArrays_fill1 qp1 cp1 lenp1 vp1) sz) := by
  refine Met.ofW (cc := prog_27_method_103_code) (maxL := 4) (ret := none) (by decide) rfl ?_
  intro p e s m args below meth c s₁ B hml hv
  obtain ⟨rfl, hsz, hP, hK, hD0⟩ := hv
  have hx := B.exec; have hb := B.bytes; have hr := B.returns; have hlocks := B.notSynchronized
  have ht : ∀ w ∈ lw_g, w.before _ s = true := fun w h => atoms_spec (ws := w_JArrays_fill1) B.pre w (List.mem_cons_of_mem _ h)
  have hown : s.vm.findClass "java/util/Arrays" = some m.cls := findClass_of_methodNamed B.named
  subst hsz
  have hD := hD0.self (sz := s.heap.size)
  generalize hAe : va_A (ww_JArrays_fill1 qp1 cp1 lenp1 vp1) s.heap.size = A at hD ⊢
  have hA : ∀ q : Nat, s.heap.size ≤ q → A q := fun q h => by rw [← hAe]; exact Or.inr h
  have hS : va_S A s.heap s.heap [] := va_S.rf
  have hl := lv_entry ([.ref qp1, .int p2]) (n := 4) (Nat.le_of_ble_eq_true rfl)
  rw [lg_entry_eq]
  generalize (lg_sl ([.ref qp1, .int p2]) ++ List.replicate (4 - (lg_sl ([.ref qp1, .int p2])).length) Slot.unset).toArray = ls at hl ⊢
  have hl : lv_has ls 4 [(0, .ref qp1), (1, .int p2)] := hl
  refine lv_iconst (v := (0 : Int32)) hx hb d_JArrays_fill1_0 (by decide) ?_
  refine lv_istore_n (lv' := [(2, .int (0 : Int32)), (0, .ref qp1), (1, .int p2)]) hx hb d_JArrays_fill1_1 rfl hl (by decide) rfl (fun ls hl => ?_)
  refine lv_aload_n hx hb d_JArrays_fill1_2 rfl (lv_at hl 1 rfl) ?_
  refine va_alen hx hb hK hP 0 0 rfl rfl (v := Int32.ofNat lenp1) rfl d_JArrays_fill1_3 ?_
  obtain ⟨x1, ex1, Hf⟩ := sq_bd_e Hf
  refine sq_top ex1 ?_
  refine lv_istore_n (lv' := [(3, .int x1), (2, .int (0 : Int32)), (0, .ref qp1), (1, .int p2)]) hx hb d_JArrays_fill1_4 rfl hl (by decide) rfl (fun ls hl => ?_)
  have L1 : ∀ (m1 : Nat), ∀ (x2 : Int32) (b3 : Nat → Int32), fn_JArrays_fill1_L1 p2 lenp1 x1 m1 x2 b3 = some nvp1 → ∀ (H : Heap) (locs : List Loc), va_P (dC, dI) cl_All (ww_JArrays_fill1 qp1 cp1 lenp1 b3) H → va_D A (ww_JArrays_fill1 qp1 cp1 lenp1 b3) → va_S A s.heap H locs → ∀ ls : Array Slot, lv_has ls 4 [(0, .ref qp1), (1, .int p2), (2, .int x2), (3, .int x1)] → W p l e (headSpec w_JArrays_fill1 rm_JArrays_fill1).room s m (([.ref qp1, .int p2] : List Value).toArray) below meth c H locs 0 0 (MQ below (qc_JArrays_fill1 dC dI A qp1 cp1 lenp1 nvp1) (([.ref qp1, .int p2] : List Value).toArray) s 0 0 A) (F0 m 5 ls []) := by
    intro m1
    induction m1 with
    | zero => intro x2 b3 Hf; exact sq_none Hf
    | succ m1 ih1 =>
      intro x2 b3 Hf H locs  hP hD hS ls hl
      replace Hf := (fn_JArrays_fill1_L1_s p2 lenp1 x1 m1 x2 b3).symm.trans Hf
      refine lv_iload_n hx hb d_JArrays_fill1_5 rfl (lv_at hl 2 rfl) ?_
      refine lv_iload_n hx hb d_JArrays_fill1_6 rfl (lv_at hl 3 rfl) ?_
      refine lv_icmp_ge (tgt := 20) hx hb d_JArrays_fill1_7 (by decide) (fun c4 => ?_) (fun c4 => ?_)
      · replace Hf := sq_ite_t Hf c4
        obtain rfl := Option.some.inj Hf
        exact W.vret hx hb hr (fun t ht hW => ⟨⟨(), rfl, trivial, by rw [ht]; exact hP, hD⟩, hS.F ht⟩) hS.2.2 d_JArrays_fill1_20
      · replace Hf := sq_ite_f Hf c4
        refine lv_aload_n hx hb d_JArrays_fill1_10 rfl (lv_at hl 0 rfl) ?_
        refine lv_iload_n hx hb d_JArrays_fill1_11 rfl (lv_at hl 2 rfl) ?_
        refine lv_iload_n hx hb d_JArrays_fill1_12 rfl (lv_at hl 1 rfl) ?_
        obtain ⟨hi5, Hf⟩ := sq_gi_e Hf
        obtain ⟨b6, eb6, Hf⟩ := sq_bd_e Hf
        refine va_iast hx hb hK hP hD hS 0 0 rfl rfl hi5 d_JArrays_fill1_13 (fun H locs hP hD hS => ?_)
        rw [← eb6] at hP hD
        replace hP : va_P (dC, dI) cl_All (ww_JArrays_fill1 qp1 cp1 lenp1 b6) H := hP
        replace hD : va_D A (ww_JArrays_fill1 qp1 cp1 lenp1 b6) := hD
        obtain ⟨x7, ex7, Hf⟩ := sq_bd_e Hf
        refine lv_iinc (v := x7) (lv' := [(2, .int x7), (0, .ref qp1), (1, .int p2), (3, .int x1)]) hx hb d_JArrays_fill1_14 hl (k := 2) rfl (by rw [ex7]; rfl) (by decide) rfl (fun ls hl => ?_)
        refine lv_goto (tgt := 5) hx hb d_JArrays_fill1_17 (by decide) ?_
        exact ih1 x7 b6 Hf _ _  hP hD hS _ (lv_sub hl [1, 2, 0, 3] rfl)
  exact L1 n0 (0 : Int32) vp1 Hf _ _  hP hD hS _ (lv_sub hl [2, 3, 1, 0] rfl)

def fn_Codewords_prepareGenerator_L2 (vt_checks : Int32) (vt_field_logs : Nat → Int32) (vt_field_powers : Nat → Int32) (x8 : Int32) (k12 : (Nat → Int32) → Option ((Nat → Int32))) : Nat → Int32 → (Nat → Int32) → Option ((Nat → Int32))
  | 0, _, _ => none
  | m2 + 1, x14, b15 => if vt_checks ≤ x14 then (k12 b15) else (sq_gi x14 31 <| sq_bd (b15 x14.toNatClampNeg) fun x18 => sq_cb1 (fn_Field_power x8 vt_field_powers) fun r19 => sq_cb1 (fn_Field_times x18 r19 vt_field_logs vt_field_powers) fun r21 => sq_bd (x14 + (1 : Int32)) fun x23 => sq_gi x23 31 <| sq_bd (b15 x23.toNatClampNeg) fun x25 => sq_bd (r21 ^^^ x25) fun x26 => sq_gi x14 31 <| sq_bd (upd b15 x14.toNatClampNeg x26) fun b28 => sq_bd (x14 + (1 : Int32)) fun x29 => fn_Codewords_prepareGenerator_L2 vt_checks vt_field_logs vt_field_powers x8 k12 m2 x29 b28)
theorem fn_Codewords_prepareGenerator_L2_s (vt_checks : Int32) (vt_field_logs : Nat → Int32) (vt_field_powers : Nat → Int32) (x8 : Int32) (k12 : (Nat → Int32) → Option ((Nat → Int32))) (m2 : Nat) (x14 : Int32) (b15 : Nat → Int32) : fn_Codewords_prepareGenerator_L2 vt_checks vt_field_logs vt_field_powers x8 k12 (m2 + 1) x14 b15 = if vt_checks ≤ x14 then (k12 b15) else (sq_gi x14 31 <| sq_bd (b15 x14.toNatClampNeg) fun x18 => sq_cb1 (fn_Field_power x8 vt_field_powers) fun r19 => sq_cb1 (fn_Field_times x18 r19 vt_field_logs vt_field_powers) fun r21 => sq_bd (x14 + (1 : Int32)) fun x23 => sq_gi x23 31 <| sq_bd (b15 x23.toNatClampNeg) fun x25 => sq_bd (r21 ^^^ x25) fun x26 => sq_gi x14 31 <| sq_bd (upd b15 x14.toNatClampNeg x26) fun b28 => sq_bd (x14 + (1 : Int32)) fun x29 => fn_Codewords_prepareGenerator_L2 vt_checks vt_field_logs vt_field_powers x8 k12 m2 x29 b28) := rfl
def fn_Codewords_prepareGenerator_L1 (n0 : Nat) (vt_checks : Int32) (vt_field_logs : Nat → Int32) (vt_field_powers : Nat → Int32) : Nat → Int32 → (Nat → Int32) → Option ((Nat → Int32))
  | 0, _, _ => none
  | m1 + 1, x8, b9 => if vt_checks ≤ x8 then (some b9) else (sq_jn (fun (b11 : Nat → Int32) => sq_bd (x8 + (1 : Int32)) fun x13 => fn_Codewords_prepareGenerator_L1 n0 vt_checks vt_field_logs vt_field_powers m1 x13 b11) fun k12 => fn_Codewords_prepareGenerator_L2 vt_checks vt_field_logs vt_field_powers x8 k12 n0 (0 : Int32) b9)
theorem fn_Codewords_prepareGenerator_L1_s (n0 : Nat) (vt_checks : Int32) (vt_field_logs : Nat → Int32) (vt_field_powers : Nat → Int32) (m1 : Nat) (x8 : Int32) (b9 : Nat → Int32) : fn_Codewords_prepareGenerator_L1 n0 vt_checks vt_field_logs vt_field_powers (m1 + 1) x8 b9 = if vt_checks ≤ x8 then (some b9) else (sq_jn (fun (b11 : Nat → Int32) => sq_bd (x8 + (1 : Int32)) fun x13 => fn_Codewords_prepareGenerator_L1 n0 vt_checks vt_field_logs vt_field_powers m1 x13 b11) fun k12 => fn_Codewords_prepareGenerator_L2 vt_checks vt_field_logs vt_field_powers x8 k12 n0 (0 : Int32) b9) := rfl
def fn_Codewords_prepareGenerator (n0 : Nat) (vt_checks : Int32) (vt_generator : Nat → Int32) (vt_field_logs : Nat → Int32) (vt_field_powers : Nat → Int32) : Option ((Nat → Int32)) :=
  sq_cb1 (fn_JArrays_fill1 n0 (0 : Int32) 31 vt_generator) fun b1 => if vt_checks < (1 : Int32) then (some b1) else (if vt_checks ≤ (30 : Int32) then (sq_bd (vt_checks - (1 : Int32)) fun x6 => sq_gi x6 31 <| sq_bd (upd b1 x6.toNatClampNeg (1 : Int32)) fun b7 => fn_Codewords_prepareGenerator_L1 n0 vt_checks vt_field_logs vt_field_powers n0 (0 : Int32) b7) else (some b1))
abbrev ww_Codewords_prepareGenerator (qt qt_field qt_generator qt_field_logs qt_field_powers qt_bytes qt_rest : Nat) (ct_generator ct_field_logs ct_field_powers : ClassId) (vt_version : Int32) (vt_total : Int32) (vt_holds : Int32) (vt_blocks : Int32) (vt_checks : Int32) (vt_shortLength : Int32) (vt_shortBlocks : Int32) (vt_filled : Int32) (vt_waiting : Int32) (vt_waitingBits : Int32) (vt_generator : Nat → Int32) (vt_field_logs : Nat → Int32) (vt_field_powers : Nat → Int32) : va_W := [(qt, .inr (3, [.ref qt_field, .ref qt_bytes, .ref qt_generator, .ref qt_rest, .int vt_version, .int vt_total, .int vt_holds, .int vt_blocks, .int vt_checks, .int vt_shortLength, .int vt_shortBlocks, .int vt_filled, .int vt_waiting, .int vt_waitingBits])), (qt_field, .inr (2, [.ref qt_field_powers, .ref qt_field_logs])), (qt_generator, .inl (ct_generator, 31, .inl vt_generator)), (qt_field_logs, .inl (ct_field_logs, 256, .inl vt_field_logs)), (qt_field_powers, .inl (ct_field_powers, 512, .inl vt_field_powers))]

def rm_Codewords_prepareGenerator : Room := { frames := 1, cells := 0, slots := 0, locals := 23 }
abbrev qc_Codewords_prepareGenerator (dC : Nat → ClassId) (dI : Nat → Nat → Nat) (A : Nat → Prop) (qt qt_field qt_generator qt_field_logs qt_field_powers qt_bytes qt_rest : Nat) (ct_generator ct_field_logs ct_field_powers : ClassId) (vt_version : Int32) (vt_total : Int32) (vt_holds : Int32) (vt_blocks : Int32) (vt_checks : Int32) (vt_shortLength : Int32) (vt_shortBlocks : Int32) (vt_filled : Int32) (vt_waiting : Int32) (vt_waitingBits : Int32) (vt_generator : Nat → Int32) (vt_field_logs : Nat → Int32) (vt_field_powers : Nat → Int32) : Array Value → State → Outcome → State → Prop := va_Qv (fun (_ : Unit) => True) (fun _ t => va_P (dC, dI) cl_All (ww_Codewords_prepareGenerator qt qt_field qt_generator qt_field_logs qt_field_powers qt_bytes qt_rest ct_generator ct_field_logs ct_field_powers vt_version vt_total vt_holds vt_blocks vt_checks vt_shortLength vt_shortBlocks vt_filled vt_waiting vt_waitingBits vt_generator vt_field_logs vt_field_powers) t.heap ∧ va_D A (ww_Codewords_prepareGenerator qt qt_field qt_generator qt_field_logs qt_field_powers qt_bytes qt_rest ct_generator ct_field_logs ct_field_powers vt_version vt_total vt_holds vt_blocks vt_checks vt_shortLength vt_shortBlocks vt_filled vt_waiting vt_waitingBits vt_generator vt_field_logs vt_field_powers)) A

set_option maxHeartbeats 4000000 in
set_option maxRecDepth 100000 in
theorem kt_Codewords_prepareGenerator (l : Launch) (dC : Nat → ClassId) (dI : Nat → Nat → Nat) (qt qt_field qt_generator qt_field_logs qt_field_powers qt_bytes qt_rest : Nat) (ct_generator ct_field_logs ct_field_powers : ClassId) (vt_version : Int32) (vt_total : Int32) (vt_holds : Int32) (vt_blocks : Int32) (vt_checks : Int32) (vt_shortLength : Int32) (vt_shortBlocks : Int32) (vt_filled : Int32) (vt_waiting : Int32) (vt_waitingBits : Int32) (vt_generator : Nat → Int32) (vt_field_logs : Nat → Int32) (vt_field_powers : Nat → Int32) (sz : Nat) (n0 : Nat) (nvt_generator : Nat → Int32) (Hf : fn_Codewords_prepareGenerator n0 vt_checks vt_generator vt_field_logs vt_field_powers = some nvt_generator) : Met l y_Codewords_prepareGenerator w_Codewords_prepareGenerator rm_Codewords_prepareGenerator (va_Pc [.ref qt] (fun U => U.heap.size = sz ∧ va_P (dC, dI) cl_All (ww_Codewords_prepareGenerator qt qt_field qt_generator qt_field_logs qt_field_powers qt_bytes qt_rest ct_generator ct_field_logs ct_field_powers vt_version vt_total vt_holds vt_blocks vt_checks vt_shortLength vt_shortBlocks vt_filled vt_waiting vt_waitingBits vt_generator vt_field_logs vt_field_powers) U.heap ∧ va_K (dC, dI) cl_All [(ct_generator, .int), (ct_field_logs, .int), (ct_field_powers, .int)] U ∧ va_D (fun _ => True) (ww_Codewords_prepareGenerator qt qt_field qt_generator qt_field_logs qt_field_powers qt_bytes qt_rest ct_generator ct_field_logs ct_field_powers vt_version vt_total vt_holds vt_blocks vt_checks vt_shortLength vt_shortBlocks vt_filled vt_waiting vt_waitingBits vt_generator vt_field_logs vt_field_powers))) (qc_Codewords_prepareGenerator dC dI (va_A (ww_Codewords_prepareGenerator qt qt_field qt_generator qt_field_logs qt_field_powers qt_bytes qt_rest ct_generator ct_field_logs ct_field_powers vt_version vt_total vt_holds vt_blocks vt_checks vt_shortLength vt_shortBlocks vt_filled vt_waiting vt_waitingBits vt_generator vt_field_logs vt_field_powers) sz) qt qt_field qt_generator qt_field_logs qt_field_powers qt_bytes qt_rest ct_generator ct_field_logs ct_field_powers vt_version vt_total vt_holds vt_blocks vt_checks vt_shortLength vt_shortBlocks vt_filled vt_waiting vt_waitingBits nvt_generator vt_field_logs vt_field_powers) 0 0 (va_A (ww_Codewords_prepareGenerator qt qt_field qt_generator qt_field_logs qt_field_powers qt_bytes qt_rest ct_generator ct_field_logs ct_field_powers vt_version vt_total vt_holds vt_blocks vt_checks vt_shortLength vt_shortBlocks vt_filled vt_waiting vt_waitingBits vt_generator vt_field_logs vt_field_powers) sz) := by
  refine Met.ofW (cc := prog_2_method_17_code) (maxL := 3) (ret := none) (by decide) rfl ?_
  intro p e s m args below meth c s₁ B hml hv
  obtain ⟨rfl, hsz, hP, hK, hD0⟩ := hv
  have hx := B.exec; have hb := B.bytes; have hr := B.returns; have hlocks := B.notSynchronized
  have ht : ∀ w ∈ lw_g, w.before _ s = true := fun w h => atoms_spec (ws := w_Codewords_prepareGenerator) B.pre w (List.mem_cons_of_mem _ h)
  have hown : s.vm.findClass "SquareSymbols$Codewords" = some m.cls := findClass_of_methodNamed B.named
  subst hsz
  have hD := hD0.self (sz := s.heap.size)
  generalize hAe : va_A (ww_Codewords_prepareGenerator qt qt_field qt_generator qt_field_logs qt_field_powers qt_bytes qt_rest ct_generator ct_field_logs ct_field_powers vt_version vt_total vt_holds vt_blocks vt_checks vt_shortLength vt_shortBlocks vt_filled vt_waiting vt_waitingBits vt_generator vt_field_logs vt_field_powers) s.heap.size = A at hD ⊢
  have hA : ∀ q : Nat, s.heap.size ≤ q → A q := fun q h => by rw [← hAe]; exact Or.inr h
  have hS : va_S A s.heap s.heap [] := va_S.rf
  have hl := lv_entry ([.ref qt]) (n := 3) (Nat.le_of_ble_eq_true rfl)
  rw [lg_entry_eq]
  generalize (lg_sl ([.ref qt]) ++ List.replicate (3 - (lg_sl ([.ref qt])).length) Slot.unset).toArray = ls at hl ⊢
  have hl : lv_has ls 3 [(0, .ref qt)] := hl
  refine lv_aload_n hx hb d_Codewords_prepareGenerator_0 rfl (lv_at hl 0 rfl) ?_
  refine va_get (D := (dC, dI)) (ci := 3) (v := .ref qt_generator) (C := R_Codewords) (T := F_Codewords) (N := 14) hx hb ht i_Codewords hown hK hP 0 rfl rfl 2 (by decide) (ht _ tb_106) (fun _ h9 => h9) rfl d_Codewords_prepareGenerator_1 ?_
  refine lv_iconst (v := (0 : Int32)) hx hb d_Codewords_prepareGenerator_4 (by decide) ?_
  obtain ⟨b1, hc2, Hf⟩ := sq_cb1_e Hf
  refine sq_rwv (wn := (ww_Codewords_prepareGenerator qt qt_field qt_generator qt_field_logs qt_field_powers qt_bytes qt_rest ct_generator ct_field_logs ct_field_powers vt_version vt_total vt_holds vt_blocks vt_checks vt_shortLength vt_shortBlocks vt_filled vt_waiting vt_waitingBits b1 vt_field_logs vt_field_powers)) (va_runS (As := [.ref qt_generator, .int (0 : Int32)]) (rest := []) ⟨hx, hb, hml, hown, ht⟩ (kt_JArrays_fill1 l dC dI qt_generator ct_generator 31 vt_generator (0 : Int32) s.heap.size n0 b1 hc2) (va_cwS 2 ht (sq_gS tb_958 tb_565 tb_18 tb_566) rfl rfl rfl (by decide +kernel) ⟨Nat.le_of_ble_eq_true rfl, Nat.le_of_ble_eq_true rfl⟩) (sq_rwS (hP.sub (ws' := (ww_JArrays_fill1 qt_generator ct_generator 31 vt_generator)) [2] rfl) (hK.sub (tys' := [(ct_generator, .int)]) [0] rfl) (hD.sub (ws' := (ww_JArrays_fill1 qt_generator ct_generator 31 vt_generator)) [2] (by decide) rfl)) rfl rfl hl.1 rfl (lv_room (Nat.le_of_ble_eq_true rfl)) d_Codewords_prepareGenerator_5 ⟨Nat.le_of_ble_eq_true rfl, Nat.le_of_ble_eq_true rfl⟩) hP hD hS hA [2] [0, 1, 3, 4] [0, 1, 4, 2, 3] rfl rfl (by decide) (by decide) rfl (by decide) (fun H locs hP hD hS => ?_)
  refine lv_aload_n hx hb d_Codewords_prepareGenerator_8 rfl (lv_at hl 0 rfl) ?_
  refine va_get (D := (dC, dI)) (ci := 3) (v := .int vt_checks) (C := R_Codewords) (T := F_Codewords) (N := 14) hx hb ht i_Codewords hown hK hP 0 rfl rfl 8 (by decide) (ht _ tb_112) (fun _ h9 => h9) rfl d_Codewords_prepareGenerator_9 ?_
  refine lv_iconst (v := (1 : Int32)) hx hb d_Codewords_prepareGenerator_12 (by decide) ?_
  refine lv_icmp_lt (tgt := 25) hx hb d_Codewords_prepareGenerator_13 (by decide) (fun c3 => ?_) (fun c3 => ?_)
  · replace Hf := sq_ite_t Hf c3
    obtain rfl := Option.some.inj Hf
    exact W.vret hx hb hr (fun t ht hW => ⟨⟨(), rfl, trivial, by rw [ht]; exact hP, hD⟩, hS.F ht⟩) hS.2.2 d_Codewords_prepareGenerator_25
  · replace Hf := sq_ite_f Hf c3
    refine lv_aload_n hx hb d_Codewords_prepareGenerator_16 rfl (lv_at hl 0 rfl) ?_
    refine va_get (D := (dC, dI)) (ci := 3) (v := .int vt_checks) (C := R_Codewords) (T := F_Codewords) (N := 14) hx hb ht i_Codewords hown hK hP 0 rfl rfl 8 (by decide) (ht _ tb_112) (fun _ h9 => h9) rfl d_Codewords_prepareGenerator_17 ?_
    refine lv_bipush (v := (30 : Int32)) hx hb d_Codewords_prepareGenerator_20 (by decide) ?_
    refine lv_icmp_le (tgt := 26) hx hb d_Codewords_prepareGenerator_22 (by decide) (fun c4 => ?_) (fun c4 => ?_)
    · replace Hf := sq_ite_t Hf c4
      refine lv_aload_n hx hb d_Codewords_prepareGenerator_26 rfl (lv_at hl 0 rfl) ?_
      refine va_get (D := (dC, dI)) (ci := 3) (v := .ref qt_generator) (C := R_Codewords) (T := F_Codewords) (N := 14) hx hb ht i_Codewords hown hK hP 0 rfl rfl 2 (by decide) (ht _ tb_106) (fun _ h9 => h9) rfl d_Codewords_prepareGenerator_27 ?_
      refine lv_aload_n hx hb d_Codewords_prepareGenerator_30 rfl (lv_at hl 0 rfl) ?_
      refine va_get (D := (dC, dI)) (ci := 3) (v := .int vt_checks) (C := R_Codewords) (T := F_Codewords) (N := 14) hx hb ht i_Codewords hown hK hP 0 rfl rfl 8 (by decide) (ht _ tb_112) (fun _ h9 => h9) rfl d_Codewords_prepareGenerator_31 ?_
      refine lv_iconst (v := (1 : Int32)) hx hb d_Codewords_prepareGenerator_34 (by decide) ?_
      refine lv_isub hx hb d_Codewords_prepareGenerator_35 ?_
      refine lv_iconst (v := (1 : Int32)) hx hb d_Codewords_prepareGenerator_36 (by decide) ?_
      obtain ⟨x6, ex6, Hf⟩ := sq_bd_e Hf
      refine sq_top2 ex6 ?_
      obtain ⟨hi5, Hf⟩ := sq_gi_e Hf
      obtain ⟨b7, eb7, Hf⟩ := sq_bd_e Hf
      refine va_iast hx hb hK hP hD hS 2 0 rfl rfl hi5 d_Codewords_prepareGenerator_37 (fun H locs hP hD hS => ?_)
      rw [← eb7] at hP hD
      replace hP : va_P (dC, dI) cl_All (ww_Codewords_prepareGenerator qt qt_field qt_generator qt_field_logs qt_field_powers qt_bytes qt_rest ct_generator ct_field_logs ct_field_powers vt_version vt_total vt_holds vt_blocks vt_checks vt_shortLength vt_shortBlocks vt_filled vt_waiting vt_waitingBits b7 vt_field_logs vt_field_powers) H := hP
      replace hD : va_D A (ww_Codewords_prepareGenerator qt qt_field qt_generator qt_field_logs qt_field_powers qt_bytes qt_rest ct_generator ct_field_logs ct_field_powers vt_version vt_total vt_holds vt_blocks vt_checks vt_shortLength vt_shortBlocks vt_filled vt_waiting vt_waitingBits b7 vt_field_logs vt_field_powers) := hD
      refine lv_iconst (v := (0 : Int32)) hx hb d_Codewords_prepareGenerator_38 (by decide) ?_
      refine lv_istore_n (lv' := [(1, .int (0 : Int32)), (0, .ref qt)]) hx hb d_Codewords_prepareGenerator_39 rfl hl (by decide) rfl (fun ls hl => ?_)
      have L1 : ∀ (m1 : Nat), ∀ (x8 : Int32) (b9 : Nat → Int32), fn_Codewords_prepareGenerator_L1 n0 vt_checks vt_field_logs vt_field_powers m1 x8 b9 = some nvt_generator → ∀ (H : Heap) (locs : List Loc), va_P (dC, dI) cl_All (ww_Codewords_prepareGenerator qt qt_field qt_generator qt_field_logs qt_field_powers qt_bytes qt_rest ct_generator ct_field_logs ct_field_powers vt_version vt_total vt_holds vt_blocks vt_checks vt_shortLength vt_shortBlocks vt_filled vt_waiting vt_waitingBits b9 vt_field_logs vt_field_powers) H → va_D A (ww_Codewords_prepareGenerator qt qt_field qt_generator qt_field_logs qt_field_powers qt_bytes qt_rest ct_generator ct_field_logs ct_field_powers vt_version vt_total vt_holds vt_blocks vt_checks vt_shortLength vt_shortBlocks vt_filled vt_waiting vt_waitingBits b9 vt_field_logs vt_field_powers) → va_S A s.heap H locs → ∀ ls : Array Slot, lv_has ls 3 [(0, .ref qt), (1, .int x8)] → W p l e (headSpec w_Codewords_prepareGenerator rm_Codewords_prepareGenerator).room s m (([.ref qt] : List Value).toArray) below meth c H locs 0 0 (MQ below (qc_Codewords_prepareGenerator dC dI A qt qt_field qt_generator qt_field_logs qt_field_powers qt_bytes qt_rest ct_generator ct_field_logs ct_field_powers vt_version vt_total vt_holds vt_blocks vt_checks vt_shortLength vt_shortBlocks vt_filled vt_waiting vt_waitingBits nvt_generator vt_field_logs vt_field_powers) (([.ref qt] : List Value).toArray) s 0 0 A) (F0 m 40 ls []) := by
        intro m1
        induction m1 with
        | zero => intro x8 b9 Hf; exact sq_none Hf
        | succ m1 ih1 =>
          intro x8 b9 Hf H locs  hP hD hS ls hl
          replace Hf := (fn_Codewords_prepareGenerator_L1_s n0 vt_checks vt_field_logs vt_field_powers m1 x8 b9).symm.trans Hf
          refine lv_iload_n hx hb d_Codewords_prepareGenerator_40 rfl (lv_at hl 1 rfl) ?_
          refine lv_aload_n hx hb d_Codewords_prepareGenerator_41 rfl (lv_at hl 0 rfl) ?_
          refine va_get (D := (dC, dI)) (ci := 3) (v := .int vt_checks) (C := R_Codewords) (T := F_Codewords) (N := 14) hx hb ht i_Codewords hown hK hP 0 rfl rfl 8 (by decide) (ht _ tb_112) (fun _ h9 => h9) rfl d_Codewords_prepareGenerator_42 ?_
          refine lv_icmp_ge (tgt := 106) hx hb d_Codewords_prepareGenerator_45 (by decide) (fun c10 => ?_) (fun c10 => ?_)
          · replace Hf := sq_ite_t Hf c10
            obtain rfl := Option.some.inj Hf
            exact W.vret hx hb hr (fun t ht hW => ⟨⟨(), rfl, trivial, by rw [ht]; exact hP, hD⟩, hS.F ht⟩) hS.2.2 d_Codewords_prepareGenerator_106
          · replace Hf := sq_ite_f Hf c10
            refine lv_iconst (v := (0 : Int32)) hx hb d_Codewords_prepareGenerator_48 (by decide) ?_
            refine lv_istore_n (lv' := [(2, .int (0 : Int32)), (0, .ref qt), (1, .int x8)]) hx hb d_Codewords_prepareGenerator_49 rfl hl (by decide) rfl (fun ls hl => ?_)
            obtain ⟨k12, hk12, Hf⟩ := sq_jn_e Hf
            have Jk12 : ∀ (b11 : Nat → Int32), k12 b11 = some nvt_generator → ∀ (H : Heap) (locs : List Loc), va_P (dC, dI) cl_All (ww_Codewords_prepareGenerator qt qt_field qt_generator qt_field_logs qt_field_powers qt_bytes qt_rest ct_generator ct_field_logs ct_field_powers vt_version vt_total vt_holds vt_blocks vt_checks vt_shortLength vt_shortBlocks vt_filled vt_waiting vt_waitingBits b11 vt_field_logs vt_field_powers) H → va_D A (ww_Codewords_prepareGenerator qt qt_field qt_generator qt_field_logs qt_field_powers qt_bytes qt_rest ct_generator ct_field_logs ct_field_powers vt_version vt_total vt_holds vt_blocks vt_checks vt_shortLength vt_shortBlocks vt_filled vt_waiting vt_waitingBits b11 vt_field_logs vt_field_powers) → va_S A s.heap H locs → ∀ ls : Array Slot, lv_has ls 3 [(0, .ref qt), (1, .int x8)] → W p l e (headSpec w_Codewords_prepareGenerator rm_Codewords_prepareGenerator).room s m (([.ref qt] : List Value).toArray) below meth c H locs 0 0 (MQ below (qc_Codewords_prepareGenerator dC dI A qt qt_field qt_generator qt_field_logs qt_field_powers qt_bytes qt_rest ct_generator ct_field_logs ct_field_powers vt_version vt_total vt_holds vt_blocks vt_checks vt_shortLength vt_shortBlocks vt_filled vt_waiting vt_waitingBits nvt_generator vt_field_logs vt_field_powers) (([.ref qt] : List Value).toArray) s 0 0 A) (F0 m 100 ls []) := by
              intro b11 Hf H locs  hP hD hS ls hl
              rw [hk12] at Hf
              obtain ⟨x13, ex13, Hf⟩ := sq_bd_e Hf
              refine lv_iinc (v := x13) (lv' := [(1, .int x13), (0, .ref qt)]) hx hb d_Codewords_prepareGenerator_100 hl (k := 1) rfl (by rw [ex13]; rfl) (by decide) rfl (fun ls hl => ?_)
              refine lv_goto (tgt := 40) hx hb d_Codewords_prepareGenerator_103 (by decide) ?_
              exact ih1 x13 b11 Hf _ _  hP hD hS _ (lv_sub hl [1, 0] rfl)
            have L2 : ∀ (m2 : Nat), ∀ (x14 : Int32) (b15 : Nat → Int32), fn_Codewords_prepareGenerator_L2 vt_checks vt_field_logs vt_field_powers x8 k12 m2 x14 b15 = some nvt_generator → ∀ (H : Heap) (locs : List Loc), va_P (dC, dI) cl_All (ww_Codewords_prepareGenerator qt qt_field qt_generator qt_field_logs qt_field_powers qt_bytes qt_rest ct_generator ct_field_logs ct_field_powers vt_version vt_total vt_holds vt_blocks vt_checks vt_shortLength vt_shortBlocks vt_filled vt_waiting vt_waitingBits b15 vt_field_logs vt_field_powers) H → va_D A (ww_Codewords_prepareGenerator qt qt_field qt_generator qt_field_logs qt_field_powers qt_bytes qt_rest ct_generator ct_field_logs ct_field_powers vt_version vt_total vt_holds vt_blocks vt_checks vt_shortLength vt_shortBlocks vt_filled vt_waiting vt_waitingBits b15 vt_field_logs vt_field_powers) → va_S A s.heap H locs → ∀ ls : Array Slot, lv_has ls 3 [(0, .ref qt), (1, .int x8), (2, .int x14)] → W p l e (headSpec w_Codewords_prepareGenerator rm_Codewords_prepareGenerator).room s m (([.ref qt] : List Value).toArray) below meth c H locs 0 0 (MQ below (qc_Codewords_prepareGenerator dC dI A qt qt_field qt_generator qt_field_logs qt_field_powers qt_bytes qt_rest ct_generator ct_field_logs ct_field_powers vt_version vt_total vt_holds vt_blocks vt_checks vt_shortLength vt_shortBlocks vt_filled vt_waiting vt_waitingBits nvt_generator vt_field_logs vt_field_powers) (([.ref qt] : List Value).toArray) s 0 0 A) (F0 m 50 ls []) := by
              intro m2
              induction m2 with
              | zero => intro x14 b15 Hf; exact sq_none Hf
              | succ m2 ih2 =>
                intro x14 b15 Hf H locs  hP hD hS ls hl
                replace Hf := (fn_Codewords_prepareGenerator_L2_s vt_checks vt_field_logs vt_field_powers x8 k12 m2 x14 b15).symm.trans Hf
                refine lv_iload_n hx hb d_Codewords_prepareGenerator_50 rfl (lv_at hl 2 rfl) ?_
                refine lv_aload_n hx hb d_Codewords_prepareGenerator_51 rfl (lv_at hl 0 rfl) ?_
                refine va_get (D := (dC, dI)) (ci := 3) (v := .int vt_checks) (C := R_Codewords) (T := F_Codewords) (N := 14) hx hb ht i_Codewords hown hK hP 0 rfl rfl 8 (by decide) (ht _ tb_112) (fun _ h9 => h9) rfl d_Codewords_prepareGenerator_52 ?_
                refine lv_icmp_ge (tgt := 100) hx hb d_Codewords_prepareGenerator_55 (by decide) (fun c16 => ?_) (fun c16 => ?_)
                · replace Hf := sq_ite_t Hf c16
                  exact Jk12 b15 Hf _ _  hP hD hS _ (lv_sub hl [0, 1] rfl)
                · replace Hf := sq_ite_f Hf c16
                  refine lv_aload_n hx hb d_Codewords_prepareGenerator_58 rfl (lv_at hl 0 rfl) ?_
                  refine va_get (D := (dC, dI)) (ci := 3) (v := .ref qt_generator) (C := R_Codewords) (T := F_Codewords) (N := 14) hx hb ht i_Codewords hown hK hP 0 rfl rfl 2 (by decide) (ht _ tb_106) (fun _ h9 => h9) rfl d_Codewords_prepareGenerator_59 ?_
                  refine lv_iload_n hx hb d_Codewords_prepareGenerator_62 rfl (lv_at hl 2 rfl) ?_
                  refine lv_aload_n hx hb d_Codewords_prepareGenerator_63 rfl (lv_at hl 0 rfl) ?_
                  refine va_get (D := (dC, dI)) (ci := 3) (v := .ref qt_field) (C := R_Codewords) (T := F_Codewords) (N := 14) hx hb ht i_Codewords hown hK hP 0 rfl rfl 0 (by decide) (ht _ tb_104) (fun _ h9 => h9) rfl d_Codewords_prepareGenerator_64 ?_
                  refine lv_aload_n hx hb d_Codewords_prepareGenerator_67 rfl (lv_at hl 0 rfl) ?_
                  refine va_get (D := (dC, dI)) (ci := 3) (v := .ref qt_generator) (C := R_Codewords) (T := F_Codewords) (N := 14) hx hb ht i_Codewords hown hK hP 0 rfl rfl 2 (by decide) (ht _ tb_106) (fun _ h9 => h9) rfl d_Codewords_prepareGenerator_68 ?_
                  refine lv_iload_n hx hb d_Codewords_prepareGenerator_71 rfl (lv_at hl 2 rfl) ?_
                  obtain ⟨hi17, Hf⟩ := sq_gi_e Hf
                  refine va_iald hx hb hK hP 2 0 rfl rfl hi17 d_Codewords_prepareGenerator_72 ?_
                  obtain ⟨x18, ex18, Hf⟩ := sq_bd_e Hf
                  refine sq_top ex18 ?_
                  refine lv_aload_n hx hb d_Codewords_prepareGenerator_73 rfl (lv_at hl 0 rfl) ?_
                  refine va_get (D := (dC, dI)) (ci := 3) (v := .ref qt_field) (C := R_Codewords) (T := F_Codewords) (N := 14) hx hb ht i_Codewords hown hK hP 0 rfl rfl 0 (by decide) (ht _ tb_104) (fun _ h9 => h9) rfl d_Codewords_prepareGenerator_74 ?_
                  refine lv_iload_n hx hb d_Codewords_prepareGenerator_77 rfl (lv_at hl 1 rfl) ?_
                  obtain ⟨r19, hc20, Hf⟩ := sq_cb1_e Hf
                  refine sq_roi (va_runV (As := [.int x8]) (rest := [.int x18, .ref qt_field, .int x14, .ref qt_generator]) ⟨hx, hb, hml, hown, ht⟩ (kt_Field_power l dC dI qt_field qt_field_powers qt_field_logs ct_field_powers vt_field_powers x8 r19 hc20) (cwV 1 ht (sq_gV tb_959 tb_548 tb_549 tb_2 tb_550) rfl rfl rfl (by decide +kernel) ⟨Nat.le_of_ble_eq_true rfl, Nat.le_of_ble_eq_true rfl⟩) (sq_roV (hP.sub (ws' := (ww_Field_power qt_field qt_field_powers qt_field_logs ct_field_powers vt_field_powers)) [1, 4] rfl) (hK.sub (tys' := [(ct_field_powers, .int)]) [2] rfl) (va_recv hK hP (ci := 2) (q0 := 1) rfl rfl)) rfl rfl hl.1 rfl (lv_room (Nat.le_of_ble_eq_true rfl)) d_Codewords_prepareGenerator_78 ⟨Nat.le_of_ble_eq_true rfl, Nat.le_of_ble_eq_true rfl⟩) ?_
                  obtain ⟨r21, hc22, Hf⟩ := sq_cb1_e Hf
                  refine sq_roi (va_runV (As := [.int x18, .int r19]) (rest := [.int x14, .ref qt_generator]) ⟨hx, hb, hml, hown, ht⟩ (kt_Field_times l dC dI qt_field qt_field_logs qt_field_powers ct_field_logs ct_field_powers vt_field_logs vt_field_powers x18 r19 r21 hc22) (cwV 2 ht (sq_gV tb_960 tb_557 tb_558 tb_2 tb_559) rfl rfl rfl (by decide +kernel) ⟨Nat.le_of_ble_eq_true rfl, Nat.le_of_ble_eq_true rfl⟩) (sq_roV (hP.sub (ws' := (ww_Field_times qt_field qt_field_logs qt_field_powers ct_field_logs ct_field_powers vt_field_logs vt_field_powers)) [1, 3, 4] rfl) (hK.sub (tys' := [(ct_field_logs, .int), (ct_field_powers, .int)]) [1, 2] rfl) (va_recv hK hP (ci := 2) (q0 := 1) rfl rfl)) rfl rfl hl.1 rfl (lv_room (Nat.le_of_ble_eq_true rfl)) d_Codewords_prepareGenerator_81 ⟨Nat.le_of_ble_eq_true rfl, Nat.le_of_ble_eq_true rfl⟩) ?_
                  refine lv_aload_n hx hb d_Codewords_prepareGenerator_84 rfl (lv_at hl 0 rfl) ?_
                  refine va_get (D := (dC, dI)) (ci := 3) (v := .ref qt_generator) (C := R_Codewords) (T := F_Codewords) (N := 14) hx hb ht i_Codewords hown hK hP 0 rfl rfl 2 (by decide) (ht _ tb_106) (fun _ h9 => h9) rfl d_Codewords_prepareGenerator_85 ?_
                  refine lv_iload_n hx hb d_Codewords_prepareGenerator_88 rfl (lv_at hl 2 rfl) ?_
                  refine lv_iconst (v := (1 : Int32)) hx hb d_Codewords_prepareGenerator_89 (by decide) ?_
                  refine lv_iadd hx hb d_Codewords_prepareGenerator_90 ?_
                  obtain ⟨x23, ex23, Hf⟩ := sq_bd_e Hf
                  refine sq_top ex23 ?_
                  obtain ⟨hi24, Hf⟩ := sq_gi_e Hf
                  refine va_iald hx hb hK hP 2 0 rfl rfl hi24 d_Codewords_prepareGenerator_91 ?_
                  obtain ⟨x25, ex25, Hf⟩ := sq_bd_e Hf
                  refine sq_top ex25 ?_
                  refine lv_ixor hx hb d_Codewords_prepareGenerator_92 ?_
                  obtain ⟨x26, ex26, Hf⟩ := sq_bd_e Hf
                  refine sq_top ex26 ?_
                  obtain ⟨hi27, Hf⟩ := sq_gi_e Hf
                  obtain ⟨b28, eb28, Hf⟩ := sq_bd_e Hf
                  refine va_iast hx hb hK hP hD hS 2 0 rfl rfl hi27 d_Codewords_prepareGenerator_93 (fun H locs hP hD hS => ?_)
                  rw [← eb28] at hP hD
                  replace hP : va_P (dC, dI) cl_All (ww_Codewords_prepareGenerator qt qt_field qt_generator qt_field_logs qt_field_powers qt_bytes qt_rest ct_generator ct_field_logs ct_field_powers vt_version vt_total vt_holds vt_blocks vt_checks vt_shortLength vt_shortBlocks vt_filled vt_waiting vt_waitingBits b28 vt_field_logs vt_field_powers) H := hP
                  replace hD : va_D A (ww_Codewords_prepareGenerator qt qt_field qt_generator qt_field_logs qt_field_powers qt_bytes qt_rest ct_generator ct_field_logs ct_field_powers vt_version vt_total vt_holds vt_blocks vt_checks vt_shortLength vt_shortBlocks vt_filled vt_waiting vt_waitingBits b28 vt_field_logs vt_field_powers) := hD
                  obtain ⟨x29, ex29, Hf⟩ := sq_bd_e Hf
                  refine lv_iinc (v := x29) (lv' := [(2, .int x29), (0, .ref qt), (1, .int x8)]) hx hb d_Codewords_prepareGenerator_94 hl (k := 2) rfl (by rw [ex29]; rfl) (by decide) rfl (fun ls hl => ?_)
                  refine lv_goto (tgt := 50) hx hb d_Codewords_prepareGenerator_97 (by decide) ?_
                  exact ih2 x29 b28 Hf _ _  hP hD hS _ (lv_sub hl [1, 2, 0] rfl)
            exact L2 n0 (0 : Int32) b9 Hf _ _  hP hD hS _ (lv_sub hl [1, 2, 0] rfl)
      exact L1 n0 (0 : Int32) b7 Hf _ _  hP hD hS _ (lv_sub hl [1, 0] rfl)
    · replace Hf := sq_ite_f Hf c4
      obtain rfl := Option.some.inj Hf
      exact W.vret hx hb hr (fun t ht hW => ⟨⟨(), rfl, trivial, by rw [ht]; exact hP, hD⟩, hS.F ht⟩) hS.2.2 d_Codewords_prepareGenerator_25

def fn_Codewords_addChecksOf_L1 (p1 : Int32) (vt_holds : Int32) (vt_checks : Int32) (vt_shortLength : Int32) (vt_shortBlocks : Int32) (r3 : Int32) (b5 : Nat → Int32) : Nat → Int32 → (Nat → Int32) → Option ((Nat → Int32) × (Nat → Int32))
  | 0, _, _ => none
  | m1 + 1, x7, b8 => if vt_checks ≤ x7 then (some (b8, b5)) else (if (30 : Int32) ≤ x7 then (some (b8, b5)) else (sq_cb1 (fn_Codewords_placeInBlock p1 (r3 + x7) vt_holds vt_checks vt_shortLength vt_shortBlocks) fun r11 => sq_gi x7 31 <| sq_bd (b5 x7.toNatClampNeg) fun x14 => sq_cb1 (fn_Codewords_set r11 x14 b8) fun b15 => sq_bd (x7 + (1 : Int32)) fun x17 => fn_Codewords_addChecksOf_L1 p1 vt_holds vt_checks vt_shortLength vt_shortBlocks r3 b5 m1 x17 b15))
theorem fn_Codewords_addChecksOf_L1_s (p1 : Int32) (vt_holds : Int32) (vt_checks : Int32) (vt_shortLength : Int32) (vt_shortBlocks : Int32) (r3 : Int32) (b5 : Nat → Int32) (m1 : Nat) (x7 : Int32) (b8 : Nat → Int32) : fn_Codewords_addChecksOf_L1 p1 vt_holds vt_checks vt_shortLength vt_shortBlocks r3 b5 (m1 + 1) x7 b8 = if vt_checks ≤ x7 then (some (b8, b5)) else (if (30 : Int32) ≤ x7 then (some (b8, b5)) else (sq_cb1 (fn_Codewords_placeInBlock p1 (r3 + x7) vt_holds vt_checks vt_shortLength vt_shortBlocks) fun r11 => sq_gi x7 31 <| sq_bd (b5 x7.toNatClampNeg) fun x14 => sq_cb1 (fn_Codewords_set r11 x14 b8) fun b15 => sq_bd (x7 + (1 : Int32)) fun x17 => fn_Codewords_addChecksOf_L1 p1 vt_holds vt_checks vt_shortLength vt_shortBlocks r3 b5 m1 x17 b15)) := rfl
def fn_Codewords_addChecksOf_L3 (vt_checks : Int32) (vt_generator : Nat → Int32) (vt_field_logs : Nat → Int32) (vt_field_powers : Nat → Int32) (x27 : Int32) (k29 : (Nat → Int32) → Option ((Nat → Int32) × (Nat → Int32))) : Nat → Int32 → (Nat → Int32) → Option ((Nat → Int32) × (Nat → Int32))
  | 0, _, _ => none
  | m3 + 1, x31, b32 => if vt_checks ≤ x31 then (k29 b32) else (if (30 : Int32) ≤ x31 then (k29 b32) else (sq_bd (x31 + (1 : Int32)) fun x35 => sq_gi x35 31 <| sq_bd (b32 x35.toNatClampNeg) fun x37 => sq_gi x31 31 <| sq_bd (vt_generator x31.toNatClampNeg) fun x39 => sq_cb1 (fn_Field_times x39 x27 vt_field_logs vt_field_powers) fun r40 => sq_bd (x37 ^^^ r40) fun x42 => sq_gi x31 31 <| sq_bd (upd b32 x31.toNatClampNeg x42) fun b44 => sq_bd (x31 + (1 : Int32)) fun x45 => fn_Codewords_addChecksOf_L3 vt_checks vt_generator vt_field_logs vt_field_powers x27 k29 m3 x45 b44))
theorem fn_Codewords_addChecksOf_L3_s (vt_checks : Int32) (vt_generator : Nat → Int32) (vt_field_logs : Nat → Int32) (vt_field_powers : Nat → Int32) (x27 : Int32) (k29 : (Nat → Int32) → Option ((Nat → Int32) × (Nat → Int32))) (m3 : Nat) (x31 : Int32) (b32 : Nat → Int32) : fn_Codewords_addChecksOf_L3 vt_checks vt_generator vt_field_logs vt_field_powers x27 k29 (m3 + 1) x31 b32 = if vt_checks ≤ x31 then (k29 b32) else (if (30 : Int32) ≤ x31 then (k29 b32) else (sq_bd (x31 + (1 : Int32)) fun x35 => sq_gi x35 31 <| sq_bd (b32 x35.toNatClampNeg) fun x37 => sq_gi x31 31 <| sq_bd (vt_generator x31.toNatClampNeg) fun x39 => sq_cb1 (fn_Field_times x39 x27 vt_field_logs vt_field_powers) fun r40 => sq_bd (x37 ^^^ r40) fun x42 => sq_gi x31 31 <| sq_bd (upd b32 x31.toNatClampNeg x42) fun b44 => sq_bd (x31 + (1 : Int32)) fun x45 => fn_Codewords_addChecksOf_L3 vt_checks vt_generator vt_field_logs vt_field_powers x27 k29 m3 x45 b44)) := rfl
def fn_Codewords_addChecksOf_L2 (p1 : Int32) (n0 : Nat) (vt_holds : Int32) (vt_checks : Int32) (vt_shortLength : Int32) (vt_shortBlocks : Int32) (vt_bytes : Nat → Int32) (vt_generator : Nat → Int32) (vt_field_logs : Nat → Int32) (vt_field_powers : Nat → Int32) (r3 : Int32) (k6 : (Nat → Int32) → Option ((Nat → Int32) × (Nat → Int32))) : Nat → Int32 → (Nat → Int32) → Option ((Nat → Int32) × (Nat → Int32))
  | 0, _, _ => none
  | m2 + 1, x18, b19 => if r3 ≤ x18 then (k6 b19) else (sq_cb1 (fn_Codewords_placeInBlock p1 x18 vt_holds vt_checks vt_shortLength vt_shortBlocks) fun r21 => sq_cb1 (fn_Codewords_get r21 vt_bytes) fun r23 => sq_gi (0 : Int32) 31 <| sq_bd (b19 (0 : Int32).toNatClampNeg) fun x26 => sq_bd (r23 ^^^ x26) fun x27 => sq_jn (fun (b28 : Nat → Int32) => sq_bd (x18 + (1 : Int32)) fun x30 => fn_Codewords_addChecksOf_L2 p1 n0 vt_holds vt_checks vt_shortLength vt_shortBlocks vt_bytes vt_generator vt_field_logs vt_field_powers r3 k6 m2 x30 b28) fun k29 => fn_Codewords_addChecksOf_L3 vt_checks vt_generator vt_field_logs vt_field_powers x27 k29 n0 (0 : Int32) b19)
theorem fn_Codewords_addChecksOf_L2_s (p1 : Int32) (n0 : Nat) (vt_holds : Int32) (vt_checks : Int32) (vt_shortLength : Int32) (vt_shortBlocks : Int32) (vt_bytes : Nat → Int32) (vt_generator : Nat → Int32) (vt_field_logs : Nat → Int32) (vt_field_powers : Nat → Int32) (r3 : Int32) (k6 : (Nat → Int32) → Option ((Nat → Int32) × (Nat → Int32))) (m2 : Nat) (x18 : Int32) (b19 : Nat → Int32) : fn_Codewords_addChecksOf_L2 p1 n0 vt_holds vt_checks vt_shortLength vt_shortBlocks vt_bytes vt_generator vt_field_logs vt_field_powers r3 k6 (m2 + 1) x18 b19 = if r3 ≤ x18 then (k6 b19) else (sq_cb1 (fn_Codewords_placeInBlock p1 x18 vt_holds vt_checks vt_shortLength vt_shortBlocks) fun r21 => sq_cb1 (fn_Codewords_get r21 vt_bytes) fun r23 => sq_gi (0 : Int32) 31 <| sq_bd (b19 (0 : Int32).toNatClampNeg) fun x26 => sq_bd (r23 ^^^ x26) fun x27 => sq_jn (fun (b28 : Nat → Int32) => sq_bd (x18 + (1 : Int32)) fun x30 => fn_Codewords_addChecksOf_L2 p1 n0 vt_holds vt_checks vt_shortLength vt_shortBlocks vt_bytes vt_generator vt_field_logs vt_field_powers r3 k6 m2 x30 b28) fun k29 => fn_Codewords_addChecksOf_L3 vt_checks vt_generator vt_field_logs vt_field_powers x27 k29 n0 (0 : Int32) b19) := rfl
def fn_Codewords_addChecksOf (n0 : Nat) (p1 : Int32) (vt_holds : Int32) (vt_checks : Int32) (vt_shortLength : Int32) (vt_shortBlocks : Int32) (vt_bytes : Nat → Int32) (vt_generator : Nat → Int32) (vt_rest : Nat → Int32) (vt_field_logs : Nat → Int32) (vt_field_powers : Nat → Int32) : Option ((Nat → Int32) × (Nat → Int32)) :=
  sq_cb1 (fn_JArrays_fill1 n0 (0 : Int32) 31 vt_rest) fun b1 => sq_cb1 (fn_Codewords_length p1 vt_shortLength vt_shortBlocks) fun r3 => sq_jn (fun (b5 : Nat → Int32) => fn_Codewords_addChecksOf_L1 p1 vt_holds vt_checks vt_shortLength vt_shortBlocks r3 b5 n0 (0 : Int32) vt_bytes) fun k6 => fn_Codewords_addChecksOf_L2 p1 n0 vt_holds vt_checks vt_shortLength vt_shortBlocks vt_bytes vt_generator vt_field_logs vt_field_powers r3 k6 n0 (0 : Int32) b1
abbrev ww_Codewords_addChecksOf (qt qt_bytes qt_field qt_generator qt_rest qt_field_logs qt_field_powers : Nat) (ct_bytes ct_generator ct_rest ct_field_logs ct_field_powers : ClassId) (vt_version : Int32) (vt_total : Int32) (vt_holds : Int32) (vt_blocks : Int32) (vt_checks : Int32) (vt_shortLength : Int32) (vt_shortBlocks : Int32) (vt_filled : Int32) (vt_waiting : Int32) (vt_waitingBits : Int32) (vt_bytes : Nat → Int32) (vt_generator : Nat → Int32) (vt_rest : Nat → Int32) (vt_field_logs : Nat → Int32) (vt_field_powers : Nat → Int32) : va_W := [(qt, .inr (3, [.ref qt_field, .ref qt_bytes, .ref qt_generator, .ref qt_rest, .int vt_version, .int vt_total, .int vt_holds, .int vt_blocks, .int vt_checks, .int vt_shortLength, .int vt_shortBlocks, .int vt_filled, .int vt_waiting, .int vt_waitingBits])), (qt_bytes, .inl (ct_bytes, 3706, .inl vt_bytes)), (qt_field, .inr (2, [.ref qt_field_powers, .ref qt_field_logs])), (qt_generator, .inl (ct_generator, 31, .inl vt_generator)), (qt_rest, .inl (ct_rest, 31, .inl vt_rest)), (qt_field_logs, .inl (ct_field_logs, 256, .inl vt_field_logs)), (qt_field_powers, .inl (ct_field_powers, 512, .inl vt_field_powers))]

def rm_Codewords_addChecksOf : Room := { frames := 3, cells := 0, slots := 0, locals := 68 }
abbrev qc_Codewords_addChecksOf (dC : Nat → ClassId) (dI : Nat → Nat → Nat) (A : Nat → Prop) (qt qt_bytes qt_field qt_generator qt_rest qt_field_logs qt_field_powers : Nat) (ct_bytes ct_generator ct_rest ct_field_logs ct_field_powers : ClassId) (vt_version : Int32) (vt_total : Int32) (vt_holds : Int32) (vt_blocks : Int32) (vt_checks : Int32) (vt_shortLength : Int32) (vt_shortBlocks : Int32) (vt_filled : Int32) (vt_waiting : Int32) (vt_waitingBits : Int32) (vt_bytes : Nat → Int32) (vt_generator : Nat → Int32) (vt_rest : Nat → Int32) (vt_field_logs : Nat → Int32) (vt_field_powers : Nat → Int32) : Array Value → State → Outcome → State → Prop := va_Qv (fun (_ : Unit) => True) (fun _ t => va_P (dC, dI) cl_All (ww_Codewords_addChecksOf qt qt_bytes qt_field qt_generator qt_rest qt_field_logs qt_field_powers ct_bytes ct_generator ct_rest ct_field_logs ct_field_powers vt_version vt_total vt_holds vt_blocks vt_checks vt_shortLength vt_shortBlocks vt_filled vt_waiting vt_waitingBits vt_bytes vt_generator vt_rest vt_field_logs vt_field_powers) t.heap ∧ va_D A (ww_Codewords_addChecksOf qt qt_bytes qt_field qt_generator qt_rest qt_field_logs qt_field_powers ct_bytes ct_generator ct_rest ct_field_logs ct_field_powers vt_version vt_total vt_holds vt_blocks vt_checks vt_shortLength vt_shortBlocks vt_filled vt_waiting vt_waitingBits vt_bytes vt_generator vt_rest vt_field_logs vt_field_powers)) A

set_option maxHeartbeats 4000000 in
set_option maxRecDepth 100000 in
theorem kt_Codewords_addChecksOf (l : Launch) (dC : Nat → ClassId) (dI : Nat → Nat → Nat) (qt qt_bytes qt_field qt_generator qt_rest qt_field_logs qt_field_powers : Nat) (ct_bytes ct_generator ct_rest ct_field_logs ct_field_powers : ClassId) (vt_version : Int32) (vt_total : Int32) (vt_holds : Int32) (vt_blocks : Int32) (vt_checks : Int32) (vt_shortLength : Int32) (vt_shortBlocks : Int32) (vt_filled : Int32) (vt_waiting : Int32) (vt_waitingBits : Int32) (vt_bytes : Nat → Int32) (vt_generator : Nat → Int32) (vt_rest : Nat → Int32) (vt_field_logs : Nat → Int32) (vt_field_powers : Nat → Int32) (p1 : Int32) (sz : Nat) (n0 : Nat) (nvt_bytes : Nat → Int32) (nvt_rest : Nat → Int32) (Hf : fn_Codewords_addChecksOf n0 p1 vt_holds vt_checks vt_shortLength vt_shortBlocks vt_bytes vt_generator vt_rest vt_field_logs vt_field_powers = some (nvt_bytes, nvt_rest)) : Met l y_Codewords_addChecksOf w_Codewords_addChecksOf rm_Codewords_addChecksOf (va_Pc [.ref qt, .int p1] (fun U => U.heap.size = sz ∧ va_P (dC, dI) cl_All (ww_Codewords_addChecksOf qt qt_bytes qt_field qt_generator qt_rest qt_field_logs qt_field_powers ct_bytes ct_generator ct_rest ct_field_logs ct_field_powers vt_version vt_total vt_holds vt_blocks vt_checks vt_shortLength vt_shortBlocks vt_filled vt_waiting vt_waitingBits vt_bytes vt_generator vt_rest vt_field_logs vt_field_powers) U.heap ∧ va_K (dC, dI) cl_All [(ct_bytes, .byte), (ct_generator, .int), (ct_rest, .int), (ct_field_logs, .int), (ct_field_powers, .int)] U ∧ va_D (fun _ => True) (ww_Codewords_addChecksOf qt qt_bytes qt_field qt_generator qt_rest qt_field_logs qt_field_powers ct_bytes ct_generator ct_rest ct_field_logs ct_field_powers vt_version vt_total vt_holds vt_blocks vt_checks vt_shortLength vt_shortBlocks vt_filled vt_waiting vt_waitingBits vt_bytes vt_generator vt_rest vt_field_logs vt_field_powers))) (qc_Codewords_addChecksOf dC dI (va_A (ww_Codewords_addChecksOf qt qt_bytes qt_field qt_generator qt_rest qt_field_logs qt_field_powers ct_bytes ct_generator ct_rest ct_field_logs ct_field_powers vt_version vt_total vt_holds vt_blocks vt_checks vt_shortLength vt_shortBlocks vt_filled vt_waiting vt_waitingBits vt_bytes vt_generator vt_rest vt_field_logs vt_field_powers) sz) qt qt_bytes qt_field qt_generator qt_rest qt_field_logs qt_field_powers ct_bytes ct_generator ct_rest ct_field_logs ct_field_powers vt_version vt_total vt_holds vt_blocks vt_checks vt_shortLength vt_shortBlocks vt_filled vt_waiting vt_waitingBits nvt_bytes vt_generator nvt_rest vt_field_logs vt_field_powers) 0 0 (va_A (ww_Codewords_addChecksOf qt qt_bytes qt_field qt_generator qt_rest qt_field_logs qt_field_powers ct_bytes ct_generator ct_rest ct_field_logs ct_field_powers vt_version vt_total vt_holds vt_blocks vt_checks vt_shortLength vt_shortBlocks vt_filled vt_waiting vt_waitingBits vt_bytes vt_generator vt_rest vt_field_logs vt_field_powers) sz) := by
  refine Met.ofW (cc := prog_2_method_18_code) (maxL := 6) (ret := none) (by decide) rfl ?_
  intro p e s m args below meth c s₁ B hml hv
  obtain ⟨rfl, hsz, hP, hK, hD0⟩ := hv
  have hx := B.exec; have hb := B.bytes; have hr := B.returns; have hlocks := B.notSynchronized
  have ht : ∀ w ∈ lw_g, w.before _ s = true := fun w h => atoms_spec (ws := w_Codewords_addChecksOf) B.pre w (List.mem_cons_of_mem _ h)
  have hown : s.vm.findClass "SquareSymbols$Codewords" = some m.cls := findClass_of_methodNamed B.named
  subst hsz
  have hD := hD0.self (sz := s.heap.size)
  generalize hAe : va_A (ww_Codewords_addChecksOf qt qt_bytes qt_field qt_generator qt_rest qt_field_logs qt_field_powers ct_bytes ct_generator ct_rest ct_field_logs ct_field_powers vt_version vt_total vt_holds vt_blocks vt_checks vt_shortLength vt_shortBlocks vt_filled vt_waiting vt_waitingBits vt_bytes vt_generator vt_rest vt_field_logs vt_field_powers) s.heap.size = A at hD ⊢
  have hA : ∀ q : Nat, s.heap.size ≤ q → A q := fun q h => by rw [← hAe]; exact Or.inr h
  have hS : va_S A s.heap s.heap [] := va_S.rf
  have hl := lv_entry ([.ref qt, .int p1]) (n := 6) (Nat.le_of_ble_eq_true rfl)
  rw [lg_entry_eq]
  generalize (lg_sl ([.ref qt, .int p1]) ++ List.replicate (6 - (lg_sl ([.ref qt, .int p1])).length) Slot.unset).toArray = ls at hl ⊢
  have hl : lv_has ls 6 [(0, .ref qt), (1, .int p1)] := hl
  refine lv_aload_n hx hb d_Codewords_addChecksOf_0 rfl (lv_at hl 0 rfl) ?_
  refine va_get (D := (dC, dI)) (ci := 3) (v := .ref qt_rest) (C := R_Codewords) (T := F_Codewords) (N := 14) hx hb ht i_Codewords hown hK hP 0 rfl rfl 3 (by decide) (ht _ tb_107) (fun _ h9 => h9) rfl d_Codewords_addChecksOf_1 ?_
  refine lv_iconst (v := (0 : Int32)) hx hb d_Codewords_addChecksOf_4 (by decide) ?_
  obtain ⟨b1, hc2, Hf⟩ := sq_cb1_e Hf
  refine sq_rwv (wn := (ww_Codewords_addChecksOf qt qt_bytes qt_field qt_generator qt_rest qt_field_logs qt_field_powers ct_bytes ct_generator ct_rest ct_field_logs ct_field_powers vt_version vt_total vt_holds vt_blocks vt_checks vt_shortLength vt_shortBlocks vt_filled vt_waiting vt_waitingBits vt_bytes vt_generator b1 vt_field_logs vt_field_powers)) (va_runS (As := [.ref qt_rest, .int (0 : Int32)]) (rest := []) ⟨hx, hb, hml, hown, ht⟩ (kt_JArrays_fill1 l dC dI qt_rest ct_rest 31 vt_rest (0 : Int32) s.heap.size n0 b1 hc2) (va_cwS 2 ht (sq_gS tb_958 tb_565 tb_18 tb_566) rfl rfl rfl (by decide +kernel) ⟨Nat.le_of_ble_eq_true rfl, Nat.le_of_ble_eq_true rfl⟩) (sq_rwS (hP.sub (ws' := (ww_JArrays_fill1 qt_rest ct_rest 31 vt_rest)) [4] rfl) (hK.sub (tys' := [(ct_rest, .int)]) [2] rfl) (hD.sub (ws' := (ww_JArrays_fill1 qt_rest ct_rest 31 vt_rest)) [4] (by decide) rfl)) rfl rfl hl.1 rfl (lv_room (Nat.le_of_ble_eq_true rfl)) d_Codewords_addChecksOf_5 ⟨Nat.le_of_ble_eq_true rfl, Nat.le_of_ble_eq_true rfl⟩) hP hD hS hA [4] [0, 1, 2, 3, 5, 6] [0, 1, 2, 3, 6, 4, 5] rfl rfl (by decide) (by decide) rfl (by decide) (fun H locs hP hD hS => ?_)
  refine lv_aload_n hx hb d_Codewords_addChecksOf_8 rfl (lv_at hl 0 rfl) ?_
  refine lv_iload_n hx hb d_Codewords_addChecksOf_9 rfl (lv_at hl 1 rfl) ?_
  obtain ⟨r3, hc4, Hf⟩ := sq_cb1_e Hf
  refine sq_roi (va_runV (As := [.int p1]) (rest := []) ⟨hx, hb, hml, hown, ht⟩ (kt_Codewords_length l dC dI qt qt_field qt_bytes qt_generator qt_rest vt_version vt_total vt_holds vt_blocks vt_checks vt_shortLength vt_shortBlocks vt_filled vt_waiting vt_waitingBits p1 r3 hc4) (cwV 1 ht (sq_gV tb_505 tb_506 tb_507 tb_5 tb_508) rfl rfl rfl (by decide +kernel) ⟨Nat.le_of_ble_eq_true rfl, Nat.le_of_ble_eq_true rfl⟩) (sq_roV (hP.sub (ws' := (ww_Codewords_length qt qt_field qt_bytes qt_generator qt_rest vt_version vt_total vt_holds vt_blocks vt_checks vt_shortLength vt_shortBlocks vt_filled vt_waiting vt_waitingBits)) [0] rfl) (hK.sub (tys' := []) [] rfl) (va_recv hK hP (ci := 3) (q0 := 0) rfl rfl)) rfl rfl hl.1 rfl (lv_room (Nat.le_of_ble_eq_true rfl)) d_Codewords_addChecksOf_10 ⟨Nat.le_of_ble_eq_true rfl, Nat.le_of_ble_eq_true rfl⟩) ?_
  refine lv_istore_n (lv' := [(2, .int r3), (0, .ref qt), (1, .int p1)]) hx hb d_Codewords_addChecksOf_13 rfl hl (by decide) rfl (fun ls hl => ?_)
  refine lv_iconst (v := (0 : Int32)) hx hb d_Codewords_addChecksOf_14 (by decide) ?_
  refine lv_istore_n (lv' := [(3, .int (0 : Int32)), (2, .int r3), (0, .ref qt), (1, .int p1)]) hx hb d_Codewords_addChecksOf_15 rfl hl (by decide) rfl (fun ls hl => ?_)
  obtain ⟨k6, hk6, Hf⟩ := sq_jn_e Hf
  have Jk6 : ∀ (b5 : Nat → Int32), k6 b5 = some (nvt_bytes, nvt_rest) → ∀ (H : Heap) (locs : List Loc), va_P (dC, dI) cl_All (ww_Codewords_addChecksOf qt qt_bytes qt_field qt_generator qt_rest qt_field_logs qt_field_powers ct_bytes ct_generator ct_rest ct_field_logs ct_field_powers vt_version vt_total vt_holds vt_blocks vt_checks vt_shortLength vt_shortBlocks vt_filled vt_waiting vt_waitingBits vt_bytes vt_generator b5 vt_field_logs vt_field_powers) H → va_D A (ww_Codewords_addChecksOf qt qt_bytes qt_field qt_generator qt_rest qt_field_logs qt_field_powers ct_bytes ct_generator ct_rest ct_field_logs ct_field_powers vt_version vt_total vt_holds vt_blocks vt_checks vt_shortLength vt_shortBlocks vt_filled vt_waiting vt_waitingBits vt_bytes vt_generator b5 vt_field_logs vt_field_powers) → va_S A s.heap H locs → ∀ ls : Array Slot, lv_has ls 6 [(0, .ref qt), (1, .int p1), (2, .int r3)] → W p l e (headSpec w_Codewords_addChecksOf rm_Codewords_addChecksOf).room s m (([.ref qt, .int p1] : List Value).toArray) below meth c H locs 0 0 (MQ below (qc_Codewords_addChecksOf dC dI A qt qt_bytes qt_field qt_generator qt_rest qt_field_logs qt_field_powers ct_bytes ct_generator ct_rest ct_field_logs ct_field_powers vt_version vt_total vt_holds vt_blocks vt_checks vt_shortLength vt_shortBlocks vt_filled vt_waiting vt_waitingBits nvt_bytes vt_generator nvt_rest vt_field_logs vt_field_powers) (([.ref qt, .int p1] : List Value).toArray) s 0 0 A) (F0 m 104 ls []) := by
    intro b5 Hf H locs  hP hD hS ls hl
    rw [hk6] at Hf
    refine lv_iconst (v := (0 : Int32)) hx hb d_Codewords_addChecksOf_104 (by decide) ?_
    refine lv_istore_n (lv' := [(3, .int (0 : Int32)), (0, .ref qt), (1, .int p1), (2, .int r3)]) hx hb d_Codewords_addChecksOf_105 rfl hl (by decide) rfl (fun ls hl => ?_)
    have L1 : ∀ (m1 : Nat), ∀ (x7 : Int32) (b8 : Nat → Int32), fn_Codewords_addChecksOf_L1 p1 vt_holds vt_checks vt_shortLength vt_shortBlocks r3 b5 m1 x7 b8 = some (nvt_bytes, nvt_rest) → ∀ (H : Heap) (locs : List Loc), va_P (dC, dI) cl_All (ww_Codewords_addChecksOf qt qt_bytes qt_field qt_generator qt_rest qt_field_logs qt_field_powers ct_bytes ct_generator ct_rest ct_field_logs ct_field_powers vt_version vt_total vt_holds vt_blocks vt_checks vt_shortLength vt_shortBlocks vt_filled vt_waiting vt_waitingBits b8 vt_generator b5 vt_field_logs vt_field_powers) H → va_D A (ww_Codewords_addChecksOf qt qt_bytes qt_field qt_generator qt_rest qt_field_logs qt_field_powers ct_bytes ct_generator ct_rest ct_field_logs ct_field_powers vt_version vt_total vt_holds vt_blocks vt_checks vt_shortLength vt_shortBlocks vt_filled vt_waiting vt_waitingBits b8 vt_generator b5 vt_field_logs vt_field_powers) → va_S A s.heap H locs → ∀ ls : Array Slot, lv_has ls 6 [(0, .ref qt), (1, .int p1), (2, .int r3), (3, .int x7)] → W p l e (headSpec w_Codewords_addChecksOf rm_Codewords_addChecksOf).room s m (([.ref qt, .int p1] : List Value).toArray) below meth c H locs 0 0 (MQ below (qc_Codewords_addChecksOf dC dI A qt qt_bytes qt_field qt_generator qt_rest qt_field_logs qt_field_powers ct_bytes ct_generator ct_rest ct_field_logs ct_field_powers vt_version vt_total vt_holds vt_blocks vt_checks vt_shortLength vt_shortBlocks vt_filled vt_waiting vt_waitingBits nvt_bytes vt_generator nvt_rest vt_field_logs vt_field_powers) (([.ref qt, .int p1] : List Value).toArray) s 0 0 A) (F0 m 106 ls []) := by
      intro m1
      induction m1 with
      | zero => intro x7 b8 Hf; exact sq_none Hf
      | succ m1 ih1 =>
        intro x7 b8 Hf H locs  hP hD hS ls hl
        replace Hf := (fn_Codewords_addChecksOf_L1_s p1 vt_holds vt_checks vt_shortLength vt_shortBlocks r3 b5 m1 x7 b8).symm.trans Hf
        refine lv_iload_n hx hb d_Codewords_addChecksOf_106 rfl (lv_at hl 3 rfl) ?_
        refine lv_aload_n hx hb d_Codewords_addChecksOf_107 rfl (lv_at hl 0 rfl) ?_
        refine va_get (D := (dC, dI)) (ci := 3) (v := .int vt_checks) (C := R_Codewords) (T := F_Codewords) (N := 14) hx hb ht i_Codewords hown hK hP 0 rfl rfl 8 (by decide) (ht _ tb_112) (fun _ h9 => h9) rfl d_Codewords_addChecksOf_108 ?_
        refine lv_icmp_ge (tgt := 144) hx hb d_Codewords_addChecksOf_111 (by decide) (fun c9 => ?_) (fun c9 => ?_)
        · replace Hf := sq_ite_t Hf c9
          obtain ⟨rfl, rfl⟩ := sq_so2 Hf
          exact W.vret hx hb hr (fun t ht hW => ⟨⟨(), rfl, trivial, by rw [ht]; exact hP, hD⟩, hS.F ht⟩) hS.2.2 d_Codewords_addChecksOf_144
        · replace Hf := sq_ite_f Hf c9
          refine lv_iload_n hx hb d_Codewords_addChecksOf_114 rfl (lv_at hl 3 rfl) ?_
          refine lv_bipush (v := (30 : Int32)) hx hb d_Codewords_addChecksOf_115 (by decide) ?_
          refine lv_icmp_ge (tgt := 144) hx hb d_Codewords_addChecksOf_117 (by decide) (fun c10 => ?_) (fun c10 => ?_)
          · replace Hf := sq_ite_t Hf c10
            obtain ⟨rfl, rfl⟩ := sq_so2 Hf
            exact W.vret hx hb hr (fun t ht hW => ⟨⟨(), rfl, trivial, by rw [ht]; exact hP, hD⟩, hS.F ht⟩) hS.2.2 d_Codewords_addChecksOf_144
          · replace Hf := sq_ite_f Hf c10
            refine lv_aload_n hx hb d_Codewords_addChecksOf_120 rfl (lv_at hl 0 rfl) ?_
            refine lv_aload_n hx hb d_Codewords_addChecksOf_121 rfl (lv_at hl 0 rfl) ?_
            refine lv_iload_n hx hb d_Codewords_addChecksOf_122 rfl (lv_at hl 1 rfl) ?_
            refine lv_iload_n hx hb d_Codewords_addChecksOf_123 rfl (lv_at hl 2 rfl) ?_
            refine lv_iload_n hx hb d_Codewords_addChecksOf_124 rfl (lv_at hl 3 rfl) ?_
            refine lv_iadd hx hb d_Codewords_addChecksOf_125 ?_
            obtain ⟨r11, hc12, Hf⟩ := sq_cb1_e Hf
            refine sq_roi (va_runV (As := [.int p1, .int (r3 + x7)]) (rest := [.ref qt]) ⟨hx, hb, hml, hown, ht⟩ (kt_Codewords_placeInBlock l dC dI qt qt_field qt_bytes qt_generator qt_rest vt_version vt_total vt_holds vt_blocks vt_checks vt_shortLength vt_shortBlocks vt_filled vt_waiting vt_waitingBits p1 (r3 + x7) r11 hc12) (cwV 2 ht (sq_gV tb_501 tb_502 tb_503 tb_5 tb_504) rfl rfl rfl (by decide +kernel) ⟨Nat.le_of_ble_eq_true rfl, Nat.le_of_ble_eq_true rfl⟩) (sq_roV (hP.sub (ws' := (ww_Codewords_placeInBlock qt qt_field qt_bytes qt_generator qt_rest vt_version vt_total vt_holds vt_blocks vt_checks vt_shortLength vt_shortBlocks vt_filled vt_waiting vt_waitingBits)) [0] rfl) (hK.sub (tys' := []) [] rfl) (va_recv hK hP (ci := 3) (q0 := 0) rfl rfl)) rfl rfl hl.1 rfl (lv_room (Nat.le_of_ble_eq_true rfl)) d_Codewords_addChecksOf_126 ⟨Nat.le_of_ble_eq_true rfl, Nat.le_of_ble_eq_true rfl⟩) ?_
            refine lv_aload_n hx hb d_Codewords_addChecksOf_129 rfl (lv_at hl 0 rfl) ?_
            refine va_get (D := (dC, dI)) (ci := 3) (v := .ref qt_rest) (C := R_Codewords) (T := F_Codewords) (N := 14) hx hb ht i_Codewords hown hK hP 0 rfl rfl 3 (by decide) (ht _ tb_107) (fun _ h9 => h9) rfl d_Codewords_addChecksOf_130 ?_
            refine lv_iload_n hx hb d_Codewords_addChecksOf_133 rfl (lv_at hl 3 rfl) ?_
            obtain ⟨hi13, Hf⟩ := sq_gi_e Hf
            refine va_iald hx hb hK hP 4 2 rfl rfl hi13 d_Codewords_addChecksOf_134 ?_
            obtain ⟨x14, ex14, Hf⟩ := sq_bd_e Hf
            refine sq_top ex14 ?_
            obtain ⟨b15, hc16, Hf⟩ := sq_cb1_e Hf
            refine sq_rwv (wn := (ww_Codewords_addChecksOf qt qt_bytes qt_field qt_generator qt_rest qt_field_logs qt_field_powers ct_bytes ct_generator ct_rest ct_field_logs ct_field_powers vt_version vt_total vt_holds vt_blocks vt_checks vt_shortLength vt_shortBlocks vt_filled vt_waiting vt_waitingBits b15 vt_generator b5 vt_field_logs vt_field_powers)) (va_runV (As := [.int r11, .int x14]) (rest := []) ⟨hx, hb, hml, hown, ht⟩ (kt_Codewords_set l dC dI qt qt_bytes qt_field qt_generator qt_rest ct_bytes vt_version vt_total vt_holds vt_blocks vt_checks vt_shortLength vt_shortBlocks vt_filled vt_waiting vt_waitingBits b8 r11 x14 H.size b15 hc16) (cwV 2 ht (sq_gV tb_937 tb_514 tb_515 tb_5 tb_516) rfl rfl rfl (by decide +kernel) ⟨Nat.le_of_ble_eq_true rfl, Nat.le_of_ble_eq_true rfl⟩) (sq_rwV (hP.sub (ws' := (ww_Codewords_set qt qt_bytes qt_field qt_generator qt_rest ct_bytes vt_version vt_total vt_holds vt_blocks vt_checks vt_shortLength vt_shortBlocks vt_filled vt_waiting vt_waitingBits b8)) [0, 1] rfl) (hK.sub (tys' := [(ct_bytes, .byte)]) [0] rfl) (hD.sub (ws' := (ww_Codewords_set qt qt_bytes qt_field qt_generator qt_rest ct_bytes vt_version vt_total vt_holds vt_blocks vt_checks vt_shortLength vt_shortBlocks vt_filled vt_waiting vt_waitingBits b8)) [0, 1] (by decide) rfl) (va_recv hK hP (ci := 3) (q0 := 0) rfl rfl)) rfl rfl hl.1 rfl (lv_room (Nat.le_of_ble_eq_true rfl)) d_Codewords_addChecksOf_135 ⟨Nat.le_of_ble_eq_true rfl, Nat.le_of_ble_eq_true rfl⟩) hP hD hS hA [0, 1] [2, 3, 4, 5, 6] [5, 6, 0, 1, 2, 3, 4] rfl rfl (by decide) (by decide) rfl (by decide) (fun H locs hP hD hS => ?_)
            obtain ⟨x17, ex17, Hf⟩ := sq_bd_e Hf
            refine lv_iinc (v := x17) (lv' := [(3, .int x17), (0, .ref qt), (1, .int p1), (2, .int r3)]) hx hb d_Codewords_addChecksOf_138 hl (k := 3) rfl (by rw [ex17]; rfl) (by decide) rfl (fun ls hl => ?_)
            refine lv_goto (tgt := 106) hx hb d_Codewords_addChecksOf_141 (by decide) ?_
            exact ih1 x17 b15 Hf _ _  hP hD hS _ (lv_sub hl [1, 2, 3, 0] rfl)
    exact L1 n0 (0 : Int32) vt_bytes Hf _ _  hP hD hS _ (lv_sub hl [1, 2, 3, 0] rfl)
  have L2 : ∀ (m2 : Nat), ∀ (x18 : Int32) (b19 : Nat → Int32), fn_Codewords_addChecksOf_L2 p1 n0 vt_holds vt_checks vt_shortLength vt_shortBlocks vt_bytes vt_generator vt_field_logs vt_field_powers r3 k6 m2 x18 b19 = some (nvt_bytes, nvt_rest) → ∀ (H : Heap) (locs : List Loc), va_P (dC, dI) cl_All (ww_Codewords_addChecksOf qt qt_bytes qt_field qt_generator qt_rest qt_field_logs qt_field_powers ct_bytes ct_generator ct_rest ct_field_logs ct_field_powers vt_version vt_total vt_holds vt_blocks vt_checks vt_shortLength vt_shortBlocks vt_filled vt_waiting vt_waitingBits vt_bytes vt_generator b19 vt_field_logs vt_field_powers) H → va_D A (ww_Codewords_addChecksOf qt qt_bytes qt_field qt_generator qt_rest qt_field_logs qt_field_powers ct_bytes ct_generator ct_rest ct_field_logs ct_field_powers vt_version vt_total vt_holds vt_blocks vt_checks vt_shortLength vt_shortBlocks vt_filled vt_waiting vt_waitingBits vt_bytes vt_generator b19 vt_field_logs vt_field_powers) → va_S A s.heap H locs → ∀ ls : Array Slot, lv_has ls 6 [(0, .ref qt), (1, .int p1), (2, .int r3), (3, .int x18)] → W p l e (headSpec w_Codewords_addChecksOf rm_Codewords_addChecksOf).room s m (([.ref qt, .int p1] : List Value).toArray) below meth c H locs 0 0 (MQ below (qc_Codewords_addChecksOf dC dI A qt qt_bytes qt_field qt_generator qt_rest qt_field_logs qt_field_powers ct_bytes ct_generator ct_rest ct_field_logs ct_field_powers vt_version vt_total vt_holds vt_blocks vt_checks vt_shortLength vt_shortBlocks vt_filled vt_waiting vt_waitingBits nvt_bytes vt_generator nvt_rest vt_field_logs vt_field_powers) (([.ref qt, .int p1] : List Value).toArray) s 0 0 A) (F0 m 16 ls []) := by
    intro m2
    induction m2 with
    | zero => intro x18 b19 Hf; exact sq_none Hf
    | succ m2 ih2 =>
      intro x18 b19 Hf H locs  hP hD hS ls hl
      replace Hf := (fn_Codewords_addChecksOf_L2_s p1 n0 vt_holds vt_checks vt_shortLength vt_shortBlocks vt_bytes vt_generator vt_field_logs vt_field_powers r3 k6 m2 x18 b19).symm.trans Hf
      refine lv_iload_n hx hb d_Codewords_addChecksOf_16 rfl (lv_at hl 3 rfl) ?_
      refine lv_iload_n hx hb d_Codewords_addChecksOf_17 rfl (lv_at hl 2 rfl) ?_
      refine lv_icmp_ge (tgt := 104) hx hb d_Codewords_addChecksOf_18 (by decide) (fun c20 => ?_) (fun c20 => ?_)
      · replace Hf := sq_ite_t Hf c20
        exact Jk6 b19 Hf _ _  hP hD hS _ (lv_sub hl [0, 1, 2] rfl)
      · replace Hf := sq_ite_f Hf c20
        refine lv_aload_n hx hb d_Codewords_addChecksOf_21 rfl (lv_at hl 0 rfl) ?_
        refine lv_aload_n hx hb d_Codewords_addChecksOf_22 rfl (lv_at hl 0 rfl) ?_
        refine lv_iload_n hx hb d_Codewords_addChecksOf_23 rfl (lv_at hl 1 rfl) ?_
        refine lv_iload_n hx hb d_Codewords_addChecksOf_24 rfl (lv_at hl 3 rfl) ?_
        obtain ⟨r21, hc22, Hf⟩ := sq_cb1_e Hf
        refine sq_roi (va_runV (As := [.int p1, .int x18]) (rest := [.ref qt]) ⟨hx, hb, hml, hown, ht⟩ (kt_Codewords_placeInBlock l dC dI qt qt_field qt_bytes qt_generator qt_rest vt_version vt_total vt_holds vt_blocks vt_checks vt_shortLength vt_shortBlocks vt_filled vt_waiting vt_waitingBits p1 x18 r21 hc22) (cwV 2 ht (sq_gV tb_501 tb_502 tb_503 tb_5 tb_504) rfl rfl rfl (by decide +kernel) ⟨Nat.le_of_ble_eq_true rfl, Nat.le_of_ble_eq_true rfl⟩) (sq_roV (hP.sub (ws' := (ww_Codewords_placeInBlock qt qt_field qt_bytes qt_generator qt_rest vt_version vt_total vt_holds vt_blocks vt_checks vt_shortLength vt_shortBlocks vt_filled vt_waiting vt_waitingBits)) [0] rfl) (hK.sub (tys' := []) [] rfl) (va_recv hK hP (ci := 3) (q0 := 0) rfl rfl)) rfl rfl hl.1 rfl (lv_room (Nat.le_of_ble_eq_true rfl)) d_Codewords_addChecksOf_25 ⟨Nat.le_of_ble_eq_true rfl, Nat.le_of_ble_eq_true rfl⟩) ?_
        obtain ⟨r23, hc24, Hf⟩ := sq_cb1_e Hf
        refine sq_roi (va_runV (As := [.int r21]) (rest := []) ⟨hx, hb, hml, hown, ht⟩ (kt_Codewords_get l dC dI qt qt_bytes qt_field qt_generator qt_rest ct_bytes vt_version vt_total vt_holds vt_blocks vt_checks vt_shortLength vt_shortBlocks vt_filled vt_waiting vt_waitingBits vt_bytes r21 r23 hc24) (cwV 1 ht (sq_gV tb_965 tb_540 tb_541 tb_5 tb_542) rfl rfl rfl (by decide +kernel) ⟨Nat.le_of_ble_eq_true rfl, Nat.le_of_ble_eq_true rfl⟩) (sq_roV (hP.sub (ws' := (ww_Codewords_get qt qt_bytes qt_field qt_generator qt_rest ct_bytes vt_version vt_total vt_holds vt_blocks vt_checks vt_shortLength vt_shortBlocks vt_filled vt_waiting vt_waitingBits vt_bytes)) [0, 1] rfl) (hK.sub (tys' := [(ct_bytes, .byte)]) [0] rfl) (va_recv hK hP (ci := 3) (q0 := 0) rfl rfl)) rfl rfl hl.1 rfl (lv_room (Nat.le_of_ble_eq_true rfl)) d_Codewords_addChecksOf_28 ⟨Nat.le_of_ble_eq_true rfl, Nat.le_of_ble_eq_true rfl⟩) ?_
        refine lv_aload_n hx hb d_Codewords_addChecksOf_31 rfl (lv_at hl 0 rfl) ?_
        refine va_get (D := (dC, dI)) (ci := 3) (v := .ref qt_rest) (C := R_Codewords) (T := F_Codewords) (N := 14) hx hb ht i_Codewords hown hK hP 0 rfl rfl 3 (by decide) (ht _ tb_107) (fun _ h9 => h9) rfl d_Codewords_addChecksOf_32 ?_
        refine lv_iconst (v := (0 : Int32)) hx hb d_Codewords_addChecksOf_35 (by decide) ?_
        obtain ⟨hi25, Hf⟩ := sq_gi_e Hf
        refine va_iald hx hb hK hP 4 2 rfl rfl hi25 d_Codewords_addChecksOf_36 ?_
        obtain ⟨x26, ex26, Hf⟩ := sq_bd_e Hf
        refine sq_top ex26 ?_
        refine lv_ixor hx hb d_Codewords_addChecksOf_37 ?_
        obtain ⟨x27, ex27, Hf⟩ := sq_bd_e Hf
        refine sq_top ex27 ?_
        refine lv_istore (lv' := [(4, .int x27), (0, .ref qt), (1, .int p1), (2, .int r3), (3, .int x18)]) hx hb d_Codewords_addChecksOf_38 hl (by decide) rfl (fun ls hl => ?_)
        refine lv_iconst (v := (0 : Int32)) hx hb d_Codewords_addChecksOf_40 (by decide) ?_
        refine lv_istore (lv' := [(5, .int (0 : Int32)), (4, .int x27), (0, .ref qt), (1, .int p1), (2, .int r3), (3, .int x18)]) hx hb d_Codewords_addChecksOf_41 hl (by decide) rfl (fun ls hl => ?_)
        obtain ⟨k29, hk29, Hf⟩ := sq_jn_e Hf
        have Jk29 : ∀ (b28 : Nat → Int32), k29 b28 = some (nvt_bytes, nvt_rest) → ∀ (H : Heap) (locs : List Loc), va_P (dC, dI) cl_All (ww_Codewords_addChecksOf qt qt_bytes qt_field qt_generator qt_rest qt_field_logs qt_field_powers ct_bytes ct_generator ct_rest ct_field_logs ct_field_powers vt_version vt_total vt_holds vt_blocks vt_checks vt_shortLength vt_shortBlocks vt_filled vt_waiting vt_waitingBits vt_bytes vt_generator b28 vt_field_logs vt_field_powers) H → va_D A (ww_Codewords_addChecksOf qt qt_bytes qt_field qt_generator qt_rest qt_field_logs qt_field_powers ct_bytes ct_generator ct_rest ct_field_logs ct_field_powers vt_version vt_total vt_holds vt_blocks vt_checks vt_shortLength vt_shortBlocks vt_filled vt_waiting vt_waitingBits vt_bytes vt_generator b28 vt_field_logs vt_field_powers) → va_S A s.heap H locs → ∀ ls : Array Slot, lv_has ls 6 [(0, .ref qt), (1, .int p1), (2, .int r3), (3, .int x18)] → W p l e (headSpec w_Codewords_addChecksOf rm_Codewords_addChecksOf).room s m (([.ref qt, .int p1] : List Value).toArray) below meth c H locs 0 0 (MQ below (qc_Codewords_addChecksOf dC dI A qt qt_bytes qt_field qt_generator qt_rest qt_field_logs qt_field_powers ct_bytes ct_generator ct_rest ct_field_logs ct_field_powers vt_version vt_total vt_holds vt_blocks vt_checks vt_shortLength vt_shortBlocks vt_filled vt_waiting vt_waitingBits nvt_bytes vt_generator nvt_rest vt_field_logs vt_field_powers) (([.ref qt, .int p1] : List Value).toArray) s 0 0 A) (F0 m 98 ls []) := by
          intro b28 Hf H locs  hP hD hS ls hl
          rw [hk29] at Hf
          obtain ⟨x30, ex30, Hf⟩ := sq_bd_e Hf
          refine lv_iinc (v := x30) (lv' := [(3, .int x30), (0, .ref qt), (1, .int p1), (2, .int r3)]) hx hb d_Codewords_addChecksOf_98 hl (k := 3) rfl (by rw [ex30]; rfl) (by decide) rfl (fun ls hl => ?_)
          refine lv_goto (tgt := 16) hx hb d_Codewords_addChecksOf_101 (by decide) ?_
          exact ih2 x30 b28 Hf _ _  hP hD hS _ (lv_sub hl [1, 2, 3, 0] rfl)
        have L3 : ∀ (m3 : Nat), ∀ (x31 : Int32) (b32 : Nat → Int32), fn_Codewords_addChecksOf_L3 vt_checks vt_generator vt_field_logs vt_field_powers x27 k29 m3 x31 b32 = some (nvt_bytes, nvt_rest) → ∀ (H : Heap) (locs : List Loc), va_P (dC, dI) cl_All (ww_Codewords_addChecksOf qt qt_bytes qt_field qt_generator qt_rest qt_field_logs qt_field_powers ct_bytes ct_generator ct_rest ct_field_logs ct_field_powers vt_version vt_total vt_holds vt_blocks vt_checks vt_shortLength vt_shortBlocks vt_filled vt_waiting vt_waitingBits vt_bytes vt_generator b32 vt_field_logs vt_field_powers) H → va_D A (ww_Codewords_addChecksOf qt qt_bytes qt_field qt_generator qt_rest qt_field_logs qt_field_powers ct_bytes ct_generator ct_rest ct_field_logs ct_field_powers vt_version vt_total vt_holds vt_blocks vt_checks vt_shortLength vt_shortBlocks vt_filled vt_waiting vt_waitingBits vt_bytes vt_generator b32 vt_field_logs vt_field_powers) → va_S A s.heap H locs → ∀ ls : Array Slot, lv_has ls 6 [(0, .ref qt), (1, .int p1), (2, .int r3), (3, .int x18), (4, .int x27), (5, .int x31)] → W p l e (headSpec w_Codewords_addChecksOf rm_Codewords_addChecksOf).room s m (([.ref qt, .int p1] : List Value).toArray) below meth c H locs 0 0 (MQ below (qc_Codewords_addChecksOf dC dI A qt qt_bytes qt_field qt_generator qt_rest qt_field_logs qt_field_powers ct_bytes ct_generator ct_rest ct_field_logs ct_field_powers vt_version vt_total vt_holds vt_blocks vt_checks vt_shortLength vt_shortBlocks vt_filled vt_waiting vt_waitingBits nvt_bytes vt_generator nvt_rest vt_field_logs vt_field_powers) (([.ref qt, .int p1] : List Value).toArray) s 0 0 A) (F0 m 43 ls []) := by
          intro m3
          induction m3 with
          | zero => intro x31 b32 Hf; exact sq_none Hf
          | succ m3 ih3 =>
            intro x31 b32 Hf H locs  hP hD hS ls hl
            replace Hf := (fn_Codewords_addChecksOf_L3_s vt_checks vt_generator vt_field_logs vt_field_powers x27 k29 m3 x31 b32).symm.trans Hf
            refine lv_iload hx hb d_Codewords_addChecksOf_43 (lv_at hl 5 rfl) ?_
            refine lv_aload_n hx hb d_Codewords_addChecksOf_45 rfl (lv_at hl 0 rfl) ?_
            refine va_get (D := (dC, dI)) (ci := 3) (v := .int vt_checks) (C := R_Codewords) (T := F_Codewords) (N := 14) hx hb ht i_Codewords hown hK hP 0 rfl rfl 8 (by decide) (ht _ tb_112) (fun _ h9 => h9) rfl d_Codewords_addChecksOf_46 ?_
            refine lv_icmp_ge (tgt := 98) hx hb d_Codewords_addChecksOf_49 (by decide) (fun c33 => ?_) (fun c33 => ?_)
            · replace Hf := sq_ite_t Hf c33
              exact Jk29 b32 Hf _ _  hP hD hS _ (lv_sub hl [0, 1, 2, 3] rfl)
            · replace Hf := sq_ite_f Hf c33
              refine lv_iload hx hb d_Codewords_addChecksOf_52 (lv_at hl 5 rfl) ?_
              refine lv_bipush (v := (30 : Int32)) hx hb d_Codewords_addChecksOf_54 (by decide) ?_
              refine lv_icmp_ge (tgt := 98) hx hb d_Codewords_addChecksOf_56 (by decide) (fun c34 => ?_) (fun c34 => ?_)
              · replace Hf := sq_ite_t Hf c34
                exact Jk29 b32 Hf _ _  hP hD hS _ (lv_sub hl [0, 1, 2, 3] rfl)
              · replace Hf := sq_ite_f Hf c34
                refine lv_aload_n hx hb d_Codewords_addChecksOf_59 rfl (lv_at hl 0 rfl) ?_
                refine va_get (D := (dC, dI)) (ci := 3) (v := .ref qt_rest) (C := R_Codewords) (T := F_Codewords) (N := 14) hx hb ht i_Codewords hown hK hP 0 rfl rfl 3 (by decide) (ht _ tb_107) (fun _ h9 => h9) rfl d_Codewords_addChecksOf_60 ?_
                refine lv_iload hx hb d_Codewords_addChecksOf_63 (lv_at hl 5 rfl) ?_
                refine lv_aload_n hx hb d_Codewords_addChecksOf_65 rfl (lv_at hl 0 rfl) ?_
                refine va_get (D := (dC, dI)) (ci := 3) (v := .ref qt_rest) (C := R_Codewords) (T := F_Codewords) (N := 14) hx hb ht i_Codewords hown hK hP 0 rfl rfl 3 (by decide) (ht _ tb_107) (fun _ h9 => h9) rfl d_Codewords_addChecksOf_66 ?_
                refine lv_iload hx hb d_Codewords_addChecksOf_69 (lv_at hl 5 rfl) ?_
                refine lv_iconst (v := (1 : Int32)) hx hb d_Codewords_addChecksOf_71 (by decide) ?_
                refine lv_iadd hx hb d_Codewords_addChecksOf_72 ?_
                obtain ⟨x35, ex35, Hf⟩ := sq_bd_e Hf
                refine sq_top ex35 ?_
                obtain ⟨hi36, Hf⟩ := sq_gi_e Hf
                refine va_iald hx hb hK hP 4 2 rfl rfl hi36 d_Codewords_addChecksOf_73 ?_
                obtain ⟨x37, ex37, Hf⟩ := sq_bd_e Hf
                refine sq_top ex37 ?_
                refine lv_aload_n hx hb d_Codewords_addChecksOf_74 rfl (lv_at hl 0 rfl) ?_
                refine va_get (D := (dC, dI)) (ci := 3) (v := .ref qt_field) (C := R_Codewords) (T := F_Codewords) (N := 14) hx hb ht i_Codewords hown hK hP 0 rfl rfl 0 (by decide) (ht _ tb_104) (fun _ h9 => h9) rfl d_Codewords_addChecksOf_75 ?_
                refine lv_aload_n hx hb d_Codewords_addChecksOf_78 rfl (lv_at hl 0 rfl) ?_
                refine va_get (D := (dC, dI)) (ci := 3) (v := .ref qt_generator) (C := R_Codewords) (T := F_Codewords) (N := 14) hx hb ht i_Codewords hown hK hP 0 rfl rfl 2 (by decide) (ht _ tb_106) (fun _ h9 => h9) rfl d_Codewords_addChecksOf_79 ?_
                refine lv_iload hx hb d_Codewords_addChecksOf_82 (lv_at hl 5 rfl) ?_
                obtain ⟨hi38, Hf⟩ := sq_gi_e Hf
                refine va_iald hx hb hK hP 3 1 rfl rfl hi38 d_Codewords_addChecksOf_84 ?_
                obtain ⟨x39, ex39, Hf⟩ := sq_bd_e Hf
                refine sq_top ex39 ?_
                refine lv_iload hx hb d_Codewords_addChecksOf_85 (lv_at hl 4 rfl) ?_
                obtain ⟨r40, hc41, Hf⟩ := sq_cb1_e Hf
                refine sq_roi (va_runV (As := [.int x39, .int x27]) (rest := [.int x37, .int x31, .ref qt_rest]) ⟨hx, hb, hml, hown, ht⟩ (kt_Field_times l dC dI qt_field qt_field_logs qt_field_powers ct_field_logs ct_field_powers vt_field_logs vt_field_powers x39 x27 r40 hc41) (cwV 2 ht (sq_gV tb_960 tb_557 tb_558 tb_2 tb_559) rfl rfl rfl (by decide +kernel) ⟨Nat.le_of_ble_eq_true rfl, Nat.le_of_ble_eq_true rfl⟩) (sq_roV (hP.sub (ws' := (ww_Field_times qt_field qt_field_logs qt_field_powers ct_field_logs ct_field_powers vt_field_logs vt_field_powers)) [2, 5, 6] rfl) (hK.sub (tys' := [(ct_field_logs, .int), (ct_field_powers, .int)]) [3, 4] rfl) (va_recv hK hP (ci := 2) (q0 := 2) rfl rfl)) rfl rfl hl.1 rfl (lv_room (Nat.le_of_ble_eq_true rfl)) d_Codewords_addChecksOf_87 ⟨Nat.le_of_ble_eq_true rfl, Nat.le_of_ble_eq_true rfl⟩) ?_
                refine lv_ixor hx hb d_Codewords_addChecksOf_90 ?_
                obtain ⟨x42, ex42, Hf⟩ := sq_bd_e Hf
                refine sq_top ex42 ?_
                obtain ⟨hi43, Hf⟩ := sq_gi_e Hf
                obtain ⟨b44, eb44, Hf⟩ := sq_bd_e Hf
                refine va_iast hx hb hK hP hD hS 4 2 rfl rfl hi43 d_Codewords_addChecksOf_91 (fun H locs hP hD hS => ?_)
                rw [← eb44] at hP hD
                replace hP : va_P (dC, dI) cl_All (ww_Codewords_addChecksOf qt qt_bytes qt_field qt_generator qt_rest qt_field_logs qt_field_powers ct_bytes ct_generator ct_rest ct_field_logs ct_field_powers vt_version vt_total vt_holds vt_blocks vt_checks vt_shortLength vt_shortBlocks vt_filled vt_waiting vt_waitingBits vt_bytes vt_generator b44 vt_field_logs vt_field_powers) H := hP
                replace hD : va_D A (ww_Codewords_addChecksOf qt qt_bytes qt_field qt_generator qt_rest qt_field_logs qt_field_powers ct_bytes ct_generator ct_rest ct_field_logs ct_field_powers vt_version vt_total vt_holds vt_blocks vt_checks vt_shortLength vt_shortBlocks vt_filled vt_waiting vt_waitingBits vt_bytes vt_generator b44 vt_field_logs vt_field_powers) := hD
                obtain ⟨x45, ex45, Hf⟩ := sq_bd_e Hf
                refine lv_iinc (v := x45) (lv' := [(5, .int x45), (0, .ref qt), (1, .int p1), (2, .int r3), (3, .int x18), (4, .int x27)]) hx hb d_Codewords_addChecksOf_92 hl (k := 5) rfl (by rw [ex45]; rfl) (by decide) rfl (fun ls hl => ?_)
                refine lv_goto (tgt := 43) hx hb d_Codewords_addChecksOf_95 (by decide) ?_
                exact ih3 x45 b44 Hf _ _  hP hD hS _ (lv_sub hl [1, 2, 3, 4, 5, 0] rfl)
        exact L3 n0 (0 : Int32) b19 Hf _ _  hP hD hS _ (lv_sub hl [2, 3, 4, 5, 1, 0] rfl)
  exact L2 n0 (0 : Int32) b1 Hf _ _  hP hD hS _ (lv_sub hl [2, 3, 1, 0] rfl)

def fn_Codewords_addChecks_L1 (n0 : Nat) (vt_holds : Int32) (vt_blocks : Int32) (vt_checks : Int32) (vt_shortLength : Int32) (vt_shortBlocks : Int32) (vt_field_logs : Nat → Int32) (vt_field_powers : Nat → Int32) (b1 : Nat → Int32) : Nat → Int32 → (Nat → Int32) → (Nat → Int32) → Option ((Nat → Int32) × (Nat → Int32) × (Nat → Int32))
  | 0, _, _, _ => none
  | m1 + 1, x3, b4, b5 => if vt_blocks ≤ x3 then (some (b4, b1, b5)) else (sq_cb2 (fn_Codewords_addChecksOf n0 x3 vt_holds vt_checks vt_shortLength vt_shortBlocks b4 b1 b5 vt_field_logs vt_field_powers) fun b7 b8 => sq_bd (x3 + (1 : Int32)) fun x10 => fn_Codewords_addChecks_L1 n0 vt_holds vt_blocks vt_checks vt_shortLength vt_shortBlocks vt_field_logs vt_field_powers b1 m1 x10 b7 b8)
theorem fn_Codewords_addChecks_L1_s (n0 : Nat) (vt_holds : Int32) (vt_blocks : Int32) (vt_checks : Int32) (vt_shortLength : Int32) (vt_shortBlocks : Int32) (vt_field_logs : Nat → Int32) (vt_field_powers : Nat → Int32) (b1 : Nat → Int32) (m1 : Nat) (x3 : Int32) (b4 : Nat → Int32) (b5 : Nat → Int32) : fn_Codewords_addChecks_L1 n0 vt_holds vt_blocks vt_checks vt_shortLength vt_shortBlocks vt_field_logs vt_field_powers b1 (m1 + 1) x3 b4 b5 = if vt_blocks ≤ x3 then (some (b4, b1, b5)) else (sq_cb2 (fn_Codewords_addChecksOf n0 x3 vt_holds vt_checks vt_shortLength vt_shortBlocks b4 b1 b5 vt_field_logs vt_field_powers) fun b7 b8 => sq_bd (x3 + (1 : Int32)) fun x10 => fn_Codewords_addChecks_L1 n0 vt_holds vt_blocks vt_checks vt_shortLength vt_shortBlocks vt_field_logs vt_field_powers b1 m1 x10 b7 b8) := rfl
def fn_Codewords_addChecks (n0 : Nat) (vt_holds : Int32) (vt_blocks : Int32) (vt_checks : Int32) (vt_shortLength : Int32) (vt_shortBlocks : Int32) (vt_bytes : Nat → Int32) (vt_generator : Nat → Int32) (vt_rest : Nat → Int32) (vt_field_logs : Nat → Int32) (vt_field_powers : Nat → Int32) : Option ((Nat → Int32) × (Nat → Int32) × (Nat → Int32)) :=
  sq_cb1 (fn_Codewords_prepareGenerator n0 vt_checks vt_generator vt_field_logs vt_field_powers) fun b1 => fn_Codewords_addChecks_L1 n0 vt_holds vt_blocks vt_checks vt_shortLength vt_shortBlocks vt_field_logs vt_field_powers b1 n0 (0 : Int32) vt_bytes vt_rest
abbrev ww_Codewords_addChecks (qt qt_bytes qt_field qt_generator qt_rest qt_field_logs qt_field_powers : Nat) (ct_bytes ct_generator ct_rest ct_field_logs ct_field_powers : ClassId) (vt_version : Int32) (vt_total : Int32) (vt_holds : Int32) (vt_blocks : Int32) (vt_checks : Int32) (vt_shortLength : Int32) (vt_shortBlocks : Int32) (vt_filled : Int32) (vt_waiting : Int32) (vt_waitingBits : Int32) (vt_bytes : Nat → Int32) (vt_generator : Nat → Int32) (vt_rest : Nat → Int32) (vt_field_logs : Nat → Int32) (vt_field_powers : Nat → Int32) : va_W := [(qt, .inr (3, [.ref qt_field, .ref qt_bytes, .ref qt_generator, .ref qt_rest, .int vt_version, .int vt_total, .int vt_holds, .int vt_blocks, .int vt_checks, .int vt_shortLength, .int vt_shortBlocks, .int vt_filled, .int vt_waiting, .int vt_waitingBits])), (qt_bytes, .inl (ct_bytes, 3706, .inl vt_bytes)), (qt_field, .inr (2, [.ref qt_field_powers, .ref qt_field_logs])), (qt_generator, .inl (ct_generator, 31, .inl vt_generator)), (qt_rest, .inl (ct_rest, 31, .inl vt_rest)), (qt_field_logs, .inl (ct_field_logs, 256, .inl vt_field_logs)), (qt_field_powers, .inl (ct_field_powers, 512, .inl vt_field_powers))]

def rm_Codewords_addChecks : Room := { frames := 4, cells := 0, slots := 0, locals := 93 }
abbrev qc_Codewords_addChecks (dC : Nat → ClassId) (dI : Nat → Nat → Nat) (A : Nat → Prop) (qt qt_bytes qt_field qt_generator qt_rest qt_field_logs qt_field_powers : Nat) (ct_bytes ct_generator ct_rest ct_field_logs ct_field_powers : ClassId) (vt_version : Int32) (vt_total : Int32) (vt_holds : Int32) (vt_blocks : Int32) (vt_checks : Int32) (vt_shortLength : Int32) (vt_shortBlocks : Int32) (vt_filled : Int32) (vt_waiting : Int32) (vt_waitingBits : Int32) (vt_bytes : Nat → Int32) (vt_generator : Nat → Int32) (vt_rest : Nat → Int32) (vt_field_logs : Nat → Int32) (vt_field_powers : Nat → Int32) : Array Value → State → Outcome → State → Prop := va_Qv (fun (_ : Unit) => True) (fun _ t => va_P (dC, dI) cl_All (ww_Codewords_addChecks qt qt_bytes qt_field qt_generator qt_rest qt_field_logs qt_field_powers ct_bytes ct_generator ct_rest ct_field_logs ct_field_powers vt_version vt_total vt_holds vt_blocks vt_checks vt_shortLength vt_shortBlocks vt_filled vt_waiting vt_waitingBits vt_bytes vt_generator vt_rest vt_field_logs vt_field_powers) t.heap ∧ va_D A (ww_Codewords_addChecks qt qt_bytes qt_field qt_generator qt_rest qt_field_logs qt_field_powers ct_bytes ct_generator ct_rest ct_field_logs ct_field_powers vt_version vt_total vt_holds vt_blocks vt_checks vt_shortLength vt_shortBlocks vt_filled vt_waiting vt_waitingBits vt_bytes vt_generator vt_rest vt_field_logs vt_field_powers)) A

set_option maxHeartbeats 4000000 in
set_option maxRecDepth 100000 in
theorem kt_Codewords_addChecks (l : Launch) (dC : Nat → ClassId) (dI : Nat → Nat → Nat) (qt qt_bytes qt_field qt_generator qt_rest qt_field_logs qt_field_powers : Nat) (ct_bytes ct_generator ct_rest ct_field_logs ct_field_powers : ClassId) (vt_version : Int32) (vt_total : Int32) (vt_holds : Int32) (vt_blocks : Int32) (vt_checks : Int32) (vt_shortLength : Int32) (vt_shortBlocks : Int32) (vt_filled : Int32) (vt_waiting : Int32) (vt_waitingBits : Int32) (vt_bytes : Nat → Int32) (vt_generator : Nat → Int32) (vt_rest : Nat → Int32) (vt_field_logs : Nat → Int32) (vt_field_powers : Nat → Int32) (sz : Nat) (n0 : Nat) (nvt_bytes : Nat → Int32) (nvt_generator : Nat → Int32) (nvt_rest : Nat → Int32) (Hf : fn_Codewords_addChecks n0 vt_holds vt_blocks vt_checks vt_shortLength vt_shortBlocks vt_bytes vt_generator vt_rest vt_field_logs vt_field_powers = some (nvt_bytes, nvt_generator, nvt_rest)) : Met l y_Codewords_addChecks w_Codewords_addChecks rm_Codewords_addChecks (va_Pc [.ref qt] (fun U => U.heap.size = sz ∧ va_P (dC, dI) cl_All (ww_Codewords_addChecks qt qt_bytes qt_field qt_generator qt_rest qt_field_logs qt_field_powers ct_bytes ct_generator ct_rest ct_field_logs ct_field_powers vt_version vt_total vt_holds vt_blocks vt_checks vt_shortLength vt_shortBlocks vt_filled vt_waiting vt_waitingBits vt_bytes vt_generator vt_rest vt_field_logs vt_field_powers) U.heap ∧ va_K (dC, dI) cl_All [(ct_bytes, .byte), (ct_generator, .int), (ct_rest, .int), (ct_field_logs, .int), (ct_field_powers, .int)] U ∧ va_D (fun _ => True) (ww_Codewords_addChecks qt qt_bytes qt_field qt_generator qt_rest qt_field_logs qt_field_powers ct_bytes ct_generator ct_rest ct_field_logs ct_field_powers vt_version vt_total vt_holds vt_blocks vt_checks vt_shortLength vt_shortBlocks vt_filled vt_waiting vt_waitingBits vt_bytes vt_generator vt_rest vt_field_logs vt_field_powers))) (qc_Codewords_addChecks dC dI (va_A (ww_Codewords_addChecks qt qt_bytes qt_field qt_generator qt_rest qt_field_logs qt_field_powers ct_bytes ct_generator ct_rest ct_field_logs ct_field_powers vt_version vt_total vt_holds vt_blocks vt_checks vt_shortLength vt_shortBlocks vt_filled vt_waiting vt_waitingBits vt_bytes vt_generator vt_rest vt_field_logs vt_field_powers) sz) qt qt_bytes qt_field qt_generator qt_rest qt_field_logs qt_field_powers ct_bytes ct_generator ct_rest ct_field_logs ct_field_powers vt_version vt_total vt_holds vt_blocks vt_checks vt_shortLength vt_shortBlocks vt_filled vt_waiting vt_waitingBits nvt_bytes nvt_generator nvt_rest vt_field_logs vt_field_powers) 0 0 (va_A (ww_Codewords_addChecks qt qt_bytes qt_field qt_generator qt_rest qt_field_logs qt_field_powers ct_bytes ct_generator ct_rest ct_field_logs ct_field_powers vt_version vt_total vt_holds vt_blocks vt_checks vt_shortLength vt_shortBlocks vt_filled vt_waiting vt_waitingBits vt_bytes vt_generator vt_rest vt_field_logs vt_field_powers) sz) := by
  refine Met.ofW (cc := prog_2_method_16_code) (maxL := 2) (ret := none) (by decide) rfl ?_
  intro p e s m args below meth c s₁ B hml hv
  obtain ⟨rfl, hsz, hP, hK, hD0⟩ := hv
  have hx := B.exec; have hb := B.bytes; have hr := B.returns; have hlocks := B.notSynchronized
  have ht : ∀ w ∈ lw_g, w.before _ s = true := fun w h => atoms_spec (ws := w_Codewords_addChecks) B.pre w (List.mem_cons_of_mem _ h)
  have hown : s.vm.findClass "SquareSymbols$Codewords" = some m.cls := findClass_of_methodNamed B.named
  subst hsz
  have hD := hD0.self (sz := s.heap.size)
  generalize hAe : va_A (ww_Codewords_addChecks qt qt_bytes qt_field qt_generator qt_rest qt_field_logs qt_field_powers ct_bytes ct_generator ct_rest ct_field_logs ct_field_powers vt_version vt_total vt_holds vt_blocks vt_checks vt_shortLength vt_shortBlocks vt_filled vt_waiting vt_waitingBits vt_bytes vt_generator vt_rest vt_field_logs vt_field_powers) s.heap.size = A at hD ⊢
  have hA : ∀ q : Nat, s.heap.size ≤ q → A q := fun q h => by rw [← hAe]; exact Or.inr h
  have hS : va_S A s.heap s.heap [] := va_S.rf
  have hl := lv_entry ([.ref qt]) (n := 2) (Nat.le_of_ble_eq_true rfl)
  rw [lg_entry_eq]
  generalize (lg_sl ([.ref qt]) ++ List.replicate (2 - (lg_sl ([.ref qt])).length) Slot.unset).toArray = ls at hl ⊢
  have hl : lv_has ls 2 [(0, .ref qt)] := hl
  refine lv_aload_n hx hb d_Codewords_addChecks_0 rfl (lv_at hl 0 rfl) ?_
  obtain ⟨b1, hc2, Hf⟩ := sq_cb1_e Hf
  refine sq_rwv (wn := (ww_Codewords_addChecks qt qt_bytes qt_field qt_generator qt_rest qt_field_logs qt_field_powers ct_bytes ct_generator ct_rest ct_field_logs ct_field_powers vt_version vt_total vt_holds vt_blocks vt_checks vt_shortLength vt_shortBlocks vt_filled vt_waiting vt_waitingBits vt_bytes b1 vt_rest vt_field_logs vt_field_powers)) (va_runV (As := []) (rest := []) ⟨hx, hb, hml, hown, ht⟩ (kt_Codewords_prepareGenerator l dC dI qt qt_field qt_generator qt_field_logs qt_field_powers qt_bytes qt_rest ct_generator ct_field_logs ct_field_powers vt_version vt_total vt_holds vt_blocks vt_checks vt_shortLength vt_shortBlocks vt_filled vt_waiting vt_waitingBits vt_generator vt_field_logs vt_field_powers s.heap.size n0 b1 hc2) (cwV 0 ht (sq_gV tb_954 tb_956 sl_25 tb_5 tb_957) rfl rfl rfl (by decide +kernel) ⟨Nat.le_of_ble_eq_true rfl, Nat.le_of_ble_eq_true rfl⟩) (sq_rwV (hP.sub (ws' := (ww_Codewords_prepareGenerator qt qt_field qt_generator qt_field_logs qt_field_powers qt_bytes qt_rest ct_generator ct_field_logs ct_field_powers vt_version vt_total vt_holds vt_blocks vt_checks vt_shortLength vt_shortBlocks vt_filled vt_waiting vt_waitingBits vt_generator vt_field_logs vt_field_powers)) [0, 2, 3, 5, 6] rfl) (hK.sub (tys' := [(ct_generator, .int), (ct_field_logs, .int), (ct_field_powers, .int)]) [1, 3, 4] rfl) (hD.sub (ws' := (ww_Codewords_prepareGenerator qt qt_field qt_generator qt_field_logs qt_field_powers qt_bytes qt_rest ct_generator ct_field_logs ct_field_powers vt_version vt_total vt_holds vt_blocks vt_checks vt_shortLength vt_shortBlocks vt_filled vt_waiting vt_waitingBits vt_generator vt_field_logs vt_field_powers)) [0, 2, 3, 5, 6] (by decide) rfl) (va_recv hK hP (ci := 3) (q0 := 0) rfl rfl)) rfl rfl hl.1 rfl (lv_room (Nat.le_of_ble_eq_true rfl)) d_Codewords_addChecks_1 ⟨Nat.le_of_ble_eq_true rfl, Nat.le_of_ble_eq_true rfl⟩) hP hD hS hA [0, 2, 3, 5, 6] [1, 4] [2, 0, 3, 4, 1, 5, 6] rfl rfl (by decide) (by decide) rfl (by decide) (fun H locs hP hD hS => ?_)
  refine lv_iconst (v := (0 : Int32)) hx hb d_Codewords_addChecks_4 (by decide) ?_
  refine lv_istore_n (lv' := [(1, .int (0 : Int32)), (0, .ref qt)]) hx hb d_Codewords_addChecks_5 rfl hl (by decide) rfl (fun ls hl => ?_)
  have L1 : ∀ (m1 : Nat), ∀ (x3 : Int32) (b4 : Nat → Int32) (b5 : Nat → Int32), fn_Codewords_addChecks_L1 n0 vt_holds vt_blocks vt_checks vt_shortLength vt_shortBlocks vt_field_logs vt_field_powers b1 m1 x3 b4 b5 = some (nvt_bytes, nvt_generator, nvt_rest) → ∀ (H : Heap) (locs : List Loc), va_P (dC, dI) cl_All (ww_Codewords_addChecks qt qt_bytes qt_field qt_generator qt_rest qt_field_logs qt_field_powers ct_bytes ct_generator ct_rest ct_field_logs ct_field_powers vt_version vt_total vt_holds vt_blocks vt_checks vt_shortLength vt_shortBlocks vt_filled vt_waiting vt_waitingBits b4 b1 b5 vt_field_logs vt_field_powers) H → va_D A (ww_Codewords_addChecks qt qt_bytes qt_field qt_generator qt_rest qt_field_logs qt_field_powers ct_bytes ct_generator ct_rest ct_field_logs ct_field_powers vt_version vt_total vt_holds vt_blocks vt_checks vt_shortLength vt_shortBlocks vt_filled vt_waiting vt_waitingBits b4 b1 b5 vt_field_logs vt_field_powers) → va_S A s.heap H locs → ∀ ls : Array Slot, lv_has ls 2 [(0, .ref qt), (1, .int x3)] → W p l e (headSpec w_Codewords_addChecks rm_Codewords_addChecks).room s m (([.ref qt] : List Value).toArray) below meth c H locs 0 0 (MQ below (qc_Codewords_addChecks dC dI A qt qt_bytes qt_field qt_generator qt_rest qt_field_logs qt_field_powers ct_bytes ct_generator ct_rest ct_field_logs ct_field_powers vt_version vt_total vt_holds vt_blocks vt_checks vt_shortLength vt_shortBlocks vt_filled vt_waiting vt_waitingBits nvt_bytes nvt_generator nvt_rest vt_field_logs vt_field_powers) (([.ref qt] : List Value).toArray) s 0 0 A) (F0 m 6 ls []) := by
    intro m1
    induction m1 with
    | zero => intro x3 b4 b5 Hf; exact sq_none Hf
    | succ m1 ih1 =>
      intro x3 b4 b5 Hf H locs  hP hD hS ls hl
      replace Hf := (fn_Codewords_addChecks_L1_s n0 vt_holds vt_blocks vt_checks vt_shortLength vt_shortBlocks vt_field_logs vt_field_powers b1 m1 x3 b4 b5).symm.trans Hf
      refine lv_iload_n hx hb d_Codewords_addChecks_6 rfl (lv_at hl 1 rfl) ?_
      refine lv_aload_n hx hb d_Codewords_addChecks_7 rfl (lv_at hl 0 rfl) ?_
      refine va_get (D := (dC, dI)) (ci := 3) (v := .int vt_blocks) (C := R_Codewords) (T := F_Codewords) (N := 14) hx hb ht i_Codewords hown hK hP 0 rfl rfl 7 (by decide) (ht _ tb_111) (fun _ h9 => h9) rfl d_Codewords_addChecks_8 ?_
      refine lv_icmp_ge (tgt := 25) hx hb d_Codewords_addChecks_11 (by decide) (fun c6 => ?_) (fun c6 => ?_)
      · replace Hf := sq_ite_t Hf c6
        obtain ⟨rfl, rfl, rfl⟩ := sq_so3 Hf
        exact W.vret hx hb hr (fun t ht hW => ⟨⟨(), rfl, trivial, by rw [ht]; exact hP, hD⟩, hS.F ht⟩) hS.2.2 d_Codewords_addChecks_25
      · replace Hf := sq_ite_f Hf c6
        refine lv_aload_n hx hb d_Codewords_addChecks_14 rfl (lv_at hl 0 rfl) ?_
        refine lv_iload_n hx hb d_Codewords_addChecks_15 rfl (lv_at hl 1 rfl) ?_
        obtain ⟨b7, b8, hc9, Hf⟩ := sq_cb2_e Hf
        refine sq_rwv (wn := (ww_Codewords_addChecks qt qt_bytes qt_field qt_generator qt_rest qt_field_logs qt_field_powers ct_bytes ct_generator ct_rest ct_field_logs ct_field_powers vt_version vt_total vt_holds vt_blocks vt_checks vt_shortLength vt_shortBlocks vt_filled vt_waiting vt_waitingBits b7 b1 b8 vt_field_logs vt_field_powers)) (va_runV (As := [.int x3]) (rest := []) ⟨hx, hb, hml, hown, ht⟩ (kt_Codewords_addChecksOf l dC dI qt qt_bytes qt_field qt_generator qt_rest qt_field_logs qt_field_powers ct_bytes ct_generator ct_rest ct_field_logs ct_field_powers vt_version vt_total vt_holds vt_blocks vt_checks vt_shortLength vt_shortBlocks vt_filled vt_waiting vt_waitingBits b4 b1 b5 vt_field_logs vt_field_powers x3 H.size n0 b7 b8 hc9) (cwV 1 ht (sq_gV tb_961 tb_963 sl_26 tb_5 tb_964) rfl rfl rfl (by decide +kernel) ⟨Nat.le_of_ble_eq_true rfl, Nat.le_of_ble_eq_true rfl⟩) (sq_rwV (hP.sub (ws' := (ww_Codewords_addChecksOf qt qt_bytes qt_field qt_generator qt_rest qt_field_logs qt_field_powers ct_bytes ct_generator ct_rest ct_field_logs ct_field_powers vt_version vt_total vt_holds vt_blocks vt_checks vt_shortLength vt_shortBlocks vt_filled vt_waiting vt_waitingBits b4 b1 b5 vt_field_logs vt_field_powers)) [0, 1, 2, 3, 4, 5, 6] rfl) (hK.sub (tys' := [(ct_bytes, .byte), (ct_generator, .int), (ct_rest, .int), (ct_field_logs, .int), (ct_field_powers, .int)]) [0, 1, 2, 3, 4] rfl) (hD.sub (ws' := (ww_Codewords_addChecksOf qt qt_bytes qt_field qt_generator qt_rest qt_field_logs qt_field_powers ct_bytes ct_generator ct_rest ct_field_logs ct_field_powers vt_version vt_total vt_holds vt_blocks vt_checks vt_shortLength vt_shortBlocks vt_filled vt_waiting vt_waitingBits b4 b1 b5 vt_field_logs vt_field_powers)) [0, 1, 2, 3, 4, 5, 6] (by decide) rfl) (va_recv hK hP (ci := 3) (q0 := 0) rfl rfl)) rfl rfl hl.1 rfl (lv_room (Nat.le_of_ble_eq_true rfl)) d_Codewords_addChecks_16 ⟨Nat.le_of_ble_eq_true rfl, Nat.le_of_ble_eq_true rfl⟩) hP hD hS hA [0, 1, 2, 3, 4, 5, 6] [] [0, 1, 2, 3, 4, 5, 6] rfl rfl (by decide) (by decide) rfl (by decide) (fun H locs hP hD hS => ?_)
        obtain ⟨x10, ex10, Hf⟩ := sq_bd_e Hf
        refine lv_iinc (v := x10) (lv' := [(1, .int x10), (0, .ref qt)]) hx hb d_Codewords_addChecks_19 hl (k := 1) rfl (by rw [ex10]; rfl) (by decide) rfl (fun ls hl => ?_)
        refine lv_goto (tgt := 6) hx hb d_Codewords_addChecks_22 (by decide) ?_
        exact ih1 x10 b7 b8 Hf _ _  hP hD hS _ (lv_sub hl [1, 0] rfl)
  exact L1 n0 (0 : Int32) vt_bytes vt_rest Hf _ _  hP hD hS _ (lv_sub hl [1, 0] rfl)

