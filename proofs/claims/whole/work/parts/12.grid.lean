def fn_Grid_from (p1 : Int32) (p2 : Int32) (vt_side : Int32) (vt_words : Nat → Int64) : Option (Int64) :=
  if p2 < 0 then (some ((0 : Int64))) else (if vt_side ≤ p2 then (some ((0 : Int64))) else (if vt_side ≤ p1 then (some ((0 : Int64))) else (if (-64 : Int32) < p1 then (if 0 ≤ p1 then (sq_bd (p1 >>> ((6 : Int32) &&& 31)) fun x6 => sq_bd (p1 &&& (63 : Int32)) fun x7 => sq_bd (((3 : Int32) * p2) + x6) fun x8 => sq_gi x8 531 <| sq_bd (vt_words x8.toNatClampNeg) fun w10 => sq_bd (sq_lushr w10 x7) fun w11 => sq_jn (fun (x12 : Int32) => if x12 = 0 then (sq_bd ((((3 : Int32) * p2) + x6) + (1 : Int32)) fun x15 => sq_gi x15 531 <| sq_bd (vt_words x15.toNatClampNeg) fun w17 => sq_bd (sq_lshl w17 ((64 : Int32) - x7)) fun w18 => some (w11 ||| w18)) else (some (w11))) fun k13 => sq_jn (fun (_ : Unit) => k13 (1 : Int32)) fun k19 => if x7 = 0 then (k19 ()) else (if (x6 + (1 : Int32)) < (3 : Int32) then (k13 (0 : Int32)) else (k19 ()))) else (sq_bd ((3 : Int32) * p2) fun x22 => sq_gi x22 531 <| sq_bd (vt_words x22.toNatClampNeg) fun w24 => sq_bd (sq_lshl w24 (-p1)) fun w25 => some (w25))) else (some ((0 : Int64))))))
abbrev ww_Grid_from (qt qt_words : Nat) (ct_words : ClassId) (vt_side : Int32) (vt_words : Nat → Int64) : va_W := [(qt, .inr (6, [.ref qt_words, .int vt_side])), (qt_words, .inl (ct_words, 531, .inr (.inl vt_words)))]

def rm_Grid_from : Room := { frames := 0, cells := 0, slots := 0, locals := 0 }
abbrev qc_Grid_from (r0 : Int64) : Array Value → State → Outcome → State → Prop := vp_Sl (fun r => r = r0)

set_option maxHeartbeats 4000000 in
set_option maxRecDepth 100000 in
theorem kt_Grid_from (l : Launch) (dC : Nat → ClassId) (dI : Nat → Nat → Nat) (qt qt_words : Nat) (ct_words : ClassId) (vt_side : Int32) (vt_words : Nat → Int64) (p1 : Int32) (p2 : Int32) (r0 : Int64) (Hf : fn_Grid_from p1 p2 vt_side vt_words = some r0) : Met l y_Grid_from w_Grid_from rm_Grid_from (va_Pc [.ref qt, .int p1, .int p2] (fun U => va_P (dC, dI) cl_All (ww_Grid_from qt qt_words ct_words vt_side vt_words) U.heap ∧ va_K (dC, dI) cl_All [(ct_words, .long)] U)) (qc_Grid_from r0) 0 0 (fun _ => False) := by
  refine Met.ofW (cc := prog_7_method_8_code) (maxL := 8) (ret := (some .long)) (by decide) rfl ?_
  intro p e s m args below meth c s₁ B hml hv
  obtain ⟨rfl, hP, hK⟩ := hv
  have hx := B.exec; have hb := B.bytes; have hr := B.returns; have hlocks := B.notSynchronized
  have ht : ∀ w ∈ lw_g, w.before _ s = true := fun w h => atoms_spec (ws := w_Grid_from) B.pre w (List.mem_cons_of_mem _ h)
  have hown : s.vm.findClass "SquareSymbols$Grid" = some m.cls := findClass_of_methodNamed B.named
  have hl := lv_entry ([.ref qt, .int p1, .int p2]) (n := 8) (Nat.le_of_ble_eq_true rfl)
  rw [lg_entry_eq]
  generalize (lg_sl ([.ref qt, .int p1, .int p2]) ++ List.replicate (8 - (lg_sl ([.ref qt, .int p1, .int p2])).length) Slot.unset).toArray = ls at hl ⊢
  have hl : lv_has ls 8 [(0, .ref qt), (1, .int p1), (2, .int p2)] := hl
  refine lv_iload_n hx hb d_Grid_from_0 rfl (lv_at hl 2 rfl) ?_
  refine lv_if_lt (tgt := 26) hx hb d_Grid_from_1 (by decide) (fun c1 => ?_) (fun c1 => ?_)
  · replace Hf := sq_ite_t Hf c1
    refine lv_lconst (v := (0 : Int64)) hx hb d_Grid_from_26 (by decide) ?_
    have er := Option.some.inj Hf
    exact W.lret hx hb hr (fun t ht hW => ⟨_, rfl, er, ht⟩) (fun q h => by cases h) d_Grid_from_27
  · replace Hf := sq_ite_f Hf c1
    refine lv_iload_n hx hb d_Grid_from_4 rfl (lv_at hl 2 rfl) ?_
    refine lv_aload_n hx hb d_Grid_from_5 rfl (lv_at hl 0 rfl) ?_
    refine va_get (D := (dC, dI)) (ci := 6) (v := .int vt_side) (C := R_Grid) (T := F_Grid) (N := 2) hx hb ht i_Grid hown hK hP 0 rfl rfl 1 (by decide) (ht _ tb_210) (fun _ h9 => h9) rfl d_Grid_from_6 ?_
    refine lv_icmp_ge (tgt := 26) hx hb d_Grid_from_9 (by decide) (fun c2 => ?_) (fun c2 => ?_)
    · replace Hf := sq_ite_t Hf c2
      refine lv_lconst (v := (0 : Int64)) hx hb d_Grid_from_26 (by decide) ?_
      have er := Option.some.inj Hf
      exact W.lret hx hb hr (fun t ht hW => ⟨_, rfl, er, ht⟩) (fun q h => by cases h) d_Grid_from_27
    · replace Hf := sq_ite_f Hf c2
      refine lv_iload_n hx hb d_Grid_from_12 rfl (lv_at hl 1 rfl) ?_
      refine lv_aload_n hx hb d_Grid_from_13 rfl (lv_at hl 0 rfl) ?_
      refine va_get (D := (dC, dI)) (ci := 6) (v := .int vt_side) (C := R_Grid) (T := F_Grid) (N := 2) hx hb ht i_Grid hown hK hP 0 rfl rfl 1 (by decide) (ht _ tb_210) (fun _ h9 => h9) rfl d_Grid_from_14 ?_
      refine lv_icmp_ge (tgt := 26) hx hb d_Grid_from_17 (by decide) (fun c3 => ?_) (fun c3 => ?_)
      · replace Hf := sq_ite_t Hf c3
        refine lv_lconst (v := (0 : Int64)) hx hb d_Grid_from_26 (by decide) ?_
        have er := Option.some.inj Hf
        exact W.lret hx hb hr (fun t ht hW => ⟨_, rfl, er, ht⟩) (fun q h => by cases h) d_Grid_from_27
      · replace Hf := sq_ite_f Hf c3
        refine lv_iload_n hx hb d_Grid_from_20 rfl (lv_at hl 1 rfl) ?_
        refine lv_bipush (v := (-64 : Int32)) hx hb d_Grid_from_21 (by decide) ?_
        refine lv_icmp_gt (tgt := 28) hx hb d_Grid_from_23 (by decide) (fun c4 => ?_) (fun c4 => ?_)
        · replace Hf := sq_ite_t Hf c4
          refine lv_iload_n hx hb d_Grid_from_28 rfl (lv_at hl 1 rfl) ?_
          refine lv_if_ge (tgt := 44) hx hb d_Grid_from_29 (by decide) (fun c5 => ?_) (fun c5 => ?_)
          · replace Hf := sq_ite_t Hf c5
            refine lv_iload_n hx hb d_Grid_from_44 rfl (lv_at hl 1 rfl) ?_
            refine lv_bipush (v := (6 : Int32)) hx hb d_Grid_from_45 (by decide) ?_
            refine lv_ishr hx hb d_Grid_from_47 ?_
            obtain ⟨x6, ex6, Hf⟩ := sq_bd_e Hf
            refine sq_top ex6 ?_
            refine lv_istore_n (lv' := [(3, .int x6), (0, .ref qt), (1, .int p1), (2, .int p2)]) hx hb d_Grid_from_48 rfl hl (by decide) rfl (fun ls hl => ?_)
            refine lv_iload_n hx hb d_Grid_from_49 rfl (lv_at hl 2 rfl) ?_
            refine lv_bipush (v := (63 : Int32)) hx hb d_Grid_from_50 (by decide) ?_
            refine lv_iand hx hb d_Grid_from_52 ?_
            obtain ⟨x7, ex7, Hf⟩ := sq_bd_e Hf
            refine sq_top ex7 ?_
            refine lv_istore (lv' := [(4, .int x7), (3, .int x6), (0, .ref qt), (1, .int p1), (2, .int p2)]) hx hb d_Grid_from_53 hl (by decide) rfl (fun ls hl => ?_)
            refine lv_aload_n hx hb d_Grid_from_55 rfl (lv_at hl 2 rfl) ?_
            refine va_get (D := (dC, dI)) (ci := 6) (v := .ref qt_words) (C := R_Grid) (T := F_Grid) (N := 2) hx hb ht i_Grid hown hK hP 0 rfl rfl 0 (by decide) (ht _ tb_209) (fun _ h9 => h9) rfl d_Grid_from_56 ?_
            refine lv_iconst (v := (3 : Int32)) hx hb d_Grid_from_59 (by decide) ?_
            refine lv_iload_n hx hb d_Grid_from_60 rfl (lv_at hl 4 rfl) ?_
            refine lv_imul hx hb d_Grid_from_61 ?_
            refine lv_iload_n hx hb d_Grid_from_62 rfl (lv_at hl 1 rfl) ?_
            refine lv_iadd hx hb d_Grid_from_63 ?_
            obtain ⟨x8, ex8, Hf⟩ := sq_bd_e Hf
            refine sq_top ex8 ?_
            obtain ⟨hi9, Hf⟩ := sq_gi_e Hf
            refine va_lald hx hb hK hP 1 0 rfl rfl hi9 d_Grid_from_64 ?_
            obtain ⟨w10, ew10, Hf⟩ := sq_bd_e Hf
            refine sq_topl ew10 ?_
            refine lv_iload hx hb d_Grid_from_65 (lv_at hl 0 rfl) ?_
            refine lv_lushr hx hb d_Grid_from_67 rfl ?_
            obtain ⟨w11, ew11, Hf⟩ := sq_bd_e Hf
            refine sq_topl ew11 ?_
            refine lv_lstore (lv' := [(5, .long w11), (4, .int x7), (3, .int x6), (0, .ref qt), (1, .int p1), (2, .int p2)]) hx hb d_Grid_from_68 hl (by decide) rfl (fun ls hl => ?_)
            refine lv_iload hx hb d_Grid_from_70 (lv_at hl 1 rfl) ?_
            obtain ⟨k13, hk13, Hf⟩ := sq_jn_e Hf
            have Jk13 : ∀ (x12 : Int32), k13 x12 = some r0 → ∀ ls : Array Slot, lv_has ls 8 [(0, .ref qt), (2, .int p2), (3, .int x6), (4, .int x7), (5, .long w11)] → W p l e (headSpec w_Grid_from rm_Grid_from).room s m (([.ref qt, .int p1, .int p2] : List Value).toArray) below meth c s.heap [] 0 0 (MQ below (qc_Grid_from r0) (([.ref qt, .int p1, .int p2] : List Value).toArray) s 0 0 (fun _ => False)) (F0 m 87 ls [.int x12]) := by
              intro x12 Hf ls hl
              rw [hk13] at Hf
              refine lv_istore (lv' := [(7, .int x12), (0, .ref qt), (2, .int p2), (3, .int x6), (4, .int x7), (5, .long w11)]) hx hb d_Grid_from_87 hl (by decide) rfl (fun ls hl => ?_)
              refine lv_iload hx hb d_Grid_from_89 (lv_at hl 0 rfl) ?_
              refine lv_if_eq (tgt := 99) hx hb d_Grid_from_91 (by decide) (fun c14 => ?_) (fun c14 => ?_)
              · replace Hf := sq_ite_t Hf c14
                refine lv_lload hx hb d_Grid_from_99 (lv_at hl 5 rfl) ?_
                refine lv_aload_n hx hb d_Grid_from_101 rfl (lv_at hl 1 rfl) ?_
                refine va_get (D := (dC, dI)) (ci := 6) (v := .ref qt_words) (C := R_Grid) (T := F_Grid) (N := 2) hx hb ht i_Grid hown hK hP 0 rfl rfl 0 (by decide) (ht _ tb_209) (fun _ h9 => h9) rfl d_Grid_from_102 ?_
                refine lv_iconst (v := (3 : Int32)) hx hb d_Grid_from_105 (by decide) ?_
                refine lv_iload_n hx hb d_Grid_from_106 rfl (lv_at hl 2 rfl) ?_
                refine lv_imul hx hb d_Grid_from_107 ?_
                refine lv_iload_n hx hb d_Grid_from_108 rfl (lv_at hl 3 rfl) ?_
                refine lv_iadd hx hb d_Grid_from_109 ?_
                refine lv_iconst (v := (1 : Int32)) hx hb d_Grid_from_110 (by decide) ?_
                refine lv_iadd hx hb d_Grid_from_111 ?_
                obtain ⟨x15, ex15, Hf⟩ := sq_bd_e Hf
                refine sq_top ex15 ?_
                obtain ⟨hi16, Hf⟩ := sq_gi_e Hf
                refine va_lald hx hb hK hP 1 0 rfl rfl hi16 d_Grid_from_112 ?_
                obtain ⟨w17, ew17, Hf⟩ := sq_bd_e Hf
                refine sq_topl ew17 ?_
                refine lv_bipush (v := (64 : Int32)) hx hb d_Grid_from_113 (by decide) ?_
                refine lv_iload hx hb d_Grid_from_115 (lv_at hl 4 rfl) ?_
                refine lv_isub hx hb d_Grid_from_117 ?_
                refine lv_lshl hx hb d_Grid_from_118 rfl ?_
                obtain ⟨w18, ew18, Hf⟩ := sq_bd_e Hf
                refine sq_topl ew18 ?_
                refine lv_lor hx hb d_Grid_from_119 ?_
                have er := Option.some.inj Hf
                exact W.lret hx hb hr (fun t ht hW => ⟨_, rfl, er, ht⟩) (fun q h => by cases h) d_Grid_from_120
              · replace Hf := sq_ite_f Hf c14
                refine lv_lload hx hb d_Grid_from_94 (lv_at hl 5 rfl) ?_
                refine lv_goto (tgt := 120) hx hb d_Grid_from_96 (by decide) ?_
                have er := Option.some.inj Hf
                exact W.lret hx hb hr (fun t ht hW => ⟨_, rfl, er, ht⟩) (fun q h => by cases h) d_Grid_from_120
            obtain ⟨k19, hk19, Hf⟩ := sq_jn_e Hf
            have Jk19 : ∀ (_u : Unit), k19 _u = some r0 → ∀ ls : Array Slot, lv_has ls 8 [(0, .ref qt), (2, .int p2), (3, .int x6), (4, .int x7), (5, .long w11)] → W p l e (headSpec w_Grid_from rm_Grid_from).room s m (([.ref qt, .int p1, .int p2] : List Value).toArray) below meth c s.heap [] 0 0 (MQ below (qc_Grid_from r0) (([.ref qt, .int p1, .int p2] : List Value).toArray) s 0 0 (fun _ => False)) (F0 m 82 ls []) := by
              intro _u Hf ls hl
              rw [hk19] at Hf
              refine lv_iconst (v := (1 : Int32)) hx hb d_Grid_from_82 (by decide) ?_
              refine lv_goto (tgt := 87) hx hb d_Grid_from_83 (by decide) ?_
              exact Jk13 (1 : Int32) Hf _ (lv_sub hl [0, 1, 2, 3, 4] rfl)
            refine lv_if_eq (tgt := 82) hx hb d_Grid_from_72 (by decide) (fun c20 => ?_) (fun c20 => ?_)
            · replace Hf := sq_ite_t Hf c20
              exact Jk19 () Hf _ (lv_sub hl [3, 5, 2, 1, 0] rfl)
            · replace Hf := sq_ite_f Hf c20
              refine lv_iload_n hx hb d_Grid_from_75 rfl (lv_at hl 2 rfl) ?_
              refine lv_iconst (v := (1 : Int32)) hx hb d_Grid_from_76 (by decide) ?_
              refine lv_iadd hx hb d_Grid_from_77 ?_
              refine lv_iconst (v := (3 : Int32)) hx hb d_Grid_from_78 (by decide) ?_
              refine lv_icmp_lt (tgt := 86) hx hb d_Grid_from_79 (by decide) (fun c21 => ?_) (fun c21 => ?_)
              · replace Hf := sq_ite_t Hf c21
                refine lv_iconst (v := (0 : Int32)) hx hb d_Grid_from_86 (by decide) ?_
                exact Jk13 (0 : Int32) Hf _ (lv_sub hl [3, 5, 2, 1, 0] rfl)
              · replace Hf := sq_ite_f Hf c21
                exact Jk19 () Hf _ (lv_sub hl [3, 5, 2, 1, 0] rfl)
          · replace Hf := sq_ite_f Hf c5
            refine lv_aload_n hx hb d_Grid_from_32 rfl (lv_at hl 0 rfl) ?_
            refine va_get (D := (dC, dI)) (ci := 6) (v := .ref qt_words) (C := R_Grid) (T := F_Grid) (N := 2) hx hb ht i_Grid hown hK hP 0 rfl rfl 0 (by decide) (ht _ tb_209) (fun _ h9 => h9) rfl d_Grid_from_33 ?_
            refine lv_iconst (v := (3 : Int32)) hx hb d_Grid_from_36 (by decide) ?_
            refine lv_iload_n hx hb d_Grid_from_37 rfl (lv_at hl 2 rfl) ?_
            refine lv_imul hx hb d_Grid_from_38 ?_
            obtain ⟨x22, ex22, Hf⟩ := sq_bd_e Hf
            refine sq_top ex22 ?_
            obtain ⟨hi23, Hf⟩ := sq_gi_e Hf
            refine va_lald hx hb hK hP 1 0 rfl rfl hi23 d_Grid_from_39 ?_
            obtain ⟨w24, ew24, Hf⟩ := sq_bd_e Hf
            refine sq_topl ew24 ?_
            refine lv_iload_n hx hb d_Grid_from_40 rfl (lv_at hl 1 rfl) ?_
            refine lv_ineg hx hb d_Grid_from_41 ?_
            refine lv_lshl hx hb d_Grid_from_42 rfl ?_
            obtain ⟨w25, ew25, Hf⟩ := sq_bd_e Hf
            refine sq_topl ew25 ?_
            have er := Option.some.inj Hf
            exact W.lret hx hb hr (fun t ht hW => ⟨_, rfl, er, ht⟩) (fun q h => by cases h) d_Grid_from_43
        · replace Hf := sq_ite_f Hf c4
          refine lv_lconst (v := (0 : Int64)) hx hb d_Grid_from_26 (by decide) ?_
          have er := Option.some.inj Hf
          exact W.lret hx hb hr (fun t ht hW => ⟨_, rfl, er, ht⟩) (fun q h => by cases h) d_Grid_from_27

def fn_Sq_lowBits (p1 : Int32) : Option (Int64) :=
  if 0 < p1 then (if p1 < (64 : Int32) then (sq_bd (sq_lshl (1 : Int64) p1) fun w3 => some (w3 - (1 : Int64))) else (some ((-1 : Int64)))) else (some ((0 : Int64)))
def rm_Sq_lowBits : Room := { frames := 0, cells := 0, slots := 0, locals := 0 }
abbrev qc_Sq_lowBits (r0 : Int64) : Array Value → State → Outcome → State → Prop := vp_Sl (fun r => r = r0)

set_option maxHeartbeats 4000000 in
set_option maxRecDepth 100000 in
theorem kt_Sq_lowBits (l : Launch) (dC : Nat → ClassId) (dI : Nat → Nat → Nat) (p1 : Int32) (r0 : Int64) (Hf : fn_Sq_lowBits p1 = some r0) : Met l y_Sq_lowBits w_Sq_lowBits rm_Sq_lowBits (va_Pc [.int p1] (fun U => va_P (dC, dI) cl_All ([] : va_W) U.heap ∧ va_K (dC, dI) cl_All [] U)) (qc_Sq_lowBits r0) 0 0 (fun _ => False) := by
  refine Met.ofW (cc := prog_1_method_21_code) (maxL := 1) (ret := (some .long)) (by decide) rfl ?_
  intro p e s m args below meth c s₁ B hml hv
  obtain ⟨rfl, hP, hK⟩ := hv
  have hx := B.exec; have hb := B.bytes; have hr := B.returns; have hlocks := B.notSynchronized
  have ht : ∀ w ∈ lw_g, w.before _ s = true := fun w h => atoms_spec (ws := w_Sq_lowBits) B.pre w (List.mem_cons_of_mem _ h)
  have hown : s.vm.findClass "SquareSymbols" = some m.cls := findClass_of_methodNamed B.named
  have hl := lv_entry ([.int p1]) (n := 1) (Nat.le_of_ble_eq_true rfl)
  rw [lg_entry_eq]
  generalize (lg_sl ([.int p1]) ++ List.replicate (1 - (lg_sl ([.int p1])).length) Slot.unset).toArray = ls at hl ⊢
  have hl : lv_has ls 1 [(0, .int p1)] := hl
  refine lv_iload_n hx hb d_Sq_lowBits_0 rfl (lv_at hl 0 rfl) ?_
  refine lv_if_gt (tgt := 8) hx hb d_Sq_lowBits_1 (by decide) (fun c1 => ?_) (fun c1 => ?_)
  · replace Hf := sq_ite_t Hf c1
    refine lv_iload_n hx hb d_Sq_lowBits_8 rfl (lv_at hl 0 rfl) ?_
    refine lv_bipush (v := (64 : Int32)) hx hb d_Sq_lowBits_9 (by decide) ?_
    refine lv_icmp_lt (tgt := 20) hx hb d_Sq_lowBits_11 (by decide) (fun c2 => ?_) (fun c2 => ?_)
    · replace Hf := sq_ite_t Hf c2
      refine lv_lconst (v := (1 : Int64)) hx hb d_Sq_lowBits_20 (by decide) ?_
      refine lv_iload_n hx hb d_Sq_lowBits_21 rfl (lv_at hl 0 rfl) ?_
      refine lv_lshl hx hb d_Sq_lowBits_22 rfl ?_
      obtain ⟨w3, ew3, Hf⟩ := sq_bd_e Hf
      refine sq_topl ew3 ?_
      refine lv_lconst (v := (1 : Int64)) hx hb d_Sq_lowBits_23 (by decide) ?_
      refine lv_lsub hx hb d_Sq_lowBits_24 ?_
      have er := Option.some.inj Hf
      exact W.lret hx hb hr (fun t ht hW => ⟨_, rfl, er, ht⟩) (fun q h => by cases h) d_Sq_lowBits_25
    · replace Hf := sq_ite_f Hf c2
      refine lv_ldc2 (v := (-1 : Int64)) hx hb hown (ht _ tb_344) d_Sq_lowBits_14 ?_
      refine lv_goto (tgt := 25) hx hb d_Sq_lowBits_17 (by decide) ?_
      have er := Option.some.inj Hf
      exact W.lret hx hb hr (fun t ht hW => ⟨_, rfl, er, ht⟩) (fun q h => by cases h) d_Sq_lowBits_25
  · replace Hf := sq_ite_f Hf c1
    refine lv_lconst (v := (0 : Int64)) hx hb d_Sq_lowBits_4 (by decide) ?_
    refine lv_goto (tgt := 25) hx hb d_Sq_lowBits_5 (by decide) ?_
    have er := Option.some.inj Hf
    exact W.lret hx hb hr (fun t ht hW => ⟨_, rfl, er, ht⟩) (fun q h => by cases h) d_Sq_lowBits_25

def fn_JLong_bitCount (p1 : Int64) : Option (Int32) :=
  sq_bd (sq_lushr p1 (1 : Int32)) fun w1 => sq_bd (p1 - (w1 &&& (6148914691236517205 : Int64))) fun w2 => sq_bd (sq_lushr w2 (2 : Int32)) fun w3 => sq_bd ((w2 &&& (3689348814741910323 : Int64)) + (w3 &&& (3689348814741910323 : Int64))) fun w4 => sq_bd (sq_lushr w4 (4 : Int32)) fun w5 => sq_bd ((w4 + w5) &&& (1085102592571150095 : Int64)) fun w6 => sq_bd (sq_lushr w6 (8 : Int32)) fun w7 => sq_bd (w6 + w7) fun w8 => sq_bd (sq_lushr w8 (16 : Int32)) fun w9 => sq_bd (w8 + w9) fun w10 => sq_bd (sq_lushr w10 (32 : Int32)) fun w11 => sq_bd (w10 + w11) fun w12 => sq_bd (sq_l2i w12) fun x13 => some (x13 &&& (127 : Int32))
def rm_JLong_bitCount : Room := { frames := 0, cells := 0, slots := 0, locals := 0 }
abbrev qc_JLong_bitCount (r0 : Int32) : Array Value → State → Outcome → State → Prop := vp_Si (fun r => r = r0)

set_option maxHeartbeats 4000000 in
set_option maxRecDepth 100000 in
theorem kt_JLong_bitCount (l : Launch) (dC : Nat → ClassId) (dI : Nat → Nat → Nat) (p1 : Int64) (r0 : Int32) (Hf : fn_JLong_bitCount p1 = some r0) : Met l y_JLong_bitCount w_JLong_bitCount rm_JLong_bitCount (va_Pc [.long p1] (fun U => va_P (dC, dI) cl_All ([] : va_W) U.heap ∧ va_K (dC, dI) cl_All [] U)) (qc_JLong_bitCount r0) 0 0 (fun _ => False) := by
  refine Met.ofW (cc := prog_19_method_50_code) (maxL := 2) (ret := (some .int)) (by decide) rfl ?_
  intro p e s m args below meth c s₁ B hml hv
  obtain ⟨rfl, hP, hK⟩ := hv
  have hx := B.exec; have hb := B.bytes; have hr := B.returns; have hlocks := B.notSynchronized
  have ht : ∀ w ∈ lw_g, w.before _ s = true := fun w h => atoms_spec (ws := w_JLong_bitCount) B.pre w (List.mem_cons_of_mem _ h)
  have hown : s.vm.findClass "java/lang/Long" = some m.cls := findClass_of_methodNamed B.named
  have hl := lv_entry ([.long p1]) (n := 2) (Nat.le_of_ble_eq_true rfl)
  rw [lg_entry_eq]
  generalize (lg_sl ([.long p1]) ++ List.replicate (2 - (lg_sl ([.long p1])).length) Slot.unset).toArray = ls at hl ⊢
  have hl : lv_has ls 2 [(0, .long p1)] := hl
  refine lv_lload_n hx hb d_JLong_bitCount_0 rfl (lv_at hl 0 rfl) ?_
  refine lv_lload_n hx hb d_JLong_bitCount_1 rfl (lv_at hl 0 rfl) ?_
  refine lv_iconst (v := (1 : Int32)) hx hb d_JLong_bitCount_2 (by decide) ?_
  refine lv_lushr hx hb d_JLong_bitCount_3 rfl ?_
  obtain ⟨w1, ew1, Hf⟩ := sq_bd_e Hf
  refine sq_topl ew1 ?_
  refine lv_ldc2 (v := (6148914691236517205 : Int64)) hx hb hown (ht _ tb_348) d_JLong_bitCount_4 ?_
  refine lv_land hx hb d_JLong_bitCount_7 ?_
  refine lv_lsub hx hb d_JLong_bitCount_8 ?_
  obtain ⟨w2, ew2, Hf⟩ := sq_bd_e Hf
  refine sq_topl ew2 ?_
  refine lv_lstore_n (lv' := [(0, .long w2)]) hx hb d_JLong_bitCount_9 rfl hl (by decide) rfl (fun ls hl => ?_)
  refine lv_lload_n hx hb d_JLong_bitCount_10 rfl (lv_at hl 0 rfl) ?_
  refine lv_ldc2 (v := (3689348814741910323 : Int64)) hx hb hown (ht _ tb_349) d_JLong_bitCount_11 ?_
  refine lv_land hx hb d_JLong_bitCount_14 ?_
  refine lv_lload_n hx hb d_JLong_bitCount_15 rfl (lv_at hl 0 rfl) ?_
  refine lv_iconst (v := (2 : Int32)) hx hb d_JLong_bitCount_16 (by decide) ?_
  refine lv_lushr hx hb d_JLong_bitCount_17 rfl ?_
  obtain ⟨w3, ew3, Hf⟩ := sq_bd_e Hf
  refine sq_topl ew3 ?_
  refine lv_ldc2 (v := (3689348814741910323 : Int64)) hx hb hown (ht _ tb_349) d_JLong_bitCount_18 ?_
  refine lv_land hx hb d_JLong_bitCount_21 ?_
  refine lv_ladd hx hb d_JLong_bitCount_22 ?_
  obtain ⟨w4, ew4, Hf⟩ := sq_bd_e Hf
  refine sq_topl ew4 ?_
  refine lv_lstore_n (lv' := [(0, .long w4)]) hx hb d_JLong_bitCount_23 rfl hl (by decide) rfl (fun ls hl => ?_)
  refine lv_lload_n hx hb d_JLong_bitCount_24 rfl (lv_at hl 0 rfl) ?_
  refine lv_lload_n hx hb d_JLong_bitCount_25 rfl (lv_at hl 0 rfl) ?_
  refine lv_iconst (v := (4 : Int32)) hx hb d_JLong_bitCount_26 (by decide) ?_
  refine lv_lushr hx hb d_JLong_bitCount_27 rfl ?_
  obtain ⟨w5, ew5, Hf⟩ := sq_bd_e Hf
  refine sq_topl ew5 ?_
  refine lv_ladd hx hb d_JLong_bitCount_28 ?_
  refine lv_ldc2 (v := (1085102592571150095 : Int64)) hx hb hown (ht _ tb_350) d_JLong_bitCount_29 ?_
  refine lv_land hx hb d_JLong_bitCount_32 ?_
  obtain ⟨w6, ew6, Hf⟩ := sq_bd_e Hf
  refine sq_topl ew6 ?_
  refine lv_lstore_n (lv' := [(0, .long w6)]) hx hb d_JLong_bitCount_33 rfl hl (by decide) rfl (fun ls hl => ?_)
  refine lv_lload_n hx hb d_JLong_bitCount_34 rfl (lv_at hl 0 rfl) ?_
  refine lv_lload_n hx hb d_JLong_bitCount_35 rfl (lv_at hl 0 rfl) ?_
  refine lv_bipush (v := (8 : Int32)) hx hb d_JLong_bitCount_36 (by decide) ?_
  refine lv_lushr hx hb d_JLong_bitCount_38 rfl ?_
  obtain ⟨w7, ew7, Hf⟩ := sq_bd_e Hf
  refine sq_topl ew7 ?_
  refine lv_ladd hx hb d_JLong_bitCount_39 ?_
  obtain ⟨w8, ew8, Hf⟩ := sq_bd_e Hf
  refine sq_topl ew8 ?_
  refine lv_lstore_n (lv' := [(0, .long w8)]) hx hb d_JLong_bitCount_40 rfl hl (by decide) rfl (fun ls hl => ?_)
  refine lv_lload_n hx hb d_JLong_bitCount_41 rfl (lv_at hl 0 rfl) ?_
  refine lv_lload_n hx hb d_JLong_bitCount_42 rfl (lv_at hl 0 rfl) ?_
  refine lv_bipush (v := (16 : Int32)) hx hb d_JLong_bitCount_43 (by decide) ?_
  refine lv_lushr hx hb d_JLong_bitCount_45 rfl ?_
  obtain ⟨w9, ew9, Hf⟩ := sq_bd_e Hf
  refine sq_topl ew9 ?_
  refine lv_ladd hx hb d_JLong_bitCount_46 ?_
  obtain ⟨w10, ew10, Hf⟩ := sq_bd_e Hf
  refine sq_topl ew10 ?_
  refine lv_lstore_n (lv' := [(0, .long w10)]) hx hb d_JLong_bitCount_47 rfl hl (by decide) rfl (fun ls hl => ?_)
  refine lv_lload_n hx hb d_JLong_bitCount_48 rfl (lv_at hl 0 rfl) ?_
  refine lv_lload_n hx hb d_JLong_bitCount_49 rfl (lv_at hl 0 rfl) ?_
  refine lv_bipush (v := (32 : Int32)) hx hb d_JLong_bitCount_50 (by decide) ?_
  refine lv_lushr hx hb d_JLong_bitCount_52 rfl ?_
  obtain ⟨w11, ew11, Hf⟩ := sq_bd_e Hf
  refine sq_topl ew11 ?_
  refine lv_ladd hx hb d_JLong_bitCount_53 ?_
  obtain ⟨w12, ew12, Hf⟩ := sq_bd_e Hf
  refine sq_topl ew12 ?_
  refine lv_lstore_n (lv' := [(0, .long w12)]) hx hb d_JLong_bitCount_54 rfl hl (by decide) rfl (fun ls hl => ?_)
  refine lv_lload_n hx hb d_JLong_bitCount_55 rfl (lv_at hl 0 rfl) ?_
  refine lv_l2i hx hb d_JLong_bitCount_56 rfl ?_
  obtain ⟨x13, ex13, Hf⟩ := sq_bd_e Hf
  refine sq_top ex13 ?_
  refine lv_bipush (v := (127 : Int32)) hx hb d_JLong_bitCount_57 (by decide) ?_
  refine lv_iand hx hb d_JLong_bitCount_59 ?_
  have er := Option.some.inj Hf
  exact W.iret hx hb hr (fun t ht hW => ⟨_, rfl, er, ht⟩) (fun q h => by cases h) d_JLong_bitCount_60

def fn_Grid_turn (p1 : Int32) (p2 : Int32) (p3 : Int64) (vt_side : Int32) (vt_words : Nat → Int64) : Option (Int32 × (Nat → Int64)) :=
  if p1 < 0 then (some ((0 : Int32), vt_words)) else (if (3 : Int32) ≤ p1 then (some ((0 : Int32), vt_words)) else (if p2 < 0 then (some ((0 : Int32), vt_words)) else (if p2 < vt_side then (sq_cb1 (fn_Sq_lowBits (vt_side - ((64 : Int32) * p1))) fun u5 => sq_bd (p3 &&& u5) fun w7 => sq_bd (((3 : Int32) * p2) + p1) fun x8 => sq_gi x8 531 <| sq_bd (vt_words x8.toNatClampNeg) fun w10 => sq_bd (w10 ^^^ w7) fun w11 => sq_gi x8 531 <| sq_bd (vp_updL vt_words x8.toNatClampNeg w11) fun b13 => sq_cb1 (fn_JLong_bitCount w7) fun r14 => some (r14, b13)) else (some ((0 : Int32), vt_words)))))
abbrev ww_Grid_turn (qt qt_words : Nat) (ct_words : ClassId) (vt_side : Int32) (vt_words : Nat → Int64) : va_W := [(qt, .inr (6, [.ref qt_words, .int vt_side])), (qt_words, .inl (ct_words, 531, .inr (.inl vt_words)))]

def rm_Grid_turn : Room := { frames := 1, cells := 0, slots := 0, locals := 21 }
abbrev qc_Grid_turn (dC : Nat → ClassId) (dI : Nat → Nat → Nat) (A : Nat → Prop) (r0 : Int32) (qt qt_words : Nat) (ct_words : ClassId) (vt_side : Int32) (vt_words : Nat → Int64) : Array Value → State → Outcome → State → Prop := va_Qi (fun r (_ : Unit) => r = r0) (fun _ t => va_P (dC, dI) cl_All (ww_Grid_turn qt qt_words ct_words vt_side vt_words) t.heap ∧ va_D A (ww_Grid_turn qt qt_words ct_words vt_side vt_words)) A

set_option maxHeartbeats 4000000 in
set_option maxRecDepth 100000 in
theorem kt_Grid_turn (l : Launch) (dC : Nat → ClassId) (dI : Nat → Nat → Nat) (qt qt_words : Nat) (ct_words : ClassId) (vt_side : Int32) (vt_words : Nat → Int64) (p1 : Int32) (p2 : Int32) (p3 : Int64) (tt : Nat → Nat) (sz : Nat) (r0 : Int32) (nvt_words : Nat → Int64) (Hf : fn_Grid_turn p1 p2 p3 vt_side vt_words = some (r0, nvt_words)) : Met l y_Grid_turn w_Grid_turn rm_Grid_turn (va_Pc [.ref qt, .int p1, .int p2, .long p3] (fun U => U.heap.size = sz ∧ va_P (dC, dI) cl_All (ww_Grid_turn qt qt_words ct_words vt_side vt_words) U.heap ∧ va_K (dC, dI) cl_All [(ct_words, .long)] U ∧ va_D (fun _ => True) (ww_Grid_turn qt qt_words ct_words vt_side vt_words) ∧ sx_T tt (va_A (ww_Grid_turn qt qt_words ct_words vt_side vt_words) sz) U U.heap)) (qc_Grid_turn dC dI (va_A (ww_Grid_turn qt qt_words ct_words vt_side vt_words) sz) r0 qt qt_words ct_words vt_side nvt_words) 0 0 (va_A (ww_Grid_turn qt qt_words ct_words vt_side vt_words) sz) := by
  refine Met.ofW (cc := prog_7_method_10_code) (maxL := 7) (ret := (some .int)) (by decide) rfl ?_
  intro p e s m args below meth c s₁ B hml hv
  obtain ⟨rfl, hsz, hP, hK, hD0, hX⟩ := hv
  have hx := B.exec; have hb := B.bytes; have hr := B.returns; have hlocks := B.notSynchronized
  have ht : ∀ w ∈ lw_g, w.before _ s = true := fun w h => atoms_spec (ws := w_Grid_turn) B.pre w (List.mem_cons_of_mem _ h)
  have hown : s.vm.findClass "SquareSymbols$Grid" = some m.cls := findClass_of_methodNamed B.named
  subst hsz
  have hD := hD0.self (sz := s.heap.size)
  generalize hAe : va_A (ww_Grid_turn qt qt_words ct_words vt_side vt_words) s.heap.size = A at hD hX ⊢
  have hA : ∀ q : Nat, s.heap.size ≤ q → A q := fun q h => by rw [← hAe]; exact Or.inr h
  have hS : va_S A s.heap s.heap [] := va_S.rf
  have hl := lv_entry ([.ref qt, .int p1, .int p2, .long p3]) (n := 7) (Nat.le_of_ble_eq_true rfl)
  rw [lg_entry_eq]
  generalize (lg_sl ([.ref qt, .int p1, .int p2, .long p3]) ++ List.replicate (7 - (lg_sl ([.ref qt, .int p1, .int p2, .long p3])).length) Slot.unset).toArray = ls at hl ⊢
  have hl : lv_has ls 7 [(0, .ref qt), (1, .int p1), (2, .int p2), (3, .long p3)] := hl
  refine lv_iload_n hx hb d_Grid_turn_0 rfl (lv_at hl 1 rfl) ?_
  refine lv_if_lt (tgt := 21) hx hb d_Grid_turn_1 (by decide) (fun c1 => ?_) (fun c1 => ?_)
  · replace Hf := sq_ite_t Hf c1
    refine lv_iconst (v := (0 : Int32)) hx hb d_Grid_turn_21 (by decide) ?_
    obtain ⟨rfl, rfl⟩ := sq_so2 Hf
    exact W.iret hx hb hr (fun t ht hW => ⟨⟨_, (), rfl, rfl, by rw [ht]; exact hP, hD⟩, hS.F ht⟩) hS.2.2 d_Grid_turn_22
  · replace Hf := sq_ite_f Hf c1
    refine lv_iload_n hx hb d_Grid_turn_4 rfl (lv_at hl 1 rfl) ?_
    refine lv_iconst (v := (3 : Int32)) hx hb d_Grid_turn_5 (by decide) ?_
    refine lv_icmp_ge (tgt := 21) hx hb d_Grid_turn_6 (by decide) (fun c2 => ?_) (fun c2 => ?_)
    · replace Hf := sq_ite_t Hf c2
      refine lv_iconst (v := (0 : Int32)) hx hb d_Grid_turn_21 (by decide) ?_
      obtain ⟨rfl, rfl⟩ := sq_so2 Hf
      exact W.iret hx hb hr (fun t ht hW => ⟨⟨_, (), rfl, rfl, by rw [ht]; exact hP, hD⟩, hS.F ht⟩) hS.2.2 d_Grid_turn_22
    · replace Hf := sq_ite_f Hf c2
      refine lv_iload_n hx hb d_Grid_turn_9 rfl (lv_at hl 2 rfl) ?_
      refine lv_if_lt (tgt := 21) hx hb d_Grid_turn_10 (by decide) (fun c3 => ?_) (fun c3 => ?_)
      · replace Hf := sq_ite_t Hf c3
        refine lv_iconst (v := (0 : Int32)) hx hb d_Grid_turn_21 (by decide) ?_
        obtain ⟨rfl, rfl⟩ := sq_so2 Hf
        exact W.iret hx hb hr (fun t ht hW => ⟨⟨_, (), rfl, rfl, by rw [ht]; exact hP, hD⟩, hS.F ht⟩) hS.2.2 d_Grid_turn_22
      · replace Hf := sq_ite_f Hf c3
        refine lv_iload_n hx hb d_Grid_turn_13 rfl (lv_at hl 2 rfl) ?_
        refine lv_aload_n hx hb d_Grid_turn_14 rfl (lv_at hl 0 rfl) ?_
        refine va_get (D := (dC, dI)) (ci := 6) (v := .int vt_side) (C := R_Grid) (T := F_Grid) (N := 2) hx hb ht i_Grid hown hK hP 0 rfl rfl 1 (by decide) (ht _ tb_210) (fun _ h9 => h9) rfl d_Grid_turn_15 ?_
        refine lv_icmp_lt (tgt := 23) hx hb d_Grid_turn_18 (by decide) (fun c4 => ?_) (fun c4 => ?_)
        · replace Hf := sq_ite_t Hf c4
          refine lv_lload_n hx hb d_Grid_turn_23 rfl (lv_at hl 3 rfl) ?_
          refine lv_aload_n hx hb d_Grid_turn_24 rfl (lv_at hl 0 rfl) ?_
          refine va_get (D := (dC, dI)) (ci := 6) (v := .int vt_side) (C := R_Grid) (T := F_Grid) (N := 2) hx hb ht i_Grid hown hK hP 0 rfl rfl 1 (by decide) (ht _ tb_210) (fun _ h9 => h9) rfl d_Grid_turn_25 ?_
          refine lv_bipush (v := (64 : Int32)) hx hb d_Grid_turn_28 (by decide) ?_
          refine lv_iload_n hx hb d_Grid_turn_30 rfl (lv_at hl 1 rfl) ?_
          refine lv_imul hx hb d_Grid_turn_31 ?_
          refine lv_isub hx hb d_Grid_turn_32 ?_
          obtain ⟨u5, hc6, Hf⟩ := sq_cb1_e Hf
          refine sq_rol (va_runSN (As := [.int (vt_side - ((64 : Int32) * p1))]) (rest := [.long p3]) ⟨hx, hb, hml, hown, ht⟩ (kt_Sq_lowBits l dC dI (vt_side - ((64 : Int32) * p1)) u5 hc6) ⟨va_cnB 1 ht (sq_g1 tb_343) rfl rfl rfl hX.n341 (ht _ tb_1) (by decide +kernel) ⟨Nat.le_of_ble_eq_true rfl, Nat.le_of_ble_eq_true rfl⟩, ht _ tb_342, trivial⟩ (sq_roS (hP.sub (ws' := ([] : va_W)) [] rfl) (hK.sub (tys' := []) [] rfl)) rfl rfl hl.1 rfl (lv_room (Nat.le_of_ble_eq_true rfl)) d_Grid_turn_33 ⟨Nat.le_of_ble_eq_true rfl, Nat.le_of_ble_eq_true rfl⟩) ?_
          refine lv_land hx hb d_Grid_turn_36 ?_
          obtain ⟨w7, ew7, Hf⟩ := sq_bd_e Hf
          refine sq_topl ew7 ?_
          refine lv_lstore (lv' := [(5, .long w7), (0, .ref qt), (1, .int p1), (2, .int p2), (3, .long p3)]) hx hb d_Grid_turn_37 hl (by decide) rfl (fun ls hl => ?_)
          refine lv_aload_n hx hb d_Grid_turn_39 rfl (lv_at hl 1 rfl) ?_
          refine va_get (D := (dC, dI)) (ci := 6) (v := .ref qt_words) (C := R_Grid) (T := F_Grid) (N := 2) hx hb ht i_Grid hown hK hP 0 rfl rfl 0 (by decide) (ht _ tb_209) (fun _ h9 => h9) rfl d_Grid_turn_40 ?_
          refine lv_iconst (v := (3 : Int32)) hx hb d_Grid_turn_43 (by decide) ?_
          refine lv_iload_n hx hb d_Grid_turn_44 rfl (lv_at hl 3 rfl) ?_
          refine lv_imul hx hb d_Grid_turn_45 ?_
          refine lv_iload_n hx hb d_Grid_turn_46 rfl (lv_at hl 2 rfl) ?_
          refine lv_iadd hx hb d_Grid_turn_47 ?_
          obtain ⟨x8, ex8, Hf⟩ := sq_bd_e Hf
          refine sq_top ex8 ?_
          refine lv_dup2_11 hx hb d_Grid_turn_48 rfl rfl ?_
          obtain ⟨hi9, Hf⟩ := sq_gi_e Hf
          refine va_lald hx hb hK hP 1 0 rfl rfl hi9 d_Grid_turn_49 ?_
          obtain ⟨w10, ew10, Hf⟩ := sq_bd_e Hf
          refine sq_topl ew10 ?_
          refine lv_lload hx hb d_Grid_turn_50 (lv_at hl 0 rfl) ?_
          refine lv_lxor hx hb d_Grid_turn_52 ?_
          obtain ⟨w11, ew11, Hf⟩ := sq_bd_e Hf
          refine sq_topl ew11 ?_
          obtain ⟨hi12, Hf⟩ := sq_gi_e Hf
          obtain ⟨b13, eb13, Hf⟩ := sq_bd_e Hf
          refine va_last hx hb hK hP hD hS 1 0 rfl rfl hi12 d_Grid_turn_53 (fun H locs hP hD hS => ?_)
          rw [← eb13] at hP hD
          replace hP : va_P (dC, dI) cl_All (ww_Grid_turn qt qt_words ct_words vt_side b13) H := hP
          replace hD : va_D A (ww_Grid_turn qt qt_words ct_words vt_side b13) := hD
          refine lv_lload hx hb d_Grid_turn_54 (lv_at hl 0 rfl) ?_
          obtain ⟨r14, hc15, Hf⟩ := sq_cb1_e Hf
          refine sq_roi (va_runS (As := [.long w7]) (rest := []) ⟨hx, hb, hml, hown, ht⟩ (kt_JLong_bitCount l dC dI w7 r14 hc15) (va_cwS 1 ht (sq_gS tb_345 tb_346 tb_26 tb_347) rfl rfl rfl (by decide +kernel) ⟨Nat.le_of_ble_eq_true rfl, Nat.le_of_ble_eq_true rfl⟩) (sq_roS (hP.sub (ws' := ([] : va_W)) [] rfl) (hK.sub (tys' := []) [] rfl)) rfl rfl hl.1 rfl (lv_room (Nat.le_of_ble_eq_true rfl)) d_Grid_turn_56 ⟨Nat.le_of_ble_eq_true rfl, Nat.le_of_ble_eq_true rfl⟩) ?_
          obtain ⟨rfl, rfl⟩ := sq_so2 Hf
          exact W.iret hx hb hr (fun t ht hW => ⟨⟨_, (), rfl, rfl, by rw [ht]; exact hP, hD⟩, hS.F ht⟩) hS.2.2 d_Grid_turn_59
        · replace Hf := sq_ite_f Hf c4
          refine lv_iconst (v := (0 : Int32)) hx hb d_Grid_turn_21 (by decide) ?_
          obtain ⟨rfl, rfl⟩ := sq_so2 Hf
          exact W.iret hx hb hr (fun t ht hW => ⟨⟨_, (), rfl, rfl, by rw [ht]; exact hP, hD⟩, hS.F ht⟩) hS.2.2 d_Grid_turn_22

def fn_Grid_turnFrom (p1 : Int32) (p2 : Int32) (p3 : Int64) (vt_side : Int32) (vt_words : Nat → Int64) : Option (Int32 × (Nat → Int64)) :=
  if p2 < 0 then (some ((0 : Int32), vt_words)) else (if vt_side ≤ p2 then (some ((0 : Int32), vt_words)) else (if vt_side ≤ p1 then (some ((0 : Int32), vt_words)) else (if (-64 : Int32) < p1 then (if 0 ≤ p1 then (sq_bd (p1 >>> ((6 : Int32) &&& 31)) fun x6 => sq_bd (p1 &&& (63 : Int32)) fun x7 => sq_bd (sq_lshl p3 x7) fun w8 => sq_cb2 (fn_Grid_turn x6 p2 w8 vt_side vt_words) fun r9 b10 => if x7 = 0 then (some (r9, b10)) else (sq_bd (sq_lushr p3 ((64 : Int32) - x7)) fun w13 => sq_cb2 (fn_Grid_turn (x6 + (1 : Int32)) p2 w13 vt_side b10) fun r14 b15 => some (r9 + r14, b15))) else (sq_bd (sq_lushr p3 (-p1)) fun w17 => sq_cb2 (fn_Grid_turn (0 : Int32) p2 w17 vt_side vt_words) fun r18 b19 => some (r18, b19))) else (some ((0 : Int32), vt_words)))))
abbrev ww_Grid_turnFrom (qt qt_words : Nat) (ct_words : ClassId) (vt_side : Int32) (vt_words : Nat → Int64) : va_W := [(qt, .inr (6, [.ref qt_words, .int vt_side])), (qt_words, .inl (ct_words, 531, .inr (.inl vt_words)))]

def rm_Grid_turnFrom : Room := { frames := 2, cells := 0, slots := 0, locals := 47 }
abbrev qc_Grid_turnFrom (dC : Nat → ClassId) (dI : Nat → Nat → Nat) (A : Nat → Prop) (r0 : Int32) (qt qt_words : Nat) (ct_words : ClassId) (vt_side : Int32) (vt_words : Nat → Int64) : Array Value → State → Outcome → State → Prop := va_Qi (fun r (_ : Unit) => r = r0) (fun _ t => va_P (dC, dI) cl_All (ww_Grid_turnFrom qt qt_words ct_words vt_side vt_words) t.heap ∧ va_D A (ww_Grid_turnFrom qt qt_words ct_words vt_side vt_words)) A

set_option maxHeartbeats 4000000 in
set_option maxRecDepth 100000 in
theorem kt_Grid_turnFrom (l : Launch) (dC : Nat → ClassId) (dI : Nat → Nat → Nat) (qt qt_words : Nat) (ct_words : ClassId) (vt_side : Int32) (vt_words : Nat → Int64) (p1 : Int32) (p2 : Int32) (p3 : Int64) (tt : Nat → Nat) (sz : Nat) (r0 : Int32) (nvt_words : Nat → Int64) (Hf : fn_Grid_turnFrom p1 p2 p3 vt_side vt_words = some (r0, nvt_words)) : Met l y_Grid_turnFrom w_Grid_turnFrom rm_Grid_turnFrom (va_Pc [.ref qt, .int p1, .int p2, .long p3] (fun U => U.heap.size = sz ∧ va_P (dC, dI) cl_All (ww_Grid_turnFrom qt qt_words ct_words vt_side vt_words) U.heap ∧ va_K (dC, dI) cl_All [(ct_words, .long)] U ∧ va_D (fun _ => True) (ww_Grid_turnFrom qt qt_words ct_words vt_side vt_words) ∧ sx_T tt (va_A (ww_Grid_turnFrom qt qt_words ct_words vt_side vt_words) sz) U U.heap)) (qc_Grid_turnFrom dC dI (va_A (ww_Grid_turnFrom qt qt_words ct_words vt_side vt_words) sz) r0 qt qt_words ct_words vt_side nvt_words) 0 0 (va_A (ww_Grid_turnFrom qt qt_words ct_words vt_side vt_words) sz) := by
  refine Met.ofW (cc := prog_7_method_9_code) (maxL := 8) (ret := (some .int)) (by decide) rfl ?_
  intro p e s m args below meth c s₁ B hml hv
  obtain ⟨rfl, hsz, hP, hK, hD0, hX⟩ := hv
  have hx := B.exec; have hb := B.bytes; have hr := B.returns; have hlocks := B.notSynchronized
  have ht : ∀ w ∈ lw_g, w.before _ s = true := fun w h => atoms_spec (ws := w_Grid_turnFrom) B.pre w (List.mem_cons_of_mem _ h)
  have hown : s.vm.findClass "SquareSymbols$Grid" = some m.cls := findClass_of_methodNamed B.named
  subst hsz
  have hD := hD0.self (sz := s.heap.size)
  generalize hAe : va_A (ww_Grid_turnFrom qt qt_words ct_words vt_side vt_words) s.heap.size = A at hD hX ⊢
  have hA : ∀ q : Nat, s.heap.size ≤ q → A q := fun q h => by rw [← hAe]; exact Or.inr h
  have hS : va_S A s.heap s.heap [] := va_S.rf
  have hl := lv_entry ([.ref qt, .int p1, .int p2, .long p3]) (n := 8) (Nat.le_of_ble_eq_true rfl)
  rw [lg_entry_eq]
  generalize (lg_sl ([.ref qt, .int p1, .int p2, .long p3]) ++ List.replicate (8 - (lg_sl ([.ref qt, .int p1, .int p2, .long p3])).length) Slot.unset).toArray = ls at hl ⊢
  have hl : lv_has ls 8 [(0, .ref qt), (1, .int p1), (2, .int p2), (3, .long p3)] := hl
  refine lv_iload_n hx hb d_Grid_turnFrom_0 rfl (lv_at hl 2 rfl) ?_
  refine lv_if_lt (tgt := 26) hx hb d_Grid_turnFrom_1 (by decide) (fun c1 => ?_) (fun c1 => ?_)
  · replace Hf := sq_ite_t Hf c1
    refine lv_iconst (v := (0 : Int32)) hx hb d_Grid_turnFrom_26 (by decide) ?_
    obtain ⟨rfl, rfl⟩ := sq_so2 Hf
    exact W.iret hx hb hr (fun t ht hW => ⟨⟨_, (), rfl, rfl, by rw [ht]; exact hP, hD⟩, hS.F ht⟩) hS.2.2 d_Grid_turnFrom_27
  · replace Hf := sq_ite_f Hf c1
    refine lv_iload_n hx hb d_Grid_turnFrom_4 rfl (lv_at hl 2 rfl) ?_
    refine lv_aload_n hx hb d_Grid_turnFrom_5 rfl (lv_at hl 0 rfl) ?_
    refine va_get (D := (dC, dI)) (ci := 6) (v := .int vt_side) (C := R_Grid) (T := F_Grid) (N := 2) hx hb ht i_Grid hown hK hP 0 rfl rfl 1 (by decide) (ht _ tb_210) (fun _ h9 => h9) rfl d_Grid_turnFrom_6 ?_
    refine lv_icmp_ge (tgt := 26) hx hb d_Grid_turnFrom_9 (by decide) (fun c2 => ?_) (fun c2 => ?_)
    · replace Hf := sq_ite_t Hf c2
      refine lv_iconst (v := (0 : Int32)) hx hb d_Grid_turnFrom_26 (by decide) ?_
      obtain ⟨rfl, rfl⟩ := sq_so2 Hf
      exact W.iret hx hb hr (fun t ht hW => ⟨⟨_, (), rfl, rfl, by rw [ht]; exact hP, hD⟩, hS.F ht⟩) hS.2.2 d_Grid_turnFrom_27
    · replace Hf := sq_ite_f Hf c2
      refine lv_iload_n hx hb d_Grid_turnFrom_12 rfl (lv_at hl 1 rfl) ?_
      refine lv_aload_n hx hb d_Grid_turnFrom_13 rfl (lv_at hl 0 rfl) ?_
      refine va_get (D := (dC, dI)) (ci := 6) (v := .int vt_side) (C := R_Grid) (T := F_Grid) (N := 2) hx hb ht i_Grid hown hK hP 0 rfl rfl 1 (by decide) (ht _ tb_210) (fun _ h9 => h9) rfl d_Grid_turnFrom_14 ?_
      refine lv_icmp_ge (tgt := 26) hx hb d_Grid_turnFrom_17 (by decide) (fun c3 => ?_) (fun c3 => ?_)
      · replace Hf := sq_ite_t Hf c3
        refine lv_iconst (v := (0 : Int32)) hx hb d_Grid_turnFrom_26 (by decide) ?_
        obtain ⟨rfl, rfl⟩ := sq_so2 Hf
        exact W.iret hx hb hr (fun t ht hW => ⟨⟨_, (), rfl, rfl, by rw [ht]; exact hP, hD⟩, hS.F ht⟩) hS.2.2 d_Grid_turnFrom_27
      · replace Hf := sq_ite_f Hf c3
        refine lv_iload_n hx hb d_Grid_turnFrom_20 rfl (lv_at hl 1 rfl) ?_
        refine lv_bipush (v := (-64 : Int32)) hx hb d_Grid_turnFrom_21 (by decide) ?_
        refine lv_icmp_gt (tgt := 28) hx hb d_Grid_turnFrom_23 (by decide) (fun c4 => ?_) (fun c4 => ?_)
        · replace Hf := sq_ite_t Hf c4
          refine lv_iload_n hx hb d_Grid_turnFrom_28 rfl (lv_at hl 1 rfl) ?_
          refine lv_if_ge (tgt := 43) hx hb d_Grid_turnFrom_29 (by decide) (fun c5 => ?_) (fun c5 => ?_)
          · replace Hf := sq_ite_t Hf c5
            refine lv_iload_n hx hb d_Grid_turnFrom_43 rfl (lv_at hl 1 rfl) ?_
            refine lv_bipush (v := (6 : Int32)) hx hb d_Grid_turnFrom_44 (by decide) ?_
            refine lv_ishr hx hb d_Grid_turnFrom_46 ?_
            obtain ⟨x6, ex6, Hf⟩ := sq_bd_e Hf
            refine sq_top ex6 ?_
            refine lv_istore (lv' := [(5, .int x6), (0, .ref qt), (1, .int p1), (2, .int p2), (3, .long p3)]) hx hb d_Grid_turnFrom_47 hl (by decide) rfl (fun ls hl => ?_)
            refine lv_iload_n hx hb d_Grid_turnFrom_49 rfl (lv_at hl 2 rfl) ?_
            refine lv_bipush (v := (63 : Int32)) hx hb d_Grid_turnFrom_50 (by decide) ?_
            refine lv_iand hx hb d_Grid_turnFrom_52 ?_
            obtain ⟨x7, ex7, Hf⟩ := sq_bd_e Hf
            refine sq_top ex7 ?_
            refine lv_istore (lv' := [(6, .int x7), (5, .int x6), (0, .ref qt), (1, .int p1), (2, .int p2), (3, .long p3)]) hx hb d_Grid_turnFrom_53 hl (by decide) rfl (fun ls hl => ?_)
            refine lv_aload_n hx hb d_Grid_turnFrom_55 rfl (lv_at hl 2 rfl) ?_
            refine lv_iload hx hb d_Grid_turnFrom_56 (lv_at hl 1 rfl) ?_
            refine lv_iload_n hx hb d_Grid_turnFrom_58 rfl (lv_at hl 4 rfl) ?_
            refine lv_lload_n hx hb d_Grid_turnFrom_59 rfl (lv_at hl 5 rfl) ?_
            refine lv_iload hx hb d_Grid_turnFrom_60 (lv_at hl 0 rfl) ?_
            refine lv_lshl hx hb d_Grid_turnFrom_62 rfl ?_
            obtain ⟨w8, ew8, Hf⟩ := sq_bd_e Hf
            refine sq_topl ew8 ?_
            obtain ⟨r9, b10, hc11, Hf⟩ := sq_cb2_e Hf
            refine sq_rwi (wn := (ww_Grid_turnFrom qt qt_words ct_words vt_side b10)) (va_runV (As := [.int x6, .int p2, .long w8]) (rest := []) ⟨hx, hb, hml, hown, ht⟩ (kt_Grid_turn l dC dI qt qt_words ct_words vt_side vt_words x6 p2 w8 tt s.heap.size r9 b10 hc11) (cwV 3 ht (sq_gV tb_337 tb_338 tb_339 tb_8 tb_340) rfl rfl rfl (by decide +kernel) ⟨Nat.le_of_ble_eq_true rfl, Nat.le_of_ble_eq_true rfl⟩) (sq_rwVX (hP.sub (ws' := (ww_Grid_turn qt qt_words ct_words vt_side vt_words)) [0, 1] rfl) (hK.sub (tys' := [(ct_words, .long)]) [0] rfl) (hD.sub (ws' := (ww_Grid_turn qt qt_words ct_words vt_side vt_words)) [0, 1] (by decide) rfl) (va_recv hK hP (ci := 6) (q0 := 0) rfl rfl) hX hS (va_free (wc := (ww_Grid_turn qt qt_words ct_words vt_side vt_words)) hD hS hA [0, 1] rfl)) rfl rfl hl.1 rfl (lv_room (Nat.le_of_ble_eq_true rfl)) d_Grid_turnFrom_63 ⟨Nat.le_of_ble_eq_true rfl, Nat.le_of_ble_eq_true rfl⟩) hP hD hS hA [0, 1] [] [0, 1] rfl rfl (by decide) (by decide) rfl (by decide) (fun H locs hP hD hS => ?_)
            refine lv_istore (lv' := [(7, .int r9), (6, .int x7), (5, .int x6), (0, .ref qt), (1, .int p1), (2, .int p2), (3, .long p3)]) hx hb d_Grid_turnFrom_66 hl (by decide) rfl (fun ls hl => ?_)
            refine lv_iload hx hb d_Grid_turnFrom_68 (lv_at hl 1 rfl) ?_
            refine lv_if_ne (tgt := 78) hx hb d_Grid_turnFrom_70 (by decide) (fun c12 => ?_) (fun c12 => ?_)
            · replace Hf := sq_ite_f Hf c12
              refine lv_iload hx hb d_Grid_turnFrom_78 (lv_at hl 0 rfl) ?_
              refine lv_aload_n hx hb d_Grid_turnFrom_80 rfl (lv_at hl 3 rfl) ?_
              refine lv_iload hx hb d_Grid_turnFrom_81 (lv_at hl 2 rfl) ?_
              refine lv_iconst (v := (1 : Int32)) hx hb d_Grid_turnFrom_83 (by decide) ?_
              refine lv_iadd hx hb d_Grid_turnFrom_84 ?_
              refine lv_iload_n hx hb d_Grid_turnFrom_85 rfl (lv_at hl 5 rfl) ?_
              refine lv_lload_n hx hb d_Grid_turnFrom_86 rfl (lv_at hl 6 rfl) ?_
              refine lv_bipush (v := (64 : Int32)) hx hb d_Grid_turnFrom_87 (by decide) ?_
              refine lv_iload hx hb d_Grid_turnFrom_89 (lv_at hl 1 rfl) ?_
              refine lv_isub hx hb d_Grid_turnFrom_91 ?_
              refine lv_lushr hx hb d_Grid_turnFrom_92 rfl ?_
              obtain ⟨w13, ew13, Hf⟩ := sq_bd_e Hf
              refine sq_topl ew13 ?_
              obtain ⟨r14, b15, hc16, Hf⟩ := sq_cb2_e Hf
              refine sq_rwi (wn := (ww_Grid_turnFrom qt qt_words ct_words vt_side b15)) (va_runV (As := [.int (x6 + (1 : Int32)), .int p2, .long w13]) (rest := [.int r9]) ⟨hx, hb, hml, hown, ht⟩ (kt_Grid_turn l dC dI qt qt_words ct_words vt_side b10 (x6 + (1 : Int32)) p2 w13 tt H.size r14 b15 hc16) (cwV 3 ht (sq_gV tb_337 tb_338 tb_339 tb_8 tb_340) rfl rfl rfl (by decide +kernel) ⟨Nat.le_of_ble_eq_true rfl, Nat.le_of_ble_eq_true rfl⟩) (sq_rwVX (hP.sub (ws' := (ww_Grid_turn qt qt_words ct_words vt_side b10)) [0, 1] rfl) (hK.sub (tys' := [(ct_words, .long)]) [0] rfl) (hD.sub (ws' := (ww_Grid_turn qt qt_words ct_words vt_side b10)) [0, 1] (by decide) rfl) (va_recv hK hP (ci := 6) (q0 := 0) rfl rfl) hX hS (va_free (wc := (ww_Grid_turn qt qt_words ct_words vt_side b10)) hD hS hA [0, 1] rfl)) rfl rfl hl.1 rfl (lv_room (Nat.le_of_ble_eq_true rfl)) d_Grid_turnFrom_93 ⟨Nat.le_of_ble_eq_true rfl, Nat.le_of_ble_eq_true rfl⟩) hP hD hS hA [0, 1] [] [0, 1] rfl rfl (by decide) (by decide) rfl (by decide) (fun H locs hP hD hS => ?_)
              refine lv_iadd hx hb d_Grid_turnFrom_96 ?_
              obtain ⟨rfl, rfl⟩ := sq_so2 Hf
              exact W.iret hx hb hr (fun t ht hW => ⟨⟨_, (), rfl, rfl, by rw [ht]; exact hP, hD⟩, hS.F ht⟩) hS.2.2 d_Grid_turnFrom_97
            · replace Hf := sq_ite_t Hf c12
              refine lv_iload hx hb d_Grid_turnFrom_73 (lv_at hl 0 rfl) ?_
              refine lv_goto (tgt := 97) hx hb d_Grid_turnFrom_75 (by decide) ?_
              obtain ⟨rfl, rfl⟩ := sq_so2 Hf
              exact W.iret hx hb hr (fun t ht hW => ⟨⟨_, (), rfl, rfl, by rw [ht]; exact hP, hD⟩, hS.F ht⟩) hS.2.2 d_Grid_turnFrom_97
          · replace Hf := sq_ite_f Hf c5
            refine lv_aload_n hx hb d_Grid_turnFrom_32 rfl (lv_at hl 0 rfl) ?_
            refine lv_iconst (v := (0 : Int32)) hx hb d_Grid_turnFrom_33 (by decide) ?_
            refine lv_iload_n hx hb d_Grid_turnFrom_34 rfl (lv_at hl 2 rfl) ?_
            refine lv_lload_n hx hb d_Grid_turnFrom_35 rfl (lv_at hl 3 rfl) ?_
            refine lv_iload_n hx hb d_Grid_turnFrom_36 rfl (lv_at hl 1 rfl) ?_
            refine lv_ineg hx hb d_Grid_turnFrom_37 ?_
            refine lv_lushr hx hb d_Grid_turnFrom_38 rfl ?_
            obtain ⟨w17, ew17, Hf⟩ := sq_bd_e Hf
            refine sq_topl ew17 ?_
            obtain ⟨r18, b19, hc20, Hf⟩ := sq_cb2_e Hf
            refine sq_rwi (wn := (ww_Grid_turnFrom qt qt_words ct_words vt_side b19)) (va_runV (As := [.int (0 : Int32), .int p2, .long w17]) (rest := []) ⟨hx, hb, hml, hown, ht⟩ (kt_Grid_turn l dC dI qt qt_words ct_words vt_side vt_words (0 : Int32) p2 w17 tt s.heap.size r18 b19 hc20) (cwV 3 ht (sq_gV tb_337 tb_338 tb_339 tb_8 tb_340) rfl rfl rfl (by decide +kernel) ⟨Nat.le_of_ble_eq_true rfl, Nat.le_of_ble_eq_true rfl⟩) (sq_rwVX (hP.sub (ws' := (ww_Grid_turn qt qt_words ct_words vt_side vt_words)) [0, 1] rfl) (hK.sub (tys' := [(ct_words, .long)]) [0] rfl) (hD.sub (ws' := (ww_Grid_turn qt qt_words ct_words vt_side vt_words)) [0, 1] (by decide) rfl) (va_recv hK hP (ci := 6) (q0 := 0) rfl rfl) hX hS (va_free (wc := (ww_Grid_turn qt qt_words ct_words vt_side vt_words)) hD hS hA [0, 1] rfl)) rfl rfl hl.1 rfl (lv_room (Nat.le_of_ble_eq_true rfl)) d_Grid_turnFrom_39 ⟨Nat.le_of_ble_eq_true rfl, Nat.le_of_ble_eq_true rfl⟩) hP hD hS hA [0, 1] [] [0, 1] rfl rfl (by decide) (by decide) rfl (by decide) (fun H locs hP hD hS => ?_)
            obtain ⟨rfl, rfl⟩ := sq_so2 Hf
            exact W.iret hx hb hr (fun t ht hW => ⟨⟨_, (), rfl, rfl, by rw [ht]; exact hP, hD⟩, hS.F ht⟩) hS.2.2 d_Grid_turnFrom_42
        · replace Hf := sq_ite_f Hf c4
          refine lv_iconst (v := (0 : Int32)) hx hb d_Grid_turnFrom_26 (by decide) ?_
          obtain ⟨rfl, rfl⟩ := sq_so2 Hf
          exact W.iret hx hb hr (fun t ht hW => ⟨⟨_, (), rfl, rfl, by rw [ht]; exact hP, hD⟩, hS.F ht⟩) hS.2.2 d_Grid_turnFrom_27

def fn_Grid_side (vt_side : Int32) : Option (Int32) :=
  some (vt_side)
abbrev ww_Grid_side (qt qt_words : Nat) (vt_side : Int32) : va_W := [(qt, .inr (6, [.ref qt_words, .int vt_side]))]

def rm_Grid_side : Room := { frames := 0, cells := 0, slots := 0, locals := 0 }
abbrev qc_Grid_side (r0 : Int32) : Array Value → State → Outcome → State → Prop := vp_Si (fun r => r = r0)

set_option maxHeartbeats 4000000 in
set_option maxRecDepth 100000 in
theorem kt_Grid_side (l : Launch) (dC : Nat → ClassId) (dI : Nat → Nat → Nat) (qt qt_words : Nat) (vt_side : Int32) (r0 : Int32) (Hf : fn_Grid_side vt_side = some r0) : Met l y_Grid_side w_Grid_side rm_Grid_side (va_Pc [.ref qt] (fun U => va_P (dC, dI) cl_All (ww_Grid_side qt qt_words vt_side) U.heap ∧ va_K (dC, dI) cl_All [] U)) (qc_Grid_side r0) 0 0 (fun _ => False) := by
  refine Met.ofW (cc := prog_7_method_2_code) (maxL := 1) (ret := (some .int)) (by decide) rfl ?_
  intro p e s m args below meth c s₁ B hml hv
  obtain ⟨rfl, hP, hK⟩ := hv
  have hx := B.exec; have hb := B.bytes; have hr := B.returns; have hlocks := B.notSynchronized
  have ht : ∀ w ∈ lw_g, w.before _ s = true := fun w h => atoms_spec (ws := w_Grid_side) B.pre w (List.mem_cons_of_mem _ h)
  have hown : s.vm.findClass "SquareSymbols$Grid" = some m.cls := findClass_of_methodNamed B.named
  have hl := lv_entry ([.ref qt]) (n := 1) (Nat.le_of_ble_eq_true rfl)
  rw [lg_entry_eq]
  generalize (lg_sl ([.ref qt]) ++ List.replicate (1 - (lg_sl ([.ref qt])).length) Slot.unset).toArray = ls at hl ⊢
  have hl : lv_has ls 1 [(0, .ref qt)] := hl
  refine lv_aload_n hx hb d_Grid_side_0 rfl (lv_at hl 0 rfl) ?_
  refine va_get (D := (dC, dI)) (ci := 6) (v := .int vt_side) (C := R_Grid) (T := F_Grid) (N := 2) hx hb ht i_Grid hown hK hP 0 rfl rfl 1 (by decide) (ht _ tb_210) (fun _ h9 => h9) rfl d_Grid_side_1 ?_
  have er := Option.some.inj Hf
  exact W.iret hx hb hr (fun t ht hW => ⟨_, rfl, er, ht⟩) (fun q h => by cases h) d_Grid_side_4

def fn_Grid_isInside (p1 : Int32) (p2 : Int32) (vt_side : Int32) : Option (Int32) :=
  if p1 < 0 then (some ((0 : Int32))) else (if vt_side ≤ p1 then (some ((0 : Int32))) else (if p2 < 0 then (some ((0 : Int32))) else (if vt_side ≤ p2 then (some ((0 : Int32))) else (some ((1 : Int32))))))
abbrev ww_Grid_isInside (qt qt_words : Nat) (vt_side : Int32) : va_W := [(qt, .inr (6, [.ref qt_words, .int vt_side]))]

def rm_Grid_isInside : Room := { frames := 0, cells := 0, slots := 0, locals := 0 }
abbrev qc_Grid_isInside (r0 : Int32) : Array Value → State → Outcome → State → Prop := vp_Si (fun r => r = r0)

set_option maxHeartbeats 4000000 in
set_option maxRecDepth 100000 in
theorem kt_Grid_isInside (l : Launch) (dC : Nat → ClassId) (dI : Nat → Nat → Nat) (qt qt_words : Nat) (vt_side : Int32) (p1 : Int32) (p2 : Int32) (r0 : Int32) (Hf : fn_Grid_isInside p1 p2 vt_side = some r0) : Met l y_Grid_isInside w_Grid_isInside rm_Grid_isInside (va_Pc [.ref qt, .int p1, .int p2] (fun U => va_P (dC, dI) cl_All (ww_Grid_isInside qt qt_words vt_side) U.heap ∧ va_K (dC, dI) cl_All [] U)) (qc_Grid_isInside r0) 0 0 (fun _ => False) := by
  refine Met.ofW (cc := prog_7_method_5_code) (maxL := 3) (ret := (some .boolean)) (by decide) rfl ?_
  intro p e s m args below meth c s₁ B hml hv
  obtain ⟨rfl, hP, hK⟩ := hv
  have hx := B.exec; have hb := B.bytes; have hr := B.returns; have hlocks := B.notSynchronized
  have ht : ∀ w ∈ lw_g, w.before _ s = true := fun w h => atoms_spec (ws := w_Grid_isInside) B.pre w (List.mem_cons_of_mem _ h)
  have hown : s.vm.findClass "SquareSymbols$Grid" = some m.cls := findClass_of_methodNamed B.named
  have hl := lv_entry ([.ref qt, .int p1, .int p2]) (n := 3) (Nat.le_of_ble_eq_true rfl)
  rw [lg_entry_eq]
  generalize (lg_sl ([.ref qt, .int p1, .int p2]) ++ List.replicate (3 - (lg_sl ([.ref qt, .int p1, .int p2])).length) Slot.unset).toArray = ls at hl ⊢
  have hl : lv_has ls 3 [(0, .ref qt), (1, .int p1), (2, .int p2)] := hl
  refine lv_iload_n hx hb d_Grid_isInside_0 rfl (lv_at hl 1 rfl) ?_
  refine lv_if_lt (tgt := 28) hx hb d_Grid_isInside_1 (by decide) (fun c1 => ?_) (fun c1 => ?_)
  · replace Hf := sq_ite_t Hf c1
    refine lv_iconst (v := (0 : Int32)) hx hb d_Grid_isInside_28 (by decide) ?_
    have er := Option.some.inj Hf
    exact W.zret hx hb hr rfl (fun t ht hW => ⟨_, rfl, er, ht⟩) (fun q h => by cases h) d_Grid_isInside_29
  · replace Hf := sq_ite_f Hf c1
    refine lv_iload_n hx hb d_Grid_isInside_4 rfl (lv_at hl 1 rfl) ?_
    refine lv_aload_n hx hb d_Grid_isInside_5 rfl (lv_at hl 0 rfl) ?_
    refine va_get (D := (dC, dI)) (ci := 6) (v := .int vt_side) (C := R_Grid) (T := F_Grid) (N := 2) hx hb ht i_Grid hown hK hP 0 rfl rfl 1 (by decide) (ht _ tb_210) (fun _ h9 => h9) rfl d_Grid_isInside_6 ?_
    refine lv_icmp_ge (tgt := 28) hx hb d_Grid_isInside_9 (by decide) (fun c2 => ?_) (fun c2 => ?_)
    · replace Hf := sq_ite_t Hf c2
      refine lv_iconst (v := (0 : Int32)) hx hb d_Grid_isInside_28 (by decide) ?_
      have er := Option.some.inj Hf
      exact W.zret hx hb hr rfl (fun t ht hW => ⟨_, rfl, er, ht⟩) (fun q h => by cases h) d_Grid_isInside_29
    · replace Hf := sq_ite_f Hf c2
      refine lv_iload_n hx hb d_Grid_isInside_12 rfl (lv_at hl 2 rfl) ?_
      refine lv_if_lt (tgt := 28) hx hb d_Grid_isInside_13 (by decide) (fun c3 => ?_) (fun c3 => ?_)
      · replace Hf := sq_ite_t Hf c3
        refine lv_iconst (v := (0 : Int32)) hx hb d_Grid_isInside_28 (by decide) ?_
        have er := Option.some.inj Hf
        exact W.zret hx hb hr rfl (fun t ht hW => ⟨_, rfl, er, ht⟩) (fun q h => by cases h) d_Grid_isInside_29
      · replace Hf := sq_ite_f Hf c3
        refine lv_iload_n hx hb d_Grid_isInside_16 rfl (lv_at hl 2 rfl) ?_
        refine lv_aload_n hx hb d_Grid_isInside_17 rfl (lv_at hl 0 rfl) ?_
        refine va_get (D := (dC, dI)) (ci := 6) (v := .int vt_side) (C := R_Grid) (T := F_Grid) (N := 2) hx hb ht i_Grid hown hK hP 0 rfl rfl 1 (by decide) (ht _ tb_210) (fun _ h9 => h9) rfl d_Grid_isInside_18 ?_
        refine lv_icmp_ge (tgt := 28) hx hb d_Grid_isInside_21 (by decide) (fun c4 => ?_) (fun c4 => ?_)
        · replace Hf := sq_ite_t Hf c4
          refine lv_iconst (v := (0 : Int32)) hx hb d_Grid_isInside_28 (by decide) ?_
          have er := Option.some.inj Hf
          exact W.zret hx hb hr rfl (fun t ht hW => ⟨_, rfl, er, ht⟩) (fun q h => by cases h) d_Grid_isInside_29
        · replace Hf := sq_ite_f Hf c4
          refine lv_iconst (v := (1 : Int32)) hx hb d_Grid_isInside_24 (by decide) ?_
          refine lv_goto (tgt := 29) hx hb d_Grid_isInside_25 (by decide) ?_
          have er := Option.some.inj Hf
          exact W.zret hx hb hr rfl (fun t ht hW => ⟨_, rfl, er, ht⟩) (fun q h => by cases h) d_Grid_isInside_29

def fn_Grid_isDark (p1 : Int32) (p2 : Int32) (vt_side : Int32) (vt_words : Nat → Int64) : Option (Int32) :=
  sq_cb1 (fn_Grid_isInside p1 p2 vt_side) fun r1 => if r1 = 0 then (some ((0 : Int32))) else (sq_bd (((3 : Int32) * p2) + (p1 >>> ((6 : Int32) &&& 31))) fun x4 => sq_gi x4 531 <| sq_bd (vt_words x4.toNatClampNeg) fun w6 => sq_bd (sq_lushr w6 (p1 &&& (63 : Int32))) fun w7 => sq_bd (sq_lcmp (w7 &&& (1 : Int64)) (1 : Int64)) fun x8 => if x8 = 0 then (some ((1 : Int32))) else (some ((0 : Int32))))
abbrev ww_Grid_isDark (qt qt_words : Nat) (ct_words : ClassId) (vt_side : Int32) (vt_words : Nat → Int64) : va_W := [(qt, .inr (6, [.ref qt_words, .int vt_side])), (qt_words, .inl (ct_words, 531, .inr (.inl vt_words)))]

def rm_Grid_isDark : Room := { frames := 1, cells := 0, slots := 0, locals := 22 }
abbrev qc_Grid_isDark (r0 : Int32) : Array Value → State → Outcome → State → Prop := vp_Si (fun r => r = r0)

set_option maxHeartbeats 4000000 in
set_option maxRecDepth 100000 in
theorem kt_Grid_isDark (l : Launch) (dC : Nat → ClassId) (dI : Nat → Nat → Nat) (qt qt_words : Nat) (ct_words : ClassId) (vt_side : Int32) (vt_words : Nat → Int64) (p1 : Int32) (p2 : Int32) (r0 : Int32) (Hf : fn_Grid_isDark p1 p2 vt_side vt_words = some r0) : Met l y_Grid_isDark w_Grid_isDark rm_Grid_isDark (va_Pc [.ref qt, .int p1, .int p2] (fun U => va_P (dC, dI) cl_All (ww_Grid_isDark qt qt_words ct_words vt_side vt_words) U.heap ∧ va_K (dC, dI) cl_All [(ct_words, .long)] U)) (qc_Grid_isDark r0) 0 0 (fun _ => False) := by
  refine Met.ofW (cc := prog_7_method_6_code) (maxL := 3) (ret := (some .boolean)) (by decide) rfl ?_
  intro p e s m args below meth c s₁ B hml hv
  obtain ⟨rfl, hP, hK⟩ := hv
  have hx := B.exec; have hb := B.bytes; have hr := B.returns; have hlocks := B.notSynchronized
  have ht : ∀ w ∈ lw_g, w.before _ s = true := fun w h => atoms_spec (ws := w_Grid_isDark) B.pre w (List.mem_cons_of_mem _ h)
  have hown : s.vm.findClass "SquareSymbols$Grid" = some m.cls := findClass_of_methodNamed B.named
  have hl := lv_entry ([.ref qt, .int p1, .int p2]) (n := 3) (Nat.le_of_ble_eq_true rfl)
  rw [lg_entry_eq]
  generalize (lg_sl ([.ref qt, .int p1, .int p2]) ++ List.replicate (3 - (lg_sl ([.ref qt, .int p1, .int p2])).length) Slot.unset).toArray = ls at hl ⊢
  have hl : lv_has ls 3 [(0, .ref qt), (1, .int p1), (2, .int p2)] := hl
  refine lv_aload_n hx hb d_Grid_isDark_0 rfl (lv_at hl 0 rfl) ?_
  refine lv_iload_n hx hb d_Grid_isDark_1 rfl (lv_at hl 1 rfl) ?_
  refine lv_iload_n hx hb d_Grid_isDark_2 rfl (lv_at hl 2 rfl) ?_
  obtain ⟨r1, hc2, Hf⟩ := sq_cb1_e Hf
  refine sq_roi (va_runV (As := [.int p1, .int p2]) (rest := []) ⟨hx, hb, hml, hown, ht⟩ (kt_Grid_isInside l dC dI qt qt_words vt_side p1 p2 r1 hc2) (cwV 2 ht (sq_gV tb_380 tb_382 sl_1 tb_8 tb_383) rfl rfl rfl (by decide +kernel) ⟨Nat.le_of_ble_eq_true rfl, Nat.le_of_ble_eq_true rfl⟩) (sq_roV (hP.sub (ws' := (ww_Grid_isInside qt qt_words vt_side)) [0] rfl) (hK.sub (tys' := []) [] rfl) (va_recv hK hP (ci := 6) (q0 := 0) rfl rfl)) rfl rfl hl.1 rfl (lv_room (Nat.le_of_ble_eq_true rfl)) d_Grid_isDark_3 ⟨Nat.le_of_ble_eq_true rfl, Nat.le_of_ble_eq_true rfl⟩) ?_
  refine lv_if_eq (tgt := 38) hx hb d_Grid_isDark_6 (by decide) (fun c3 => ?_) (fun c3 => ?_)
  · replace Hf := sq_ite_t Hf c3
    refine lv_iconst (v := (0 : Int32)) hx hb d_Grid_isDark_38 (by decide) ?_
    have er := Option.some.inj Hf
    exact W.zret hx hb hr rfl (fun t ht hW => ⟨_, rfl, er, ht⟩) (fun q h => by cases h) d_Grid_isDark_39
  · replace Hf := sq_ite_f Hf c3
    refine lv_aload_n hx hb d_Grid_isDark_9 rfl (lv_at hl 0 rfl) ?_
    refine va_get (D := (dC, dI)) (ci := 6) (v := .ref qt_words) (C := R_Grid) (T := F_Grid) (N := 2) hx hb ht i_Grid hown hK hP 0 rfl rfl 0 (by decide) (ht _ tb_209) (fun _ h9 => h9) rfl d_Grid_isDark_10 ?_
    refine lv_iconst (v := (3 : Int32)) hx hb d_Grid_isDark_13 (by decide) ?_
    refine lv_iload_n hx hb d_Grid_isDark_14 rfl (lv_at hl 2 rfl) ?_
    refine lv_imul hx hb d_Grid_isDark_15 ?_
    refine lv_iload_n hx hb d_Grid_isDark_16 rfl (lv_at hl 1 rfl) ?_
    refine lv_bipush (v := (6 : Int32)) hx hb d_Grid_isDark_17 (by decide) ?_
    refine lv_ishr hx hb d_Grid_isDark_19 ?_
    refine lv_iadd hx hb d_Grid_isDark_20 ?_
    obtain ⟨x4, ex4, Hf⟩ := sq_bd_e Hf
    refine sq_top ex4 ?_
    obtain ⟨hi5, Hf⟩ := sq_gi_e Hf
    refine va_lald hx hb hK hP 1 0 rfl rfl hi5 d_Grid_isDark_21 ?_
    obtain ⟨w6, ew6, Hf⟩ := sq_bd_e Hf
    refine sq_topl ew6 ?_
    refine lv_iload_n hx hb d_Grid_isDark_22 rfl (lv_at hl 1 rfl) ?_
    refine lv_bipush (v := (63 : Int32)) hx hb d_Grid_isDark_23 (by decide) ?_
    refine lv_iand hx hb d_Grid_isDark_25 ?_
    refine lv_lushr hx hb d_Grid_isDark_26 rfl ?_
    obtain ⟨w7, ew7, Hf⟩ := sq_bd_e Hf
    refine sq_topl ew7 ?_
    refine lv_lconst (v := (1 : Int64)) hx hb d_Grid_isDark_27 (by decide) ?_
    refine lv_land hx hb d_Grid_isDark_28 ?_
    refine lv_lconst (v := (1 : Int64)) hx hb d_Grid_isDark_29 (by decide) ?_
    refine W.lcmp hx hb d_Grid_isDark_30 ?_
    obtain ⟨x8, ex8, Hf⟩ := sq_bd_e Hf
    refine sq_top ex8 ?_
    refine lv_if_ne (tgt := 38) hx hb d_Grid_isDark_31 (by decide) (fun c9 => ?_) (fun c9 => ?_)
    · replace Hf := sq_ite_f Hf c9
      refine lv_iconst (v := (0 : Int32)) hx hb d_Grid_isDark_38 (by decide) ?_
      have er := Option.some.inj Hf
      exact W.zret hx hb hr rfl (fun t ht hW => ⟨_, rfl, er, ht⟩) (fun q h => by cases h) d_Grid_isDark_39
    · replace Hf := sq_ite_t Hf c9
      refine lv_iconst (v := (1 : Int32)) hx hb d_Grid_isDark_34 (by decide) ?_
      refine lv_goto (tgt := 39) hx hb d_Grid_isDark_35 (by decide) ?_
      have er := Option.some.inj Hf
      exact W.zret hx hb hr rfl (fun t ht hW => ⟨_, rfl, er, ht⟩) (fun q h => by cases h) d_Grid_isDark_39

def fn_JArrays_fill0_L1 (p2 : Int64) (lenp1 : Nat) (x1 : Int32) : Nat → Int32 → (Nat → Int64) → Option ((Nat → Int64))
  | 0, _, _ => none
  | m1 + 1, x2, b3 => if x1 ≤ x2 then (some b3) else (sq_gi x2 lenp1 <| sq_bd (vp_updL b3 x2.toNatClampNeg p2) fun b6 => sq_bd (x2 + (1 : Int32)) fun x7 => fn_JArrays_fill0_L1 p2 lenp1 x1 m1 x7 b6)
theorem fn_JArrays_fill0_L1_s (p2 : Int64) (lenp1 : Nat) (x1 : Int32) (m1 : Nat) (x2 : Int32) (b3 : Nat → Int64) : fn_JArrays_fill0_L1 p2 lenp1 x1 (m1 + 1) x2 b3 = if x1 ≤ x2 then (some b3) else (sq_gi x2 lenp1 <| sq_bd (vp_updL b3 x2.toNatClampNeg p2) fun b6 => sq_bd (x2 + (1 : Int32)) fun x7 => fn_JArrays_fill0_L1 p2 lenp1 x1 m1 x7 b6) := rfl
def fn_JArrays_fill0 (n0 : Nat) (p2 : Int64) (lenp1 : Nat) (vp1 : Nat → Int64) : Option ((Nat → Int64)) :=
  sq_bd (Int32.ofNat lenp1) fun x1 => fn_JArrays_fill0_L1 p2 lenp1 x1 n0 (0 : Int32) vp1
abbrev ww_JArrays_fill0 (qp1 : Nat) (cp1 : ClassId) (lenp1 : Nat) (vp1 : Nat → Int64) : va_W := [(qp1, .inl (cp1, lenp1, .inr (.inl vp1)))]

def rm_JArrays_fill0 : Room := { frames := 0, cells := 0, slots := 0, locals := 0 }
abbrev qc_JArrays_fill0 (dC : Nat → ClassId) (dI : Nat → Nat → Nat) (A : Nat → Prop) (qp1 : Nat) (cp1 : ClassId) (lenp1 : Nat) (vp1 : Nat → Int64) : Array Value → State → Outcome → State → Prop := va_Qv (fun (_ : Unit) => True) (fun _ t => va_P (dC, dI) cl_All (ww_JArrays_fill0 qp1 cp1 lenp1 vp1) t.heap ∧ va_D A (ww_JArrays_fill0 qp1 cp1 lenp1 vp1)) A

set_option maxHeartbeats 4000000 in
set_option maxRecDepth 100000 in
theorem kt_JArrays_fill0 (l : Launch) (dC : Nat → ClassId) (dI : Nat → Nat → Nat) (qp1 : Nat) (cp1 : ClassId) (lenp1 : Nat) (vp1 : Nat → Int64) (p2 : Int64) (sz : Nat) (n0 : Nat) (nvp1 : Nat → Int64) (Hf : fn_JArrays_fill0 n0 p2 lenp1 vp1 = some nvp1) : Met l y_JArrays_fill0 w_JArrays_fill0 rm_JArrays_fill0 (va_Pc [.ref qp1, .long p2] (fun U => U.heap.size = sz ∧ va_P (dC, dI) cl_All (ww_JArrays_fill0 qp1 cp1 lenp1 vp1) U.heap ∧ va_K (dC, dI) cl_All [(cp1, .long)] U ∧ va_D (fun _ => True) (ww_JArrays_fill0 qp1 cp1 lenp1 vp1))) (qc_JArrays_fill0 dC dI (va_A (ww_JArrays_fill0 qp1 cp1 lenp1 vp1) sz) qp1 cp1 lenp1 nvp1) 0 0 (va_A (ww_JArrays_fill0 qp1 cp1 lenp1 vp1) sz) := by
  refine Met.ofW (cc := prog_27_method_101_code) (maxL := 5) (ret := none) (by decide) rfl ?_
  intro p e s m args below meth c s₁ B hml hv
  obtain ⟨rfl, hsz, hP, hK, hD0⟩ := hv
  have hx := B.exec; have hb := B.bytes; have hr := B.returns; have hlocks := B.notSynchronized
  have ht : ∀ w ∈ lw_g, w.before _ s = true := fun w h => atoms_spec (ws := w_JArrays_fill0) B.pre w (List.mem_cons_of_mem _ h)
  have hown : s.vm.findClass "java/util/Arrays" = some m.cls := findClass_of_methodNamed B.named
  subst hsz
  have hD := hD0.self (sz := s.heap.size)
  generalize hAe : va_A (ww_JArrays_fill0 qp1 cp1 lenp1 vp1) s.heap.size = A at hD ⊢
  have hA : ∀ q : Nat, s.heap.size ≤ q → A q := fun q h => by rw [← hAe]; exact Or.inr h
  have hS : va_S A s.heap s.heap [] := va_S.rf
  have hl := lv_entry ([.ref qp1, .long p2]) (n := 5) (Nat.le_of_ble_eq_true rfl)
  rw [lg_entry_eq]
  generalize (lg_sl ([.ref qp1, .long p2]) ++ List.replicate (5 - (lg_sl ([.ref qp1, .long p2])).length) Slot.unset).toArray = ls at hl ⊢
  have hl : lv_has ls 5 [(0, .ref qp1), (1, .long p2)] := hl
  refine lv_iconst (v := (0 : Int32)) hx hb d_JArrays_fill0_0 (by decide) ?_
  refine lv_istore_n (lv' := [(3, .int (0 : Int32)), (0, .ref qp1), (1, .long p2)]) hx hb d_JArrays_fill0_1 rfl hl (by decide) rfl (fun ls hl => ?_)
  refine lv_aload_n hx hb d_JArrays_fill0_2 rfl (lv_at hl 1 rfl) ?_
  refine va_alen hx hb hK hP 0 0 rfl rfl (v := Int32.ofNat lenp1) rfl d_JArrays_fill0_3 ?_
  obtain ⟨x1, ex1, Hf⟩ := sq_bd_e Hf
  refine sq_top ex1 ?_
  refine lv_istore (lv' := [(4, .int x1), (3, .int (0 : Int32)), (0, .ref qp1), (1, .long p2)]) hx hb d_JArrays_fill0_4 hl (by decide) rfl (fun ls hl => ?_)
  have L1 : ∀ (m1 : Nat), ∀ (x2 : Int32) (b3 : Nat → Int64), fn_JArrays_fill0_L1 p2 lenp1 x1 m1 x2 b3 = some nvp1 → ∀ (H : Heap) (locs : List Loc), va_P (dC, dI) cl_All (ww_JArrays_fill0 qp1 cp1 lenp1 b3) H → va_D A (ww_JArrays_fill0 qp1 cp1 lenp1 b3) → va_S A s.heap H locs → ∀ ls : Array Slot, lv_has ls 5 [(0, .ref qp1), (1, .long p2), (3, .int x2), (4, .int x1)] → W p l e (headSpec w_JArrays_fill0 rm_JArrays_fill0).room s m (([.ref qp1, .long p2] : List Value).toArray) below meth c H locs 0 0 (MQ below (qc_JArrays_fill0 dC dI A qp1 cp1 lenp1 nvp1) (([.ref qp1, .long p2] : List Value).toArray) s 0 0 A) (F0 m 6 ls []) := by
    intro m1
    induction m1 with
    | zero => intro x2 b3 Hf; exact sq_none Hf
    | succ m1 ih1 =>
      intro x2 b3 Hf H locs  hP hD hS ls hl
      replace Hf := (fn_JArrays_fill0_L1_s p2 lenp1 x1 m1 x2 b3).symm.trans Hf
      refine lv_iload_n hx hb d_JArrays_fill0_6 rfl (lv_at hl 2 rfl) ?_
      refine lv_iload hx hb d_JArrays_fill0_7 (lv_at hl 3 rfl) ?_
      refine lv_icmp_ge (tgt := 22) hx hb d_JArrays_fill0_9 (by decide) (fun c4 => ?_) (fun c4 => ?_)
      · replace Hf := sq_ite_t Hf c4
        obtain rfl := Option.some.inj Hf
        exact W.vret hx hb hr (fun t ht hW => ⟨⟨(), rfl, trivial, by rw [ht]; exact hP, hD⟩, hS.F ht⟩) hS.2.2 d_JArrays_fill0_22
      · replace Hf := sq_ite_f Hf c4
        refine lv_aload_n hx hb d_JArrays_fill0_12 rfl (lv_at hl 0 rfl) ?_
        refine lv_iload_n hx hb d_JArrays_fill0_13 rfl (lv_at hl 2 rfl) ?_
        refine lv_lload_n hx hb d_JArrays_fill0_14 rfl (lv_at hl 1 rfl) ?_
        obtain ⟨hi5, Hf⟩ := sq_gi_e Hf
        obtain ⟨b6, eb6, Hf⟩ := sq_bd_e Hf
        refine va_last hx hb hK hP hD hS 0 0 rfl rfl hi5 d_JArrays_fill0_15 (fun H locs hP hD hS => ?_)
        rw [← eb6] at hP hD
        replace hP : va_P (dC, dI) cl_All (ww_JArrays_fill0 qp1 cp1 lenp1 b6) H := hP
        replace hD : va_D A (ww_JArrays_fill0 qp1 cp1 lenp1 b6) := hD
        obtain ⟨x7, ex7, Hf⟩ := sq_bd_e Hf
        refine lv_iinc (v := x7) (lv' := [(3, .int x7), (0, .ref qp1), (1, .long p2), (4, .int x1)]) hx hb d_JArrays_fill0_16 hl (k := 2) rfl (by rw [ex7]; rfl) (by decide) rfl (fun ls hl => ?_)
        refine lv_goto (tgt := 6) hx hb d_JArrays_fill0_19 (by decide) ?_
        exact ih1 x7 b6 Hf _ _  hP hD hS _ (lv_sub hl [1, 2, 0, 3] rfl)
  exact L1 n0 (0 : Int32) vp1 Hf _ _  hP hD hS _ (lv_sub hl [2, 3, 1, 0] rfl)

def fn_Grid_clear (n0 : Nat) (p1 : Int32) (vt_side : Int32) (vt_words : Nat → Int64) : Option (Int32 × (Nat → Int64)) :=
  sq_cb1 (fn_JArrays_fill0 n0 (0 : Int64) 531 vt_words) fun b1 => sq_bd (sq_min p1 (177 : Int32)) fun x3 => sq_bd (sq_max (0 : Int32) x3) fun x4 => some (x4, b1)
abbrev ww_Grid_clear (qt qt_words : Nat) (ct_words : ClassId) (vt_side : Int32) (vt_words : Nat → Int64) : va_W := [(qt, .inr (6, [.ref qt_words, .int vt_side])), (qt_words, .inl (ct_words, 531, .inr (.inl vt_words)))]

def rm_Grid_clear : Room := { frames := 1, cells := 0, slots := 0, locals := 24 }
abbrev qc_Grid_clear (dC : Nat → ClassId) (dI : Nat → Nat → Nat) (A : Nat → Prop) (qt qt_words : Nat) (ct_words : ClassId) (vt_side : Int32) (vt_words : Nat → Int64) : Array Value → State → Outcome → State → Prop := va_Qv (fun (_ : Unit) => True) (fun _ t => va_P (dC, dI) cl_All (ww_Grid_clear qt qt_words ct_words vt_side vt_words) t.heap ∧ va_D A (ww_Grid_clear qt qt_words ct_words vt_side vt_words)) A

set_option maxHeartbeats 4000000 in
set_option maxRecDepth 100000 in
theorem kt_Grid_clear (l : Launch) (dC : Nat → ClassId) (dI : Nat → Nat → Nat) (qt qt_words : Nat) (ct_words : ClassId) (vt_side : Int32) (vt_words : Nat → Int64) (p1 : Int32) (sz : Nat) (n0 : Nat) (nvt_side : Int32) (nvt_words : Nat → Int64) (Hf : fn_Grid_clear n0 p1 vt_side vt_words = some (nvt_side, nvt_words)) : Met l y_Grid_clear w_Grid_clear rm_Grid_clear (va_Pc [.ref qt, .int p1] (fun U => U.heap.size = sz ∧ va_P (dC, dI) cl_All (ww_Grid_clear qt qt_words ct_words vt_side vt_words) U.heap ∧ va_K (dC, dI) cl_All [(ct_words, .long)] U ∧ va_D (fun _ => True) (ww_Grid_clear qt qt_words ct_words vt_side vt_words))) (qc_Grid_clear dC dI (va_A (ww_Grid_clear qt qt_words ct_words vt_side vt_words) sz) qt qt_words ct_words nvt_side nvt_words) 0 0 (va_A (ww_Grid_clear qt qt_words ct_words vt_side vt_words) sz) := by
  refine Met.ofW (cc := prog_7_method_3_code) (maxL := 2) (ret := none) (by decide) rfl ?_
  intro p e s m args below meth c s₁ B hml hv
  obtain ⟨rfl, hsz, hP, hK, hD0⟩ := hv
  have hx := B.exec; have hb := B.bytes; have hr := B.returns; have hlocks := B.notSynchronized
  have ht : ∀ w ∈ lw_g, w.before _ s = true := fun w h => atoms_spec (ws := w_Grid_clear) B.pre w (List.mem_cons_of_mem _ h)
  have hown : s.vm.findClass "SquareSymbols$Grid" = some m.cls := findClass_of_methodNamed B.named
  subst hsz
  have hD := hD0.self (sz := s.heap.size)
  generalize hAe : va_A (ww_Grid_clear qt qt_words ct_words vt_side vt_words) s.heap.size = A at hD ⊢
  have hA : ∀ q : Nat, s.heap.size ≤ q → A q := fun q h => by rw [← hAe]; exact Or.inr h
  have hS : va_S A s.heap s.heap [] := va_S.rf
  have hl := lv_entry ([.ref qt, .int p1]) (n := 2) (Nat.le_of_ble_eq_true rfl)
  rw [lg_entry_eq]
  generalize (lg_sl ([.ref qt, .int p1]) ++ List.replicate (2 - (lg_sl ([.ref qt, .int p1])).length) Slot.unset).toArray = ls at hl ⊢
  have hl : lv_has ls 2 [(0, .ref qt), (1, .int p1)] := hl
  refine lv_aload_n hx hb d_Grid_clear_0 rfl (lv_at hl 0 rfl) ?_
  refine va_get (D := (dC, dI)) (ci := 6) (v := .ref qt_words) (C := R_Grid) (T := F_Grid) (N := 2) hx hb ht i_Grid hown hK hP 0 rfl rfl 0 (by decide) (ht _ tb_209) (fun _ h9 => h9) rfl d_Grid_clear_1 ?_
  refine lv_lconst (v := (0 : Int64)) hx hb d_Grid_clear_4 (by decide) ?_
  obtain ⟨b1, hc2, Hf⟩ := sq_cb1_e Hf
  refine sq_rwv (wn := (ww_Grid_clear qt qt_words ct_words vt_side b1)) (va_runS (As := [.ref qt_words, .long (0 : Int64)]) (rest := []) ⟨hx, hb, hml, hown, ht⟩ (kt_JArrays_fill0 l dC dI qt_words ct_words 531 vt_words (0 : Int64) s.heap.size n0 b1 hc2) (va_cwS 2 ht (sq_gS tb_440 tb_441 tb_18 tb_442) rfl rfl rfl (by decide +kernel) ⟨Nat.le_of_ble_eq_true rfl, Nat.le_of_ble_eq_true rfl⟩) (sq_rwS (hP.sub (ws' := (ww_JArrays_fill0 qt_words ct_words 531 vt_words)) [1] rfl) (hK.sub (tys' := [(ct_words, .long)]) [0] rfl) (hD.sub (ws' := (ww_JArrays_fill0 qt_words ct_words 531 vt_words)) [1] (by decide) rfl)) rfl rfl hl.1 rfl (lv_room (Nat.le_of_ble_eq_true rfl)) d_Grid_clear_5 ⟨Nat.le_of_ble_eq_true rfl, Nat.le_of_ble_eq_true rfl⟩) hP hD hS hA [1] [0] [0, 1] rfl rfl (by decide) (by decide) rfl (by decide) (fun H locs hP hD hS => ?_)
  refine lv_aload_n hx hb d_Grid_clear_8 rfl (lv_at hl 0 rfl) ?_
  refine lv_iconst (v := (0 : Int32)) hx hb d_Grid_clear_9 (by decide) ?_
  refine lv_iload_n hx hb d_Grid_clear_10 rfl (lv_at hl 1 rfl) ?_
  refine lv_sipush (v := (177 : Int32)) hx hb d_Grid_clear_11 (by decide) ?_
  refine va_mmin hx hb (by rw [hml]; exact hl.1.symm) hown (ht _ tb_443) (ht _ tb_427) (ht _ tb_17) (ht _ tb_428) (Nat.le_of_ble_eq_true rfl) (Nat.le_of_ble_eq_true rfl) (Nat.zero_le _) (Nat.zero_le _) d_Grid_clear_14 ?_
  obtain ⟨x3, ex3, Hf⟩ := sq_bd_e Hf
  refine sq_top ex3 ?_
  refine va_mmax hx hb (by rw [hml]; exact hl.1.symm) hown (ht _ tb_444) (ht _ tb_416) (ht _ tb_17) (ht _ tb_417) (Nat.le_of_ble_eq_true rfl) (Nat.le_of_ble_eq_true rfl) (Nat.zero_le _) (Nat.zero_le _) d_Grid_clear_17 ?_
  obtain ⟨x4, ex4, Hf⟩ := sq_bd_e Hf
  refine sq_top ex4 ?_
  refine va_put (D := (dC, dI)) (ci := 6) (v := .int x4) (ty := .int) (C := R_Grid) (T := F_Grid) (N := 2) hx hb ht i_Grid t_Grid t_Grid_ok n_Grid hown hK hP hD hS 0 rfl rfl 1 (by decide) (ht _ tb_210) (fun _ h9 => h9) rfl (by decide +kernel) rfl rfl (Nat.le_of_ble_eq_true rfl) d_Grid_clear_20 (fun H locs hP hD hS => ?_)
  replace hP : va_P (dC, dI) cl_All (ww_Grid_clear qt qt_words ct_words x4 b1) H := hP
  replace hD : va_D A (ww_Grid_clear qt qt_words ct_words x4 b1) := hD
  obtain ⟨rfl, rfl⟩ := sq_so2 Hf
  exact W.vret hx hb hr (fun t ht hW => ⟨⟨(), rfl, trivial, by rw [ht]; exact hP, hD⟩, hS.F ht⟩) hS.2.2 d_Grid_clear_23

def fn_Grid_set (p1 : Int32) (p2 : Int32) (p3 : Int32) (vt_side : Int32) (vt_words : Nat → Int64) : Option ((Nat → Int64)) :=
  sq_cb1 (fn_Grid_isInside p1 p2 vt_side) fun r1 => if r1 = 0 then (some vt_words) else (sq_bd (((3 : Int32) * p2) + (p1 >>> ((6 : Int32) &&& 31))) fun x4 => sq_bd (sq_lshl (1 : Int64) (p1 &&& (63 : Int32))) fun w5 => sq_jn (fun (w6 : Int64) => sq_gi x4 531 <| sq_bd (vp_updL vt_words x4.toNatClampNeg w6) fun b9 => some b9) fun k7 => if p3 = 0 then (sq_gi x4 531 <| sq_bd (vt_words x4.toNatClampNeg) fun w12 => k7 (w12 &&& (w5 ^^^ (-1 : Int64)))) else (sq_gi x4 531 <| sq_bd (vt_words x4.toNatClampNeg) fun w14 => k7 (w14 ||| w5)))
abbrev ww_Grid_set (qt qt_words : Nat) (ct_words : ClassId) (vt_side : Int32) (vt_words : Nat → Int64) : va_W := [(qt, .inr (6, [.ref qt_words, .int vt_side])), (qt_words, .inl (ct_words, 531, .inr (.inl vt_words)))]

def rm_Grid_set : Room := { frames := 1, cells := 0, slots := 0, locals := 22 }
abbrev qc_Grid_set (dC : Nat → ClassId) (dI : Nat → Nat → Nat) (A : Nat → Prop) (qt qt_words : Nat) (ct_words : ClassId) (vt_side : Int32) (vt_words : Nat → Int64) : Array Value → State → Outcome → State → Prop := va_Qv (fun (_ : Unit) => True) (fun _ t => va_P (dC, dI) cl_All (ww_Grid_set qt qt_words ct_words vt_side vt_words) t.heap ∧ va_D A (ww_Grid_set qt qt_words ct_words vt_side vt_words)) A

set_option maxHeartbeats 4000000 in
set_option maxRecDepth 100000 in
theorem kt_Grid_set (l : Launch) (dC : Nat → ClassId) (dI : Nat → Nat → Nat) (qt qt_words : Nat) (ct_words : ClassId) (vt_side : Int32) (vt_words : Nat → Int64) (p1 : Int32) (p2 : Int32) (p3 : Int32) (sz : Nat) (nvt_words : Nat → Int64) (Hf : fn_Grid_set p1 p2 p3 vt_side vt_words = some nvt_words) : Met l y_Grid_set w_Grid_set rm_Grid_set (va_Pc [.ref qt, .int p1, .int p2, .int p3] (fun U => U.heap.size = sz ∧ va_P (dC, dI) cl_All (ww_Grid_set qt qt_words ct_words vt_side vt_words) U.heap ∧ va_K (dC, dI) cl_All [(ct_words, .long)] U ∧ va_D (fun _ => True) (ww_Grid_set qt qt_words ct_words vt_side vt_words))) (qc_Grid_set dC dI (va_A (ww_Grid_set qt qt_words ct_words vt_side vt_words) sz) qt qt_words ct_words vt_side nvt_words) 0 0 (va_A (ww_Grid_set qt qt_words ct_words vt_side vt_words) sz) := by
  refine Met.ofW (cc := prog_7_method_7_code) (maxL := 7) (ret := none) (by decide) rfl ?_
  intro p e s m args below meth c s₁ B hml hv
  obtain ⟨rfl, hsz, hP, hK, hD0⟩ := hv
  have hx := B.exec; have hb := B.bytes; have hr := B.returns; have hlocks := B.notSynchronized
  have ht : ∀ w ∈ lw_g, w.before _ s = true := fun w h => atoms_spec (ws := w_Grid_set) B.pre w (List.mem_cons_of_mem _ h)
  have hown : s.vm.findClass "SquareSymbols$Grid" = some m.cls := findClass_of_methodNamed B.named
  subst hsz
  have hD := hD0.self (sz := s.heap.size)
  generalize hAe : va_A (ww_Grid_set qt qt_words ct_words vt_side vt_words) s.heap.size = A at hD ⊢
  have hA : ∀ q : Nat, s.heap.size ≤ q → A q := fun q h => by rw [← hAe]; exact Or.inr h
  have hS : va_S A s.heap s.heap [] := va_S.rf
  have hl := lv_entry ([.ref qt, .int p1, .int p2, .int p3]) (n := 7) (Nat.le_of_ble_eq_true rfl)
  rw [lg_entry_eq]
  generalize (lg_sl ([.ref qt, .int p1, .int p2, .int p3]) ++ List.replicate (7 - (lg_sl ([.ref qt, .int p1, .int p2, .int p3])).length) Slot.unset).toArray = ls at hl ⊢
  have hl : lv_has ls 7 [(0, .ref qt), (1, .int p1), (2, .int p2), (3, .int p3)] := hl
  refine lv_aload_n hx hb d_Grid_set_0 rfl (lv_at hl 0 rfl) ?_
  refine lv_iload_n hx hb d_Grid_set_1 rfl (lv_at hl 1 rfl) ?_
  refine lv_iload_n hx hb d_Grid_set_2 rfl (lv_at hl 2 rfl) ?_
  obtain ⟨r1, hc2, Hf⟩ := sq_cb1_e Hf
  refine sq_roi (va_runV (As := [.int p1, .int p2]) (rest := []) ⟨hx, hb, hml, hown, ht⟩ (kt_Grid_isInside l dC dI qt qt_words vt_side p1 p2 r1 hc2) (cwV 2 ht (sq_gV tb_380 tb_382 sl_1 tb_8 tb_383) rfl rfl rfl (by decide +kernel) ⟨Nat.le_of_ble_eq_true rfl, Nat.le_of_ble_eq_true rfl⟩) (sq_roV (hP.sub (ws' := (ww_Grid_isInside qt qt_words vt_side)) [0] rfl) (hK.sub (tys' := []) [] rfl) (va_recv hK hP (ci := 6) (q0 := 0) rfl rfl)) rfl rfl hl.1 rfl (lv_room (Nat.le_of_ble_eq_true rfl)) d_Grid_set_3 ⟨Nat.le_of_ble_eq_true rfl, Nat.le_of_ble_eq_true rfl⟩) ?_
  refine lv_if_eq (tgt := 65) hx hb d_Grid_set_6 (by decide) (fun c3 => ?_) (fun c3 => ?_)
  · replace Hf := sq_ite_t Hf c3
    obtain rfl := Option.some.inj Hf
    exact W.vret hx hb hr (fun t ht hW => ⟨⟨(), rfl, trivial, by rw [ht]; exact hP, hD⟩, hS.F ht⟩) hS.2.2 d_Grid_set_65
  · replace Hf := sq_ite_f Hf c3
    refine lv_iconst (v := (3 : Int32)) hx hb d_Grid_set_9 (by decide) ?_
    refine lv_iload_n hx hb d_Grid_set_10 rfl (lv_at hl 2 rfl) ?_
    refine lv_imul hx hb d_Grid_set_11 ?_
    refine lv_iload_n hx hb d_Grid_set_12 rfl (lv_at hl 1 rfl) ?_
    refine lv_bipush (v := (6 : Int32)) hx hb d_Grid_set_13 (by decide) ?_
    refine lv_ishr hx hb d_Grid_set_15 ?_
    refine lv_iadd hx hb d_Grid_set_16 ?_
    obtain ⟨x4, ex4, Hf⟩ := sq_bd_e Hf
    refine sq_top ex4 ?_
    refine lv_istore (lv' := [(4, .int x4), (0, .ref qt), (1, .int p1), (2, .int p2), (3, .int p3)]) hx hb d_Grid_set_17 hl (by decide) rfl (fun ls hl => ?_)
    refine lv_lconst (v := (1 : Int64)) hx hb d_Grid_set_19 (by decide) ?_
    refine lv_iload_n hx hb d_Grid_set_20 rfl (lv_at hl 2 rfl) ?_
    refine lv_bipush (v := (63 : Int32)) hx hb d_Grid_set_21 (by decide) ?_
    refine lv_iand hx hb d_Grid_set_23 ?_
    refine lv_lshl hx hb d_Grid_set_24 rfl ?_
    obtain ⟨w5, ew5, Hf⟩ := sq_bd_e Hf
    refine sq_topl ew5 ?_
    refine lv_lstore (lv' := [(5, .long w5), (4, .int x4), (0, .ref qt), (1, .int p1), (2, .int p2), (3, .int p3)]) hx hb d_Grid_set_25 hl (by decide) rfl (fun ls hl => ?_)
    refine lv_aload_n hx hb d_Grid_set_27 rfl (lv_at hl 2 rfl) ?_
    refine va_get (D := (dC, dI)) (ci := 6) (v := .ref qt_words) (C := R_Grid) (T := F_Grid) (N := 2) hx hb ht i_Grid hown hK hP 0 rfl rfl 0 (by decide) (ht _ tb_209) (fun _ h9 => h9) rfl d_Grid_set_28 ?_
    refine lv_iload hx hb d_Grid_set_31 (lv_at hl 1 rfl) ?_
    refine lv_iload_n hx hb d_Grid_set_33 rfl (lv_at hl 5 rfl) ?_
    obtain ⟨k7, hk7, Hf⟩ := sq_jn_e Hf
    have Jk7 : ∀ (w6 : Int64), k7 w6 = some nvt_words → ∀ (H : Heap) (locs : List Loc), va_P (dC, dI) cl_All (ww_Grid_set qt qt_words ct_words vt_side vt_words) H → va_D A (ww_Grid_set qt qt_words ct_words vt_side vt_words) → va_S A s.heap H locs → ∀ ls : Array Slot, lv_has ls 7 [] → W p l e (headSpec w_Grid_set rm_Grid_set).room s m (([.ref qt, .int p1, .int p2, .int p3] : List Value).toArray) below meth c H locs 0 0 (MQ below (qc_Grid_set dC dI A qt qt_words ct_words vt_side nvt_words) (([.ref qt, .int p1, .int p2, .int p3] : List Value).toArray) s 0 0 A) (F0 m 64 ls [.long w6, .int x4, .ref qt_words]) := by
      intro w6 Hf H locs  hP hD hS ls hl
      rw [hk7] at Hf
      obtain ⟨hi8, Hf⟩ := sq_gi_e Hf
      obtain ⟨b9, eb9, Hf⟩ := sq_bd_e Hf
      refine va_last hx hb hK hP hD hS 1 0 rfl rfl hi8 d_Grid_set_64 (fun H locs hP hD hS => ?_)
      rw [← eb9] at hP hD
      replace hP : va_P (dC, dI) cl_All (ww_Grid_set qt qt_words ct_words vt_side b9) H := hP
      replace hD : va_D A (ww_Grid_set qt qt_words ct_words vt_side b9) := hD
      obtain rfl := Option.some.inj Hf
      exact W.vret hx hb hr (fun t ht hW => ⟨⟨(), rfl, trivial, by rw [ht]; exact hP, hD⟩, hS.F ht⟩) hS.2.2 d_Grid_set_65
    refine lv_if_eq (tgt := 50) hx hb d_Grid_set_34 (by decide) (fun c10 => ?_) (fun c10 => ?_)
    · replace Hf := sq_ite_t Hf c10
      refine lv_aload_n hx hb d_Grid_set_50 rfl (lv_at hl 2 rfl) ?_
      refine va_get (D := (dC, dI)) (ci := 6) (v := .ref qt_words) (C := R_Grid) (T := F_Grid) (N := 2) hx hb ht i_Grid hown hK hP 0 rfl rfl 0 (by decide) (ht _ tb_209) (fun _ h9 => h9) rfl d_Grid_set_51 ?_
      refine lv_iload hx hb d_Grid_set_54 (lv_at hl 1 rfl) ?_
      obtain ⟨hi11, Hf⟩ := sq_gi_e Hf
      refine va_lald hx hb hK hP 1 0 rfl rfl hi11 d_Grid_set_56 ?_
      obtain ⟨w12, ew12, Hf⟩ := sq_bd_e Hf
      refine sq_topl ew12 ?_
      refine lv_lload hx hb d_Grid_set_57 (lv_at hl 0 rfl) ?_
      refine lv_ldc2 (v := (-1 : Int64)) hx hb hown (ht _ tb_453) d_Grid_set_59 ?_
      refine lv_lxor hx hb d_Grid_set_62 ?_
      refine lv_land hx hb d_Grid_set_63 ?_
      exact Jk7 (w12 &&& (w5 ^^^ (-1 : Int64))) Hf _ _  hP hD hS _ (lv_sub hl [] rfl)
    · replace Hf := sq_ite_f Hf c10
      refine lv_aload_n hx hb d_Grid_set_37 rfl (lv_at hl 2 rfl) ?_
      refine va_get (D := (dC, dI)) (ci := 6) (v := .ref qt_words) (C := R_Grid) (T := F_Grid) (N := 2) hx hb ht i_Grid hown hK hP 0 rfl rfl 0 (by decide) (ht _ tb_209) (fun _ h9 => h9) rfl d_Grid_set_38 ?_
      refine lv_iload hx hb d_Grid_set_41 (lv_at hl 1 rfl) ?_
      obtain ⟨hi13, Hf⟩ := sq_gi_e Hf
      refine va_lald hx hb hK hP 1 0 rfl rfl hi13 d_Grid_set_43 ?_
      obtain ⟨w14, ew14, Hf⟩ := sq_bd_e Hf
      refine sq_topl ew14 ?_
      refine lv_lload hx hb d_Grid_set_44 (lv_at hl 0 rfl) ?_
      refine lv_lor hx hb d_Grid_set_46 ?_
      refine lv_goto (tgt := 64) hx hb d_Grid_set_47 (by decide) ?_
      exact Jk7 (w14 ||| w5) Hf _ _  hP hD hS _ (lv_sub hl [] rfl)

def fn_Grid_copy (vp1_side : Int32) (vt_side : Int32) (vp1_words : Nat → Int64) (vt_words : Nat → Int64) : Option (Int32 × (Nat → Int64)) :=
  sq_gc (0 : Int32) (0 : Int32) (531 : Int32) 531 531 <| sq_bd (va_cpy vp1_words vt_words (0 : Int32).toNatClampNeg (0 : Int32).toNatClampNeg (531 : Int32).toNatClampNeg) fun b2 => some (vp1_side, b2)
abbrev ww_Grid_copy (qp1 qt qp1_words qt_words : Nat) (cp1_words ct_words : ClassId) (vp1_side : Int32) (vt_side : Int32) (vp1_words : Nat → Int64) (vt_words : Nat → Int64) : va_W := [(qp1, .inr (6, [.ref qp1_words, .int vp1_side])), (qt, .inr (6, [.ref qt_words, .int vt_side])), (qp1_words, .inl (cp1_words, 531, .inr (.inl vp1_words))), (qt_words, .inl (ct_words, 531, .inr (.inl vt_words)))]

def rm_Grid_copy : Room := { frames := 1, cells := 0, slots := 0, locals := 40 }
abbrev qc_Grid_copy (dC : Nat → ClassId) (dI : Nat → Nat → Nat) (A : Nat → Prop) (qp1 qt qp1_words qt_words : Nat) (cp1_words ct_words : ClassId) (vp1_side : Int32) (vt_side : Int32) (vp1_words : Nat → Int64) (vt_words : Nat → Int64) : Array Value → State → Outcome → State → Prop := va_Qv (fun (_ : Unit) => True) (fun _ t => va_P (dC, dI) cl_All (ww_Grid_copy qp1 qt qp1_words qt_words cp1_words ct_words vp1_side vt_side vp1_words vt_words) t.heap ∧ va_D A (ww_Grid_copy qp1 qt qp1_words qt_words cp1_words ct_words vp1_side vt_side vp1_words vt_words)) A

set_option maxHeartbeats 4000000 in
set_option maxRecDepth 100000 in
theorem kt_Grid_copy (l : Launch) (dC : Nat → ClassId) (dI : Nat → Nat → Nat) (qp1 qt qp1_words qt_words : Nat) (cp1_words ct_words : ClassId) (vp1_side : Int32) (vt_side : Int32) (vp1_words : Nat → Int64) (vt_words : Nat → Int64) (sz : Nat) (nvt_side : Int32) (nvt_words : Nat → Int64) (Hf : fn_Grid_copy vp1_side vt_side vp1_words vt_words = some (nvt_side, nvt_words)) : Met l y_Grid_copy w_Grid_copy rm_Grid_copy (va_Pc [.ref qt, .ref qp1] (fun U => U.heap.size = sz ∧ va_P (dC, dI) cl_All (ww_Grid_copy qp1 qt qp1_words qt_words cp1_words ct_words vp1_side vt_side vp1_words vt_words) U.heap ∧ va_K (dC, dI) cl_All [(cp1_words, .long), (ct_words, .long)] U ∧ va_D (fun _ => True) (ww_Grid_copy qp1 qt qp1_words qt_words cp1_words ct_words vp1_side vt_side vp1_words vt_words))) (qc_Grid_copy dC dI (va_A (ww_Grid_copy qp1 qt qp1_words qt_words cp1_words ct_words vp1_side vt_side vp1_words vt_words) sz) qp1 qt qp1_words qt_words cp1_words ct_words vp1_side nvt_side vp1_words nvt_words) 0 0 (va_A (ww_Grid_copy qp1 qt qp1_words qt_words cp1_words ct_words vp1_side vt_side vp1_words vt_words) sz) := by
  refine Met.ofW (cc := prog_7_method_4_code) (maxL := 2) (ret := none) (by decide) rfl ?_
  intro p e s m args below meth c s₁ B hml hv
  obtain ⟨rfl, hsz, hP, hK, hD0⟩ := hv
  have hx := B.exec; have hb := B.bytes; have hr := B.returns; have hlocks := B.notSynchronized
  have ht : ∀ w ∈ lw_g, w.before _ s = true := fun w h => atoms_spec (ws := w_Grid_copy) B.pre w (List.mem_cons_of_mem _ h)
  have hown : s.vm.findClass "SquareSymbols$Grid" = some m.cls := findClass_of_methodNamed B.named
  subst hsz
  have hD := hD0.self (sz := s.heap.size)
  generalize hAe : va_A (ww_Grid_copy qp1 qt qp1_words qt_words cp1_words ct_words vp1_side vt_side vp1_words vt_words) s.heap.size = A at hD ⊢
  have hA : ∀ q : Nat, s.heap.size ≤ q → A q := fun q h => by rw [← hAe]; exact Or.inr h
  have hS : va_S A s.heap s.heap [] := va_S.rf
  have hl := lv_entry ([.ref qt, .ref qp1]) (n := 2) (Nat.le_of_ble_eq_true rfl)
  rw [lg_entry_eq]
  generalize (lg_sl ([.ref qt, .ref qp1]) ++ List.replicate (2 - (lg_sl ([.ref qt, .ref qp1])).length) Slot.unset).toArray = ls at hl ⊢
  have hl : lv_has ls 2 [(0, .ref qt), (1, .ref qp1)] := hl
  refine lv_aload_n hx hb d_Grid_copy_0 rfl (lv_at hl 1 rfl) ?_
  refine va_get (D := (dC, dI)) (ci := 6) (v := .ref qp1_words) (C := R_Grid) (T := F_Grid) (N := 2) hx hb ht i_Grid hown hK hP 0 rfl rfl 0 (by decide) (ht _ tb_209) (fun _ h9 => h9) rfl d_Grid_copy_1 ?_
  refine lv_iconst (v := (0 : Int32)) hx hb d_Grid_copy_4 (by decide) ?_
  refine lv_aload_n hx hb d_Grid_copy_5 rfl (lv_at hl 0 rfl) ?_
  refine va_get (D := (dC, dI)) (ci := 6) (v := .ref qt_words) (C := R_Grid) (T := F_Grid) (N := 2) hx hb ht i_Grid hown hK hP 1 rfl rfl 0 (by decide) (ht _ tb_209) (fun _ h9 => h9) rfl d_Grid_copy_6 ?_
  refine lv_iconst (v := (0 : Int32)) hx hb d_Grid_copy_9 (by decide) ?_
  refine lv_aload_n hx hb d_Grid_copy_10 rfl (lv_at hl 0 rfl) ?_
  refine va_get (D := (dC, dI)) (ci := 6) (v := .ref qt_words) (C := R_Grid) (T := F_Grid) (N := 2) hx hb ht i_Grid hown hK hP 1 rfl rfl 0 (by decide) (ht _ tb_209) (fun _ h9 => h9) rfl d_Grid_copy_11 ?_
  refine va_alen hx hb hK hP 3 1 rfl rfl (v := (531 : Int32)) rfl d_Grid_copy_14 ?_
  obtain ⟨⟨hp11, hp12, hp13, hp14, hp15⟩, Hf⟩ := sq_gc_e Hf
  obtain ⟨b2, eb2, Hf⟩ := sq_bd_e Hf
  refine va_copyl hx hb (by rw [hml]; exact hl.1.symm) hown (ht _ tb_970) (ht _ tb_574) (ht _ tb_573) (ht _ tb_25) hK hP hD hS 2 3 0 1 rfl rfl rfl rfl rfl hp11 hp12 hp13 hp14 hp15 (fun _ _ => rfl) (Nat.le_of_ble_eq_true rfl) (Nat.le_of_ble_eq_true rfl) d_Grid_copy_15 (fun H locs hP hD hS => ?_)
  rw [← eb2] at hP hD
  replace hP : va_P (dC, dI) cl_All (ww_Grid_copy qp1 qt qp1_words qt_words cp1_words ct_words vp1_side vt_side vp1_words b2) H := hP
  replace hD : va_D A (ww_Grid_copy qp1 qt qp1_words qt_words cp1_words ct_words vp1_side vt_side vp1_words b2) := hD
  refine lv_aload_n hx hb d_Grid_copy_18 rfl (lv_at hl 0 rfl) ?_
  refine lv_aload_n hx hb d_Grid_copy_19 rfl (lv_at hl 1 rfl) ?_
  refine va_get (D := (dC, dI)) (ci := 6) (v := .int vp1_side) (C := R_Grid) (T := F_Grid) (N := 2) hx hb ht i_Grid hown hK hP 0 rfl rfl 1 (by decide) (ht _ tb_210) (fun _ h9 => h9) rfl d_Grid_copy_20 ?_
  refine va_put (D := (dC, dI)) (ci := 6) (v := .int vp1_side) (ty := .int) (C := R_Grid) (T := F_Grid) (N := 2) hx hb ht i_Grid t_Grid t_Grid_ok n_Grid hown hK hP hD hS 1 rfl rfl 1 (by decide) (ht _ tb_210) (fun _ h9 => h9) rfl (by decide +kernel) rfl rfl (Nat.le_of_ble_eq_true rfl) d_Grid_copy_23 (fun H locs hP hD hS => ?_)
  replace hP : va_P (dC, dI) cl_All (ww_Grid_copy qp1 qt qp1_words qt_words cp1_words ct_words vp1_side vp1_side vp1_words b2) H := hP
  replace hD : va_D A (ww_Grid_copy qp1 qt qp1_words qt_words cp1_words ct_words vp1_side vp1_side vp1_words b2) := hD
  obtain ⟨rfl, rfl⟩ := sq_so2 Hf
  exact W.vret hx hb hr (fun t ht hW => ⟨⟨(), rfl, trivial, by rw [ht]; exact hP, hD⟩, hS.F ht⟩) hS.2.2 d_Grid_copy_26

def fn_Grid_darkOnes_L1 (vt_words : Nat → Int64) : Nat → Int32 → Int32 → Option (Int32)
  | 0, _, _ => none
  | m1 + 1, x1, x2 => if (531 : Int32) ≤ x2 then (some (x1)) else (sq_gi x2 531 <| sq_bd (vt_words x2.toNatClampNeg) fun w5 => sq_cb1 (fn_JLong_bitCount w5) fun r6 => sq_bd (x1 + r6) fun x8 => sq_bd (x2 + (1 : Int32)) fun x9 => fn_Grid_darkOnes_L1 vt_words m1 x8 x9)
theorem fn_Grid_darkOnes_L1_s (vt_words : Nat → Int64) (m1 : Nat) (x1 : Int32) (x2 : Int32) : fn_Grid_darkOnes_L1 vt_words (m1 + 1) x1 x2 = if (531 : Int32) ≤ x2 then (some (x1)) else (sq_gi x2 531 <| sq_bd (vt_words x2.toNatClampNeg) fun w5 => sq_cb1 (fn_JLong_bitCount w5) fun r6 => sq_bd (x1 + r6) fun x8 => sq_bd (x2 + (1 : Int32)) fun x9 => fn_Grid_darkOnes_L1 vt_words m1 x8 x9) := rfl
def fn_Grid_darkOnes (n0 : Nat) (vt_words : Nat → Int64) : Option (Int32) :=
  fn_Grid_darkOnes_L1 vt_words n0 (0 : Int32) (0 : Int32)
abbrev ww_Grid_darkOnes (qt qt_words : Nat) (ct_words : ClassId) (vt_side : Int32) (vt_words : Nat → Int64) : va_W := [(qt, .inr (6, [.ref qt_words, .int vt_side])), (qt_words, .inl (ct_words, 531, .inr (.inl vt_words)))]

def rm_Grid_darkOnes : Room := { frames := 1, cells := 0, slots := 0, locals := 21 }
abbrev qc_Grid_darkOnes (r0 : Int32) : Array Value → State → Outcome → State → Prop := vp_Si (fun r => r = r0)

set_option maxHeartbeats 4000000 in
set_option maxRecDepth 100000 in
theorem kt_Grid_darkOnes (l : Launch) (dC : Nat → ClassId) (dI : Nat → Nat → Nat) (qt qt_words : Nat) (ct_words : ClassId) (vt_side : Int32) (vt_words : Nat → Int64) (n0 : Nat) (r0 : Int32) (Hf : fn_Grid_darkOnes n0 vt_words = some r0) : Met l y_Grid_darkOnes w_Grid_darkOnes rm_Grid_darkOnes (va_Pc [.ref qt] (fun U => va_P (dC, dI) cl_All (ww_Grid_darkOnes qt qt_words ct_words vt_side vt_words) U.heap ∧ va_K (dC, dI) cl_All [(ct_words, .long)] U)) (qc_Grid_darkOnes r0) 0 0 (fun _ => False) := by
  refine Met.ofW (cc := prog_7_method_11_code) (maxL := 3) (ret := (some .int)) (by decide) rfl ?_
  intro p e s m args below meth c s₁ B hml hv
  obtain ⟨rfl, hP, hK⟩ := hv
  have hx := B.exec; have hb := B.bytes; have hr := B.returns; have hlocks := B.notSynchronized
  have ht : ∀ w ∈ lw_g, w.before _ s = true := fun w h => atoms_spec (ws := w_Grid_darkOnes) B.pre w (List.mem_cons_of_mem _ h)
  have hown : s.vm.findClass "SquareSymbols$Grid" = some m.cls := findClass_of_methodNamed B.named
  have hl := lv_entry ([.ref qt]) (n := 3) (Nat.le_of_ble_eq_true rfl)
  rw [lg_entry_eq]
  generalize (lg_sl ([.ref qt]) ++ List.replicate (3 - (lg_sl ([.ref qt])).length) Slot.unset).toArray = ls at hl ⊢
  have hl : lv_has ls 3 [(0, .ref qt)] := hl
  refine lv_iconst (v := (0 : Int32)) hx hb d_Grid_darkOnes_0 (by decide) ?_
  refine lv_istore_n (lv' := [(1, .int (0 : Int32)), (0, .ref qt)]) hx hb d_Grid_darkOnes_1 rfl hl (by decide) rfl (fun ls hl => ?_)
  refine lv_iconst (v := (0 : Int32)) hx hb d_Grid_darkOnes_2 (by decide) ?_
  refine lv_istore_n (lv' := [(2, .int (0 : Int32)), (1, .int (0 : Int32)), (0, .ref qt)]) hx hb d_Grid_darkOnes_3 rfl hl (by decide) rfl (fun ls hl => ?_)
  have L1 : ∀ (m1 : Nat), ∀ (x1 : Int32) (x2 : Int32), fn_Grid_darkOnes_L1 vt_words m1 x1 x2 = some r0 → ∀ ls : Array Slot, lv_has ls 3 [(0, .ref qt), (1, .int x1), (2, .int x2)] → W p l e (headSpec w_Grid_darkOnes rm_Grid_darkOnes).room s m (([.ref qt] : List Value).toArray) below meth c s.heap [] 0 0 (MQ below (qc_Grid_darkOnes r0) (([.ref qt] : List Value).toArray) s 0 0 (fun _ => False)) (F0 m 4 ls []) := by
    intro m1
    induction m1 with
    | zero => intro x1 x2 Hf; exact sq_none Hf
    | succ m1 ih1 =>
      intro x1 x2 Hf ls hl
      replace Hf := (fn_Grid_darkOnes_L1_s vt_words m1 x1 x2).symm.trans Hf
      refine lv_iload_n hx hb d_Grid_darkOnes_4 rfl (lv_at hl 2 rfl) ?_
      refine lv_aload_n hx hb d_Grid_darkOnes_5 rfl (lv_at hl 0 rfl) ?_
      refine va_get (D := (dC, dI)) (ci := 6) (v := .ref qt_words) (C := R_Grid) (T := F_Grid) (N := 2) hx hb ht i_Grid hown hK hP 0 rfl rfl 0 (by decide) (ht _ tb_209) (fun _ h9 => h9) rfl d_Grid_darkOnes_6 ?_
      refine va_alen hx hb hK hP 1 0 rfl rfl (v := (531 : Int32)) rfl d_Grid_darkOnes_9 ?_
      refine lv_icmp_ge (tgt := 31) hx hb d_Grid_darkOnes_10 (by decide) (fun c3 => ?_) (fun c3 => ?_)
      · replace Hf := sq_ite_t Hf c3
        refine lv_iload_n hx hb d_Grid_darkOnes_31 rfl (lv_at hl 1 rfl) ?_
        have er := Option.some.inj Hf
        exact W.iret hx hb hr (fun t ht hW => ⟨_, rfl, er, ht⟩) (fun q h => by cases h) d_Grid_darkOnes_32
      · replace Hf := sq_ite_f Hf c3
        refine lv_iload_n hx hb d_Grid_darkOnes_13 rfl (lv_at hl 1 rfl) ?_
        refine lv_aload_n hx hb d_Grid_darkOnes_14 rfl (lv_at hl 0 rfl) ?_
        refine va_get (D := (dC, dI)) (ci := 6) (v := .ref qt_words) (C := R_Grid) (T := F_Grid) (N := 2) hx hb ht i_Grid hown hK hP 0 rfl rfl 0 (by decide) (ht _ tb_209) (fun _ h9 => h9) rfl d_Grid_darkOnes_15 ?_
        refine lv_iload_n hx hb d_Grid_darkOnes_18 rfl (lv_at hl 2 rfl) ?_
        obtain ⟨hi4, Hf⟩ := sq_gi_e Hf
        refine va_lald hx hb hK hP 1 0 rfl rfl hi4 d_Grid_darkOnes_19 ?_
        obtain ⟨w5, ew5, Hf⟩ := sq_bd_e Hf
        refine sq_topl ew5 ?_
        obtain ⟨r6, hc7, Hf⟩ := sq_cb1_e Hf
        refine sq_roi (va_runS (As := [.long w5]) (rest := [.int x1]) ⟨hx, hb, hml, hown, ht⟩ (kt_JLong_bitCount l dC dI w5 r6 hc7) (va_cwS 1 ht (sq_gS tb_345 tb_346 tb_26 tb_347) rfl rfl rfl (by decide +kernel) ⟨Nat.le_of_ble_eq_true rfl, Nat.le_of_ble_eq_true rfl⟩) (sq_roS (hP.sub (ws' := ([] : va_W)) [] rfl) (hK.sub (tys' := []) [] rfl)) rfl rfl hl.1 rfl (lv_room (Nat.le_of_ble_eq_true rfl)) d_Grid_darkOnes_20 ⟨Nat.le_of_ble_eq_true rfl, Nat.le_of_ble_eq_true rfl⟩) ?_
        refine lv_iadd hx hb d_Grid_darkOnes_23 ?_
        obtain ⟨x8, ex8, Hf⟩ := sq_bd_e Hf
        refine sq_top ex8 ?_
        refine lv_istore_n (lv' := [(1, .int x8), (0, .ref qt), (2, .int x2)]) hx hb d_Grid_darkOnes_24 rfl hl (by decide) rfl (fun ls hl => ?_)
        obtain ⟨x9, ex9, Hf⟩ := sq_bd_e Hf
        refine lv_iinc (v := x9) (lv' := [(2, .int x9), (1, .int x8), (0, .ref qt)]) hx hb d_Grid_darkOnes_25 hl (k := 2) rfl (by rw [ex9]; rfl) (by decide) rfl (fun ls hl => ?_)
        refine lv_goto (tgt := 4) hx hb d_Grid_darkOnes_28 (by decide) ?_
        exact ih1 x8 x9 Hf _ (lv_sub hl [2, 1, 0] rfl)
  exact L1 n0 (0 : Int32) (0 : Int32) Hf _ (lv_sub hl [2, 1, 0] rfl)

