def fn_Mode_groupSize (p1 : Int32) : Option (Int32) :=
  some ((3 : Int32) - p1)
def rm_Mode_groupSize : Room := { frames := 0, cells := 0, slots := 0, locals := 0 }
abbrev qc_Mode_groupSize (r0 : Int32) : Array Value → State → Outcome → State → Prop := vp_Si (fun r => r = r0)

set_option maxHeartbeats 4000000 in
set_option maxRecDepth 100000 in
theorem kt_Mode_groupSize (l : Launch) (dC : Nat → ClassId) (dI : Nat → Nat → Nat) (p1 : Int32) (r0 : Int32) (Hf : fn_Mode_groupSize p1 = some r0) : Met l y_Mode_groupSize w_Mode_groupSize rm_Mode_groupSize (va_Pc [.int p1] (fun U => va_P (dC, dI) cl_All ([] : va_W) U.heap ∧ va_K (dC, dI) cl_All [] U)) (qc_Mode_groupSize r0) 0 0 (fun _ => False) := by
  refine Met.ofW (cc := prog_9_method_4_code) (maxL := 1) (ret := (some .int)) (by decide) rfl ?_
  intro p e s m args below meth c s₁ B hml hv
  obtain ⟨rfl, hP, hK⟩ := hv
  have hx := B.exec; have hb := B.bytes; have hr := B.returns; have hlocks := B.notSynchronized
  have ht : ∀ w ∈ lw_g, w.before _ s = true := fun w h => atoms_spec (ws := w_Mode_groupSize) B.pre w (List.mem_cons_of_mem _ h)
  have hown : s.vm.findClass "SquareSymbols$Mode" = some m.cls := findClass_of_methodNamed B.named
  have hl := lv_entry ([.int p1]) (n := 1) (Nat.le_of_ble_eq_true rfl)
  rw [lg_entry_eq]
  generalize (lg_sl ([.int p1]) ++ List.replicate (1 - (lg_sl ([.int p1])).length) Slot.unset).toArray = ls at hl ⊢
  have hl : lv_has ls 1 [(0, .int p1)] := hl
  refine lv_iconst (v := (3 : Int32)) hx hb d_Mode_groupSize_0 (by decide) ?_
  refine lv_iload_n hx hb d_Mode_groupSize_1 rfl (lv_at hl 0 rfl) ?_
  refine lv_isub hx hb d_Mode_groupSize_2 ?_
  have er := Option.some.inj Hf
  exact W.iret hx hb hr (fun t ht hW => ⟨_, rfl, er, ht⟩) (fun q h => by cases h) d_Mode_groupSize_3

def fn_Mode_groupBits (p1 : Int32) (p2 : Int32) : Option (Int32) :=
  if p1 = 0 then (some (((3 : Int32) * p2) + (1 : Int32))) else (if p1 = (1 : Int32) then (some (((5 : Int32) * p2) + (1 : Int32))) else (some ((8 : Int32) * p2)))
def rm_Mode_groupBits : Room := { frames := 0, cells := 0, slots := 0, locals := 0 }
abbrev qc_Mode_groupBits (r0 : Int32) : Array Value → State → Outcome → State → Prop := vp_Si (fun r => r = r0)

set_option maxHeartbeats 4000000 in
set_option maxRecDepth 100000 in
theorem kt_Mode_groupBits (l : Launch) (dC : Nat → ClassId) (dI : Nat → Nat → Nat) (p1 : Int32) (p2 : Int32) (r0 : Int32) (Hf : fn_Mode_groupBits p1 p2 = some r0) : Met l y_Mode_groupBits w_Mode_groupBits rm_Mode_groupBits (va_Pc [.int p1, .int p2] (fun U => va_P (dC, dI) cl_All ([] : va_W) U.heap ∧ va_K (dC, dI) cl_All [] U)) (qc_Mode_groupBits r0) 0 0 (fun _ => False) := by
  refine Met.ofW (cc := prog_9_method_5_code) (maxL := 2) (ret := (some .int)) (by decide) rfl ?_
  intro p e s m args below meth c s₁ B hml hv
  obtain ⟨rfl, hP, hK⟩ := hv
  have hx := B.exec; have hb := B.bytes; have hr := B.returns; have hlocks := B.notSynchronized
  have ht : ∀ w ∈ lw_g, w.before _ s = true := fun w h => atoms_spec (ws := w_Mode_groupBits) B.pre w (List.mem_cons_of_mem _ h)
  have hown : s.vm.findClass "SquareSymbols$Mode" = some m.cls := findClass_of_methodNamed B.named
  have hl := lv_entry ([.int p1, .int p2]) (n := 2) (Nat.le_of_ble_eq_true rfl)
  rw [lg_entry_eq]
  generalize (lg_sl ([.int p1, .int p2]) ++ List.replicate (2 - (lg_sl ([.int p1, .int p2])).length) Slot.unset).toArray = ls at hl ⊢
  have hl : lv_has ls 2 [(0, .int p1), (1, .int p2)] := hl
  refine lv_iload_n hx hb d_Mode_groupBits_0 rfl (lv_at hl 0 rfl) ?_
  refine lv_if_ne (tgt := 12) hx hb d_Mode_groupBits_1 (by decide) (fun c1 => ?_) (fun c1 => ?_)
  · replace Hf := sq_ite_f Hf c1
    refine lv_iload_n hx hb d_Mode_groupBits_12 rfl (lv_at hl 0 rfl) ?_
    refine lv_iconst (v := (1 : Int32)) hx hb d_Mode_groupBits_13 (by decide) ?_
    refine lv_icmp_ne (tgt := 25) hx hb d_Mode_groupBits_14 (by decide) (fun c2 => ?_) (fun c2 => ?_)
    · replace Hf := sq_ite_f Hf c2
      refine lv_bipush (v := (8 : Int32)) hx hb d_Mode_groupBits_25 (by decide) ?_
      refine lv_iload_n hx hb d_Mode_groupBits_27 rfl (lv_at hl 1 rfl) ?_
      refine lv_imul hx hb d_Mode_groupBits_28 ?_
      have er := Option.some.inj Hf
      exact W.iret hx hb hr (fun t ht hW => ⟨_, rfl, er, ht⟩) (fun q h => by cases h) d_Mode_groupBits_29
    · replace Hf := sq_ite_t Hf c2
      refine lv_iconst (v := (5 : Int32)) hx hb d_Mode_groupBits_17 (by decide) ?_
      refine lv_iload_n hx hb d_Mode_groupBits_18 rfl (lv_at hl 1 rfl) ?_
      refine lv_imul hx hb d_Mode_groupBits_19 ?_
      refine lv_iconst (v := (1 : Int32)) hx hb d_Mode_groupBits_20 (by decide) ?_
      refine lv_iadd hx hb d_Mode_groupBits_21 ?_
      refine lv_goto (tgt := 29) hx hb d_Mode_groupBits_22 (by decide) ?_
      have er := Option.some.inj Hf
      exact W.iret hx hb hr (fun t ht hW => ⟨_, rfl, er, ht⟩) (fun q h => by cases h) d_Mode_groupBits_29
  · replace Hf := sq_ite_t Hf c1
    refine lv_iconst (v := (3 : Int32)) hx hb d_Mode_groupBits_4 (by decide) ?_
    refine lv_iload_n hx hb d_Mode_groupBits_5 rfl (lv_at hl 1 rfl) ?_
    refine lv_imul hx hb d_Mode_groupBits_6 ?_
    refine lv_iconst (v := (1 : Int32)) hx hb d_Mode_groupBits_7 (by decide) ?_
    refine lv_iadd hx hb d_Mode_groupBits_8 ?_
    refine lv_goto (tgt := 29) hx hb d_Mode_groupBits_9 (by decide) ?_
    have er := Option.some.inj Hf
    exact W.iret hx hb hr (fun t ht hW => ⟨_, rfl, er, ht⟩) (fun q h => by cases h) d_Mode_groupBits_29

def fn_Mode_base (p1 : Int32) : Option (Int32) :=
  if p1 = 0 then (some ((10 : Int32))) else (if p1 = (1 : Int32) then (some ((45 : Int32))) else (some ((256 : Int32))))
def rm_Mode_base : Room := { frames := 0, cells := 0, slots := 0, locals := 0 }
abbrev qc_Mode_base (r0 : Int32) : Array Value → State → Outcome → State → Prop := vp_Si (fun r => r = r0)

set_option maxHeartbeats 4000000 in
set_option maxRecDepth 100000 in
theorem kt_Mode_base (l : Launch) (dC : Nat → ClassId) (dI : Nat → Nat → Nat) (p1 : Int32) (r0 : Int32) (Hf : fn_Mode_base p1 = some r0) : Met l y_Mode_base w_Mode_base rm_Mode_base (va_Pc [.int p1] (fun U => va_P (dC, dI) cl_All ([] : va_W) U.heap ∧ va_K (dC, dI) cl_All [] U)) (qc_Mode_base r0) 0 0 (fun _ => False) := by
  refine Met.ofW (cc := prog_9_method_3_code) (maxL := 1) (ret := (some .int)) (by decide) rfl ?_
  intro p e s m args below meth c s₁ B hml hv
  obtain ⟨rfl, hP, hK⟩ := hv
  have hx := B.exec; have hb := B.bytes; have hr := B.returns; have hlocks := B.notSynchronized
  have ht : ∀ w ∈ lw_g, w.before _ s = true := fun w h => atoms_spec (ws := w_Mode_base) B.pre w (List.mem_cons_of_mem _ h)
  have hown : s.vm.findClass "SquareSymbols$Mode" = some m.cls := findClass_of_methodNamed B.named
  have hl := lv_entry ([.int p1]) (n := 1) (Nat.le_of_ble_eq_true rfl)
  rw [lg_entry_eq]
  generalize (lg_sl ([.int p1]) ++ List.replicate (1 - (lg_sl ([.int p1])).length) Slot.unset).toArray = ls at hl ⊢
  have hl : lv_has ls 1 [(0, .int p1)] := hl
  refine lv_iload_n hx hb d_Mode_base_0 rfl (lv_at hl 0 rfl) ?_
  refine lv_if_ne (tgt := 9) hx hb d_Mode_base_1 (by decide) (fun c1 => ?_) (fun c1 => ?_)
  · replace Hf := sq_ite_f Hf c1
    refine lv_iload_n hx hb d_Mode_base_9 rfl (lv_at hl 0 rfl) ?_
    refine lv_iconst (v := (1 : Int32)) hx hb d_Mode_base_10 (by decide) ?_
    refine lv_icmp_ne (tgt := 19) hx hb d_Mode_base_11 (by decide) (fun c2 => ?_) (fun c2 => ?_)
    · replace Hf := sq_ite_f Hf c2
      refine lv_sipush (v := (256 : Int32)) hx hb d_Mode_base_19 (by decide) ?_
      have er := Option.some.inj Hf
      exact W.iret hx hb hr (fun t ht hW => ⟨_, rfl, er, ht⟩) (fun q h => by cases h) d_Mode_base_22
    · replace Hf := sq_ite_t Hf c2
      refine lv_bipush (v := (45 : Int32)) hx hb d_Mode_base_14 (by decide) ?_
      refine lv_goto (tgt := 22) hx hb d_Mode_base_16 (by decide) ?_
      have er := Option.some.inj Hf
      exact W.iret hx hb hr (fun t ht hW => ⟨_, rfl, er, ht⟩) (fun q h => by cases h) d_Mode_base_22
  · replace Hf := sq_ite_t Hf c1
    refine lv_bipush (v := (10 : Int32)) hx hb d_Mode_base_4 (by decide) ?_
    refine lv_goto (tgt := 22) hx hb d_Mode_base_6 (by decide) ?_
    have er := Option.some.inj Hf
    exact W.iret hx hb hr (fun t ht hW => ⟨_, rfl, er, ht⟩) (fun q h => by cases h) d_Mode_base_22

def fn_Mode_groupNumbers_L1 (p1 : Int32) (p2 : Int32) : Nat → Int32 → Int32 → Option (Int32)
  | 0, _, _ => none
  | m1 + 1, x1, x2 => if p2 ≤ x2 then (some (x1)) else (sq_cb1 (fn_Mode_base p1) fun r4 => sq_bd (x1 * r4) fun x6 => sq_bd (x2 + (1 : Int32)) fun x7 => fn_Mode_groupNumbers_L1 p1 p2 m1 x6 x7)
theorem fn_Mode_groupNumbers_L1_s (p1 : Int32) (p2 : Int32) (m1 : Nat) (x1 : Int32) (x2 : Int32) : fn_Mode_groupNumbers_L1 p1 p2 (m1 + 1) x1 x2 = if p2 ≤ x2 then (some (x1)) else (sq_cb1 (fn_Mode_base p1) fun r4 => sq_bd (x1 * r4) fun x6 => sq_bd (x2 + (1 : Int32)) fun x7 => fn_Mode_groupNumbers_L1 p1 p2 m1 x6 x7) := rfl
def fn_Mode_groupNumbers (n0 : Nat) (p1 : Int32) (p2 : Int32) : Option (Int32) :=
  fn_Mode_groupNumbers_L1 p1 p2 n0 (1 : Int32) (0 : Int32)
def rm_Mode_groupNumbers : Room := { frames := 1, cells := 0, slots := 0, locals := 20 }
abbrev qc_Mode_groupNumbers (r0 : Int32) : Array Value → State → Outcome → State → Prop := vp_Si (fun r => r = r0)

set_option maxHeartbeats 4000000 in
set_option maxRecDepth 100000 in
theorem kt_Mode_groupNumbers (l : Launch) (dC : Nat → ClassId) (dI : Nat → Nat → Nat) (p1 : Int32) (p2 : Int32) (n0 : Nat) (r0 : Int32) (Hf : fn_Mode_groupNumbers n0 p1 p2 = some r0) : Met l y_Mode_groupNumbers w_Mode_groupNumbers rm_Mode_groupNumbers (va_Pc [.int p1, .int p2] (fun U => va_P (dC, dI) cl_All ([] : va_W) U.heap ∧ va_K (dC, dI) cl_All [] U)) (qc_Mode_groupNumbers r0) 0 0 (fun _ => False) := by
  refine Met.ofW (cc := prog_9_method_6_code) (maxL := 4) (ret := (some .int)) (by decide) rfl ?_
  intro p e s m args below meth c s₁ B hml hv
  obtain ⟨rfl, hP, hK⟩ := hv
  have hx := B.exec; have hb := B.bytes; have hr := B.returns; have hlocks := B.notSynchronized
  have ht : ∀ w ∈ lw_g, w.before _ s = true := fun w h => atoms_spec (ws := w_Mode_groupNumbers) B.pre w (List.mem_cons_of_mem _ h)
  have hown : s.vm.findClass "SquareSymbols$Mode" = some m.cls := findClass_of_methodNamed B.named
  have hl := lv_entry ([.int p1, .int p2]) (n := 4) (Nat.le_of_ble_eq_true rfl)
  rw [lg_entry_eq]
  generalize (lg_sl ([.int p1, .int p2]) ++ List.replicate (4 - (lg_sl ([.int p1, .int p2])).length) Slot.unset).toArray = ls at hl ⊢
  have hl : lv_has ls 4 [(0, .int p1), (1, .int p2)] := hl
  refine lv_iconst (v := (1 : Int32)) hx hb d_Mode_groupNumbers_0 (by decide) ?_
  refine lv_istore_n (lv' := [(2, .int (1 : Int32)), (0, .int p1), (1, .int p2)]) hx hb d_Mode_groupNumbers_1 rfl hl (by decide) rfl (fun ls hl => ?_)
  refine lv_iconst (v := (0 : Int32)) hx hb d_Mode_groupNumbers_2 (by decide) ?_
  refine lv_istore_n (lv' := [(3, .int (0 : Int32)), (2, .int (1 : Int32)), (0, .int p1), (1, .int p2)]) hx hb d_Mode_groupNumbers_3 rfl hl (by decide) rfl (fun ls hl => ?_)
  have L1 : ∀ (m1 : Nat), ∀ (x1 : Int32) (x2 : Int32), fn_Mode_groupNumbers_L1 p1 p2 m1 x1 x2 = some r0 → ∀ ls : Array Slot, lv_has ls 4 [(0, .int p1), (1, .int p2), (2, .int x1), (3, .int x2)] → W p l e (headSpec w_Mode_groupNumbers rm_Mode_groupNumbers).room s m (([.int p1, .int p2] : List Value).toArray) below meth c s.heap [] 0 0 (MQ below (qc_Mode_groupNumbers r0) (([.int p1, .int p2] : List Value).toArray) s 0 0 (fun _ => False)) (F0 m 4 ls []) := by
    intro m1
    induction m1 with
    | zero => intro x1 x2 Hf; exact sq_none Hf
    | succ m1 ih1 =>
      intro x1 x2 Hf ls hl
      replace Hf := (fn_Mode_groupNumbers_L1_s p1 p2 m1 x1 x2).symm.trans Hf
      refine lv_iload_n hx hb d_Mode_groupNumbers_4 rfl (lv_at hl 3 rfl) ?_
      refine lv_iload_n hx hb d_Mode_groupNumbers_5 rfl (lv_at hl 1 rfl) ?_
      refine lv_icmp_ge (tgt := 22) hx hb d_Mode_groupNumbers_6 (by decide) (fun c3 => ?_) (fun c3 => ?_)
      · replace Hf := sq_ite_t Hf c3
        refine lv_iload_n hx hb d_Mode_groupNumbers_22 rfl (lv_at hl 2 rfl) ?_
        have er := Option.some.inj Hf
        exact W.iret hx hb hr (fun t ht hW => ⟨_, rfl, er, ht⟩) (fun q h => by cases h) d_Mode_groupNumbers_23
      · replace Hf := sq_ite_f Hf c3
        refine lv_iload_n hx hb d_Mode_groupNumbers_9 rfl (lv_at hl 2 rfl) ?_
        refine lv_iload_n hx hb d_Mode_groupNumbers_10 rfl (lv_at hl 0 rfl) ?_
        obtain ⟨r4, hc5, Hf⟩ := sq_cb1_e Hf
        refine sq_roi (va_runS (As := [.int p1]) (rest := [.int x1]) ⟨hx, hb, hml, hown, ht⟩ (kt_Mode_base l dC dI p1 r4 hc5) (va_cwS 1 ht (sq_gS tb_636 tb_637 tb_19 tb_638) rfl rfl rfl (by decide +kernel) ⟨Nat.le_of_ble_eq_true rfl, Nat.le_of_ble_eq_true rfl⟩) (sq_roS (hP.sub (ws' := ([] : va_W)) [] rfl) (hK.sub (tys' := []) [] rfl)) rfl rfl hl.1 rfl (lv_room (Nat.le_of_ble_eq_true rfl)) d_Mode_groupNumbers_11 ⟨Nat.le_of_ble_eq_true rfl, Nat.le_of_ble_eq_true rfl⟩) ?_
        refine lv_imul hx hb d_Mode_groupNumbers_14 ?_
        obtain ⟨x6, ex6, Hf⟩ := sq_bd_e Hf
        refine sq_top ex6 ?_
        refine lv_istore_n (lv' := [(2, .int x6), (0, .int p1), (1, .int p2), (3, .int x2)]) hx hb d_Mode_groupNumbers_15 rfl hl (by decide) rfl (fun ls hl => ?_)
        obtain ⟨x7, ex7, Hf⟩ := sq_bd_e Hf
        refine lv_iinc (v := x7) (lv' := [(3, .int x7), (2, .int x6), (0, .int p1), (1, .int p2)]) hx hb d_Mode_groupNumbers_16 hl (k := 3) rfl (by rw [ex7]; rfl) (by decide) rfl (fun ls hl => ?_)
        refine lv_goto (tgt := 4) hx hb d_Mode_groupNumbers_19 (by decide) ?_
        exact ih1 x6 x7 Hf _ (lv_sub hl [2, 3, 1, 0] rfl)
  exact L1 n0 (1 : Int32) (0 : Int32) Hf _ (lv_sub hl [2, 3, 1, 0] rfl)

def fn_JStr_coder_thisK : Option (Int32) :=
  some ((0 : Int32))
def rm_JStr_coder_thisK : Room := { frames := 0, cells := 0, slots := 0, locals := 0 }
abbrev qc_JStr_coder_thisK (r0 : Int32) : Array Value → State → Outcome → State → Prop := vp_Si (fun r => r = r0)

set_option maxHeartbeats 4000000 in
set_option maxRecDepth 100000 in
theorem kt_JStr_coder_thisK (l : Launch) (dC : Nat → ClassId) (dI : Nat → Nat → Nat) (tt : Nat → Nat) (r0 : Int32) (Hf : fn_JStr_coder_thisK  = some r0) : Met l y_JStr_coder w_JStr_coder rm_JStr_coder_thisK (va_Pc [.ref (tt 7)] (fun U => va_P (dC, dI) cl_All ([] : va_W) U.heap ∧ va_K (dC, dI) cl_All [] U ∧ sx_T tt (fun _ => False) U U.heap)) (qc_JStr_coder_thisK r0) 0 0 (fun _ => False) := by
  refine Met.ofW (cc := prog_22_method_152_code) (maxL := 1) (ret := (some .byte)) (by decide) rfl ?_
  intro p e s m args below meth c s₁ B hml hv
  obtain ⟨rfl, hP, hK, hX⟩ := hv
  have hx := B.exec; have hb := B.bytes; have hr := B.returns; have hlocks := B.notSynchronized
  have ht : ∀ w ∈ lw_g, w.before _ s = true := fun w h => atoms_spec (ws := w_JStr_coder) B.pre w (List.mem_cons_of_mem _ h)
  have hown : s.vm.findClass "java/lang/String" = some m.cls := findClass_of_methodNamed B.named
  have hl := lv_entry ([.ref (tt 7)]) (n := 1) (Nat.le_of_ble_eq_true rfl)
  rw [lg_entry_eq]
  generalize (lg_sl ([.ref (tt 7)]) ++ List.replicate (1 - (lg_sl ([.ref (tt 7)])).length) Slot.unset).toArray = ls at hl ⊢
  have hl : lv_has ls 1 [(0, .ref (tt 7))] := hl
  refine va_gets hx hb hX.cs va_S.rf hown (ht _ tb_652) (fun _ h => h) d_JStr_coder_0 ?_
  refine lv_if_eq (tgt := 13) hx hb d_JStr_coder_3 (by decide) (fun c1 => absurd c1 (by decide)) (fun c1 => ?_)
  refine lv_aload_n hx hb d_JStr_coder_6 rfl (lv_at hl 0 rfl) ?_
  refine vk_getf hx hb hX.kcoder va_S.rf hown (ht _ tb_1442) (fun _ h => h) d_JStr_coder_7 ?_
  refine lv_goto (tgt := 14) hx hb d_JStr_coder_10 (by decide) ?_
  have er := Option.some.inj Hf
  exact W.zret hx hb hr rfl (fun t ht hW => ⟨_, rfl, er, ht⟩) (fun q h => by cases h) d_JStr_coder_14

def fn_JStr_length_thisK : Option (Int32) :=
  some ((45 : Int32) >>> ((0 : Int32) &&& 31))
def rm_JStr_length_thisK : Room := { frames := 1, cells := 0, slots := 0, locals := 20 }
abbrev qc_JStr_length_thisK (r0 : Int32) : Array Value → State → Outcome → State → Prop := vp_Si (fun r => r = r0)

set_option maxHeartbeats 4000000 in
set_option maxRecDepth 100000 in
theorem kt_JStr_length_thisK (l : Launch) (dC : Nat → ClassId) (dI : Nat → Nat → Nat) (tt : Nat → Nat) (r0 : Int32) (Hf : fn_JStr_length_thisK  = some r0) : Met l y_JStr_length w_JStr_length rm_JStr_length_thisK (va_Pc [.ref (tt 7)] (fun U => va_P (dC, dI) cl_All ([] : va_W) U.heap ∧ va_K (dC, dI) cl_All [] U ∧ sx_T tt (fun _ => False) U U.heap)) (qc_JStr_length_thisK r0) 0 0 (fun _ => False) := by
  refine Met.ofW (cc := prog_22_method_54_code) (maxL := 1) (ret := (some .int)) (by decide) rfl ?_
  intro p e s m args below meth c s₁ B hml hv
  obtain ⟨rfl, hP, hK, hX⟩ := hv
  have hx := B.exec; have hb := B.bytes; have hr := B.returns; have hlocks := B.notSynchronized
  have ht : ∀ w ∈ lw_g, w.before _ s = true := fun w h => atoms_spec (ws := w_JStr_length) B.pre w (List.mem_cons_of_mem _ h)
  have hown : s.vm.findClass "java/lang/String" = some m.cls := findClass_of_methodNamed B.named
  have hl := lv_entry ([.ref (tt 7)]) (n := 1) (Nat.le_of_ble_eq_true rfl)
  rw [lg_entry_eq]
  generalize (lg_sl ([.ref (tt 7)]) ++ List.replicate (1 - (lg_sl ([.ref (tt 7)])).length) Slot.unset).toArray = ls at hl ⊢
  have hl : lv_has ls 1 [(0, .ref (tt 7))] := hl
  refine lv_aload_n hx hb d_JStr_length_0 rfl (lv_at hl 0 rfl) ?_
  refine vk_getf hx hb hX.kvalue va_S.rf hown (ht _ tb_1443) (fun _ h => h) d_JStr_length_1 ?_
  refine va_tlen hx hb hX.kt va_S.rf (v := (45 : Int32)) rfl d_JStr_length_4 ?_
  refine lv_aload_n hx hb d_JStr_length_5 rfl (lv_at hl 0 rfl) ?_
  refine sq_roi (va_runV (As := []) (rest := [.int (45 : Int32)]) ⟨hx, hb, hml, hown, ht⟩ (kt_JStr_coder_thisK l dC dI tt (0 : Int32) rfl) (cwV 0 ht (sq_gV tb_648 tb_649 tb_650 tb_20 tb_651) rfl rfl rfl (by decide +kernel) ⟨Nat.le_of_ble_eq_true rfl, Nat.le_of_ble_eq_true rfl⟩) (sq_roVX (hP.sub (ws' := ([] : va_W)) [] rfl) (hK.sub (tys' := []) [] rfl) (vk_recv hX.str (i := 0) Nat.zero_lt_one va_S.rf) hX va_S.rf (fun _ h => h.elim)) rfl rfl hl.1 rfl (lv_room (Nat.le_of_ble_eq_true rfl)) d_JStr_length_6 ⟨Nat.le_of_ble_eq_true rfl, Nat.le_of_ble_eq_true rfl⟩) ?_
  refine lv_ishr hx hb d_JStr_length_9 ?_
  have er := Option.some.inj Hf
  exact W.iret hx hb hr (fun t ht hW => ⟨_, rfl, er, ht⟩) (fun q h => by cases h) d_JStr_length_10

def fn_JStr_isLatin1_thisK : Option (Int32) :=
  some ((1 : Int32))
def rm_JStr_isLatin1_thisK : Room := { frames := 0, cells := 0, slots := 0, locals := 0 }
abbrev qc_JStr_isLatin1_thisK (r0 : Int32) : Array Value → State → Outcome → State → Prop := vp_Si (fun r => r = r0)

set_option maxHeartbeats 4000000 in
set_option maxRecDepth 100000 in
theorem kt_JStr_isLatin1_thisK (l : Launch) (dC : Nat → ClassId) (dI : Nat → Nat → Nat) (tt : Nat → Nat) (r0 : Int32) (Hf : fn_JStr_isLatin1_thisK  = some r0) : Met l y_JStr_isLatin1 w_JStr_isLatin1 rm_JStr_isLatin1_thisK (va_Pc [.ref (tt 7)] (fun U => va_P (dC, dI) cl_All ([] : va_W) U.heap ∧ va_K (dC, dI) cl_All [] U ∧ sx_T tt (fun _ => False) U U.heap)) (qc_JStr_isLatin1_thisK r0) 0 0 (fun _ => False) := by
  refine Met.ofW (cc := prog_22_method_154_code) (maxL := 1) (ret := (some .boolean)) (by decide) rfl ?_
  intro p e s m args below meth c s₁ B hml hv
  obtain ⟨rfl, hP, hK, hX⟩ := hv
  have hx := B.exec; have hb := B.bytes; have hr := B.returns; have hlocks := B.notSynchronized
  have ht : ∀ w ∈ lw_g, w.before _ s = true := fun w h => atoms_spec (ws := w_JStr_isLatin1) B.pre w (List.mem_cons_of_mem _ h)
  have hown : s.vm.findClass "java/lang/String" = some m.cls := findClass_of_methodNamed B.named
  have hl := lv_entry ([.ref (tt 7)]) (n := 1) (Nat.le_of_ble_eq_true rfl)
  rw [lg_entry_eq]
  generalize (lg_sl ([.ref (tt 7)]) ++ List.replicate (1 - (lg_sl ([.ref (tt 7)])).length) Slot.unset).toArray = ls at hl ⊢
  have hl : lv_has ls 1 [(0, .ref (tt 7))] := hl
  refine va_gets hx hb hX.cs va_S.rf hown (ht _ tb_652) (fun _ h => h) d_JStr_isLatin1_0 ?_
  refine lv_if_eq (tgt := 17) hx hb d_JStr_isLatin1_3 (by decide) (fun c1 => absurd c1 (by decide)) (fun c1 => ?_)
  refine lv_aload_n hx hb d_JStr_isLatin1_6 rfl (lv_at hl 0 rfl) ?_
  refine vk_getf hx hb hX.kcoder va_S.rf hown (ht _ tb_1442) (fun _ h => h) d_JStr_isLatin1_7 ?_
  refine lv_if_ne (tgt := 17) hx hb d_JStr_isLatin1_10 (by decide) (fun c2 => absurd c2 (by decide)) (fun c2 => ?_)
  refine lv_iconst (v := (1 : Int32)) hx hb d_JStr_isLatin1_13 (by decide) ?_
  refine lv_goto (tgt := 18) hx hb d_JStr_isLatin1_14 (by decide) ?_
  have er := Option.some.inj Hf
  exact W.zret hx hb hr rfl (fun t ht hW => ⟨_, rfl, er, ht⟩) (fun q h => by cases h) d_JStr_isLatin1_18

def fn_JPre_checkIndex_p3 (p1 : Int32) (p2 : Int32) : Option (Int32) :=
  if p1 < 0 then (none) else (if p1 < p2 then (some (p1)) else (none))
def rm_JPre_checkIndex_p3 : Room := { frames := 0, cells := 0, slots := 0, locals := 0 }
abbrev qc_JPre_checkIndex_p3 (r0 : Int32) : Array Value → State → Outcome → State → Prop := vp_Si (fun r => r = r0)

set_option maxHeartbeats 4000000 in
set_option maxRecDepth 100000 in
theorem kt_JPre_checkIndex_p3 (l : Launch) (dC : Nat → ClassId) (dI : Nat → Nat → Nat) (p1 : Int32) (p2 : Int32) (r0 : Int32) (Hf : fn_JPre_checkIndex_p3 p1 p2 = some r0) : Met l y_JPre_checkIndex w_JPre_checkIndex rm_JPre_checkIndex_p3 (va_Pc [.int p1, .int p2, .null] (fun U => va_P (dC, dI) cl_All ([] : va_W) U.heap ∧ va_K (dC, dI) cl_All [] U)) (qc_JPre_checkIndex_p3 r0) 0 0 (fun _ => False) := by
  refine Met.ofW (cc := prog_28_method_11_code) (maxL := 3) (ret := (some .int)) (by decide) rfl ?_
  intro p e s m args below meth c s₁ B hml hv
  obtain ⟨rfl, hP, hK⟩ := hv
  have hx := B.exec; have hb := B.bytes; have hr := B.returns; have hlocks := B.notSynchronized
  have ht : ∀ w ∈ lw_g, w.before _ s = true := fun w h => atoms_spec (ws := w_JPre_checkIndex) B.pre w (List.mem_cons_of_mem _ h)
  have hown : s.vm.findClass "jdk/internal/util/Preconditions" = some m.cls := findClass_of_methodNamed B.named
  have hl := lv_entry ([.int p1, .int p2, .null]) (n := 3) (Nat.le_of_ble_eq_true rfl)
  rw [lg_entry_eq]
  generalize (lg_sl ([.int p1, .int p2, .null]) ++ List.replicate (3 - (lg_sl ([.int p1, .int p2, .null])).length) Slot.unset).toArray = ls at hl ⊢
  have hl : lv_has ls 3 [(0, .int p1), (1, .int p2), (2, .null)] := hl
  refine lv_iload_n hx hb d_JPre_checkIndex_0 rfl (lv_at hl 0 rfl) ?_
  refine lv_if_lt (tgt := 9) hx hb d_JPre_checkIndex_1 (by decide) (fun c1 => ?_) (fun c1 => ?_)
  · replace Hf := sq_ite_t Hf c1
    exact sq_none Hf
  · replace Hf := sq_ite_f Hf c1
    refine lv_iload_n hx hb d_JPre_checkIndex_4 rfl (lv_at hl 0 rfl) ?_
    refine lv_iload_n hx hb d_JPre_checkIndex_5 rfl (lv_at hl 1 rfl) ?_
    refine lv_icmp_lt (tgt := 16) hx hb d_JPre_checkIndex_6 (by decide) (fun c2 => ?_) (fun c2 => ?_)
    · replace Hf := sq_ite_t Hf c2
      refine lv_iload_n hx hb d_JPre_checkIndex_16 rfl (lv_at hl 0 rfl) ?_
      have er := Option.some.inj Hf
      exact W.iret hx hb hr (fun t ht hW => ⟨_, rfl, er, ht⟩) (fun q h => by cases h) d_JPre_checkIndex_17
    · replace Hf := sq_ite_f Hf c2
      exact sq_none Hf

def fn_JPre_checkIndex_p3O (p1 : Int32) (p2 : Int32) : Option (Int32) :=
  if p1 < 0 then (none) else (if p1 < p2 then (some (p1)) else (none))
def rm_JPre_checkIndex_p3O : Room := { frames := 0, cells := 0, slots := 0, locals := 0 }
abbrev qc_JPre_checkIndex_p3O (r0 : Int32) : Array Value → State → Outcome → State → Prop := vp_Si (fun r => r = r0)

set_option maxHeartbeats 4000000 in
set_option maxRecDepth 100000 in
theorem kt_JPre_checkIndex_p3O (l : Launch) (dC : Nat → ClassId) (dI : Nat → Nat → Nat) (op3 : Nat) (p1 : Int32) (p2 : Int32) (r0 : Int32) (Hf : fn_JPre_checkIndex_p3O p1 p2 = some r0) : Met l y_JPre_checkIndex w_JPre_checkIndex rm_JPre_checkIndex_p3O (va_Pc [.int p1, .int p2, .ref op3] (fun U => va_P (dC, dI) cl_All ([] : va_W) U.heap ∧ va_K (dC, dI) cl_All [] U)) (qc_JPre_checkIndex_p3O r0) 0 0 (fun _ => False) := by
  refine Met.ofW (cc := prog_28_method_11_code) (maxL := 3) (ret := (some .int)) (by decide) rfl ?_
  intro p e s m args below meth c s₁ B hml hv
  obtain ⟨rfl, hP, hK⟩ := hv
  have hx := B.exec; have hb := B.bytes; have hr := B.returns; have hlocks := B.notSynchronized
  have ht : ∀ w ∈ lw_g, w.before _ s = true := fun w h => atoms_spec (ws := w_JPre_checkIndex) B.pre w (List.mem_cons_of_mem _ h)
  have hown : s.vm.findClass "jdk/internal/util/Preconditions" = some m.cls := findClass_of_methodNamed B.named
  have hl := lv_entry ([.int p1, .int p2, .ref op3]) (n := 3) (Nat.le_of_ble_eq_true rfl)
  rw [lg_entry_eq]
  generalize (lg_sl ([.int p1, .int p2, .ref op3]) ++ List.replicate (3 - (lg_sl ([.int p1, .int p2, .ref op3])).length) Slot.unset).toArray = ls at hl ⊢
  have hl : lv_has ls 3 [(0, .int p1), (1, .int p2), (2, .ref op3)] := hl
  refine lv_iload_n hx hb d_JPre_checkIndex_0 rfl (lv_at hl 0 rfl) ?_
  refine lv_if_lt (tgt := 9) hx hb d_JPre_checkIndex_1 (by decide) (fun c1 => ?_) (fun c1 => ?_)
  · replace Hf := sq_ite_t Hf c1
    exact sq_none Hf
  · replace Hf := sq_ite_f Hf c1
    refine lv_iload_n hx hb d_JPre_checkIndex_4 rfl (lv_at hl 0 rfl) ?_
    refine lv_iload_n hx hb d_JPre_checkIndex_5 rfl (lv_at hl 1 rfl) ?_
    refine lv_icmp_lt (tgt := 16) hx hb d_JPre_checkIndex_6 (by decide) (fun c2 => ?_) (fun c2 => ?_)
    · replace Hf := sq_ite_t Hf c2
      refine lv_iload_n hx hb d_JPre_checkIndex_16 rfl (lv_at hl 0 rfl) ?_
      have er := Option.some.inj Hf
      exact W.iret hx hb hr (fun t ht hW => ⟨_, rfl, er, ht⟩) (fun q h => by cases h) d_JPre_checkIndex_17
    · replace Hf := sq_ite_f Hf c2
      exact sq_none Hf

def fn_JStr_checkIndex (p1 : Int32) (p2 : Int32) : Option (Unit) :=
  sq_cb1 (fn_JPre_checkIndex_p3 p1 p2) fun r1 => some ()
def rm_JStr_checkIndex : Room := { frames := 1, cells := 0, slots := 0, locals := 22 }
abbrev qc_JStr_checkIndex : Array Value → State → Outcome → State → Prop := va_Sv (fun _ => True)

set_option maxHeartbeats 4000000 in
set_option maxRecDepth 100000 in
theorem kt_JStr_checkIndex (l : Launch) (dC : Nat → ClassId) (dI : Nat → Nat → Nat) (p1 : Int32) (p2 : Int32) (tt : Nat → Nat) (Hf : fn_JStr_checkIndex p1 p2 = some ()) : Met l y_JStr_checkIndex w_JStr_checkIndex rm_JStr_checkIndex (va_Pc [.int p1, .int p2] (fun U => va_P (dC, dI) cl_All ([] : va_W) U.heap ∧ va_K (dC, dI) cl_All [] U ∧ sx_T tt (fun _ => False) U U.heap)) (qc_JStr_checkIndex ) 0 0 (fun _ => False) := by
  refine Met.ofW (cc := prog_22_method_155_code) (maxL := 2) (ret := none) (by decide) rfl ?_
  intro p e s m args below meth c s₁ B hml hv
  obtain ⟨rfl, hP, hK, hX⟩ := hv
  have hx := B.exec; have hb := B.bytes; have hr := B.returns; have hlocks := B.notSynchronized
  have ht : ∀ w ∈ lw_g, w.before _ s = true := fun w h => atoms_spec (ws := w_JStr_checkIndex) B.pre w (List.mem_cons_of_mem _ h)
  have hown : s.vm.findClass "java/lang/String" = some m.cls := findClass_of_methodNamed B.named
  have hl := lv_entry ([.int p1, .int p2]) (n := 2) (Nat.le_of_ble_eq_true rfl)
  rw [lg_entry_eq]
  generalize (lg_sl ([.int p1, .int p2]) ++ List.replicate (2 - (lg_sl ([.int p1, .int p2])).length) Slot.unset).toArray = ls at hl ⊢
  have hl : lv_has ls 2 [(0, .int p1), (1, .int p2)] := hl
  refine lv_iload_n hx hb d_JStr_checkIndex_0 rfl (lv_at hl 0 rfl) ?_
  refine lv_iload_n hx hb d_JStr_checkIndex_1 rfl (lv_at hl 1 rfl) ?_
  rcases hX.fm with hfm | ⟨fm, hfm⟩
  · refine va_gets hx hb hfm va_S.rf hown (ht _ tb_668) (fun _ h => h) d_JStr_checkIndex_2 ?_
    obtain ⟨r1, hc2, Hf⟩ := sq_cb1_e Hf
    refine sq_roi (va_runS (As := [.int p1, .int p2, .null]) (rest := []) ⟨hx, hb, hml, hown, ht⟩ (kt_JPre_checkIndex_p3 l dC dI p1 p2 r1 hc2) (va_cwS 3 ht (sq_gS tb_670 tb_671 tb_23 tb_672) rfl rfl rfl (by decide +kernel) ⟨Nat.le_of_ble_eq_true rfl, Nat.le_of_ble_eq_true rfl⟩) (sq_roS (hP.sub (ws' := ([] : va_W)) [] rfl) (hK.sub (tys' := []) [] rfl)) rfl rfl hl.1 rfl (lv_room (Nat.le_of_ble_eq_true rfl)) d_JStr_checkIndex_5 ⟨Nat.le_of_ble_eq_true rfl, Nat.le_of_ble_eq_true rfl⟩) ?_
    refine lv_pop hx hb d_JStr_checkIndex_8 rfl ?_
    exact W.vret hx hb hr (fun t ht hW => ⟨rfl, trivial, ht⟩) (fun q h => by cases h) d_JStr_checkIndex_9
  · refine va_gets hx hb hfm va_S.rf hown (ht _ tb_668) (fun _ h => h) d_JStr_checkIndex_2 ?_
    obtain ⟨r3, hc4, Hf⟩ := sq_cb1_e Hf
    refine sq_roi (va_runS (As := [.int p1, .int p2, .ref fm]) (rest := []) ⟨hx, hb, hml, hown, ht⟩ (kt_JPre_checkIndex_p3O l dC dI fm p1 p2 r3 hc4) (va_cwS 3 ht (sq_gS tb_670 tb_671 tb_23 tb_672) rfl rfl rfl (by decide +kernel) ⟨Nat.le_of_ble_eq_true rfl, Nat.le_of_ble_eq_true rfl⟩) (sq_roS (hP.sub (ws' := ([] : va_W)) [] rfl) (hK.sub (tys' := []) [] rfl)) rfl rfl hl.1 rfl (lv_room (Nat.le_of_ble_eq_true rfl)) d_JStr_checkIndex_5 ⟨Nat.le_of_ble_eq_true rfl, Nat.le_of_ble_eq_true rfl⟩) ?_
    refine lv_pop hx hb d_JStr_checkIndex_8 rfl ?_
    exact W.vret hx hb hr (fun t ht hW => ⟨rfl, trivial, ht⟩) (fun q h => by cases h) d_JStr_checkIndex_9

def fn_JLat_charAt_p1T (p2 : Int32) (lenp1 : Nat) (vp1 : Nat → Int32) : Option (Int32) :=
  sq_cb0 (fn_JStr_checkIndex p2 (Int32.ofNat lenp1)) fun _ => sq_gi p2 lenp1 <| sq_bd (vp1 p2.toNatClampNeg) fun x3 => sq_bd (sq_i2c (x3 &&& (255 : Int32))) fun x4 => sq_gch x4 <| some (x4)
def rm_JLat_charAt_p1T : Room := { frames := 2, cells := 0, slots := 0, locals := 43 }
abbrev qc_JLat_charAt_p1T (r0 : Int32) : Array Value → State → Outcome → State → Prop := vp_Si (fun r => r = r0)

set_option maxHeartbeats 4000000 in
set_option maxRecDepth 100000 in
theorem kt_JLat_charAt_p1T (l : Launch) (dC : Nat → ClassId) (dI : Nat → Nat → Nat) (tp1 : Nat) (lenp1 : Nat) (vp1 : Nat → Int32) (p2 : Int32) (tt : Nat → Nat) (r0 : Int32) (Hf : fn_JLat_charAt_p1T p2 lenp1 vp1 = some r0) : Met l y_JLat_charAt w_JLat_charAt rm_JLat_charAt_p1T (va_Pc [.ref tp1, .int p2] (fun U => va_P (dC, dI) cl_All ([] : va_W) U.heap ∧ va_K (dC, dI) cl_All [] U ∧ va_T .byte tp1 lenp1 (fun j => .int (vp1 j)) (fun _ => False) U U.heap ∧ sx_T tt (fun _ => False) U U.heap)) (qc_JLat_charAt_p1T r0) 0 0 (fun _ => False) := by
  refine Met.ofW (cc := prog_23_method_2_code) (maxL := 2) (ret := (some .char)) (by decide) rfl ?_
  intro p e s m args below meth c s₁ B hml hv
  obtain ⟨rfl, hP, hK, hTp1, hX⟩ := hv
  have hx := B.exec; have hb := B.bytes; have hr := B.returns; have hlocks := B.notSynchronized
  have ht : ∀ w ∈ lw_g, w.before _ s = true := fun w h => atoms_spec (ws := w_JLat_charAt) B.pre w (List.mem_cons_of_mem _ h)
  have hown : s.vm.findClass "java/lang/StringLatin1" = some m.cls := findClass_of_methodNamed B.named
  have hl := lv_entry ([.ref tp1, .int p2]) (n := 2) (Nat.le_of_ble_eq_true rfl)
  rw [lg_entry_eq]
  generalize (lg_sl ([.ref tp1, .int p2]) ++ List.replicate (2 - (lg_sl ([.ref tp1, .int p2])).length) Slot.unset).toArray = ls at hl ⊢
  have hl : lv_has ls 2 [(0, .ref tp1), (1, .int p2)] := hl
  refine lv_iload_n hx hb d_JLat_charAt_0 rfl (lv_at hl 1 rfl) ?_
  refine lv_aload_n hx hb d_JLat_charAt_1 rfl (lv_at hl 0 rfl) ?_
  refine va_tlen hx hb hTp1 va_S.rf (v := Int32.ofNat lenp1) rfl d_JLat_charAt_2 ?_
  obtain ⟨hc1, Hf⟩ := sq_cb0_e Hf
  refine sq_rov (va_runS (As := [.int p2, .int (Int32.ofNat lenp1)]) (rest := []) ⟨hx, hb, hml, hown, ht⟩ (kt_JStr_checkIndex l dC dI p2 (Int32.ofNat lenp1) tt hc1) (va_cwS 2 ht (sq_gS tb_665 tb_666 tb_20 tb_667) rfl rfl rfl (by decide +kernel) ⟨Nat.le_of_ble_eq_true rfl, Nat.le_of_ble_eq_true rfl⟩) (sq_roSX (hP.sub (ws' := ([] : va_W)) [] rfl) (hK.sub (tys' := []) [] rfl) hX va_S.rf (fun _ h => h.elim)) rfl rfl hl.1 rfl (lv_room (Nat.le_of_ble_eq_true rfl)) d_JLat_charAt_3 ⟨Nat.le_of_ble_eq_true rfl, Nat.le_of_ble_eq_true rfl⟩) ?_
  refine lv_aload_n hx hb d_JLat_charAt_6 rfl (lv_at hl 0 rfl) ?_
  refine lv_iload_n hx hb d_JLat_charAt_7 rfl (lv_at hl 1 rfl) ?_
  obtain ⟨hi2, Hf⟩ := sq_gi_e Hf
  refine va_tb hx hb hTp1 va_S.rf hi2 rfl d_JLat_charAt_8 ?_
  obtain ⟨x3, ex3, Hf⟩ := sq_bd_e Hf
  refine sq_top ex3 ?_
  refine lv_sipush (v := (255 : Int32)) hx hb d_JLat_charAt_9 (by decide) ?_
  refine lv_iand hx hb d_JLat_charAt_12 ?_
  refine lv_i2c hx hb d_JLat_charAt_13 rfl ?_
  obtain ⟨x4, ex4, Hf⟩ := sq_bd_e Hf
  refine sq_top ex4 ?_
  obtain ⟨hb5, Hf⟩ := sq_gch_e Hf
  have er := Option.some.inj Hf
  exact W.zret hx hb hr (sq_nch hb5) (fun t ht hW => ⟨_, rfl, er, ht⟩) (fun q h => by cases h) d_JLat_charAt_14

def fn_JStr_charAt_thisK (p1 : Int32) : Option (Int32) :=
  sq_cb1 (fn_JLat_charAt_p1T p1 45 tv_SIGNS) fun r4 => sq_gch r4 <| some (r4)
def rm_JStr_charAt_thisK : Room := { frames := 3, cells := 0, slots := 0, locals := 64 }
abbrev qc_JStr_charAt_thisK (r0 : Int32) : Array Value → State → Outcome → State → Prop := vp_Si (fun r => r = r0)

set_option maxHeartbeats 4000000 in
set_option maxRecDepth 100000 in
theorem kt_JStr_charAt_thisK (l : Launch) (dC : Nat → ClassId) (dI : Nat → Nat → Nat) (p1 : Int32) (tt : Nat → Nat) (r0 : Int32) (Hf : fn_JStr_charAt_thisK p1 = some r0) : Met l y_JStr_charAt w_JStr_charAt rm_JStr_charAt_thisK (va_Pc [.ref (tt 7), .int p1] (fun U => va_P (dC, dI) cl_All ([] : va_W) U.heap ∧ va_K (dC, dI) cl_All [] U ∧ sx_T tt (fun _ => False) U U.heap)) (qc_JStr_charAt_thisK r0) 0 0 (fun _ => False) := by
  refine Met.ofW (cc := prog_22_method_56_code) (maxL := 2) (ret := (some .char)) (by decide) rfl ?_
  intro p e s m args below meth c s₁ B hml hv
  obtain ⟨rfl, hP, hK, hX⟩ := hv
  have hx := B.exec; have hb := B.bytes; have hr := B.returns; have hlocks := B.notSynchronized
  have ht : ∀ w ∈ lw_g, w.before _ s = true := fun w h => atoms_spec (ws := w_JStr_charAt) B.pre w (List.mem_cons_of_mem _ h)
  have hown : s.vm.findClass "java/lang/String" = some m.cls := findClass_of_methodNamed B.named
  have hl := lv_entry ([.ref (tt 7), .int p1]) (n := 2) (Nat.le_of_ble_eq_true rfl)
  rw [lg_entry_eq]
  generalize (lg_sl ([.ref (tt 7), .int p1]) ++ List.replicate (2 - (lg_sl ([.ref (tt 7), .int p1])).length) Slot.unset).toArray = ls at hl ⊢
  have hl : lv_has ls 2 [(0, .ref (tt 7)), (1, .int p1)] := hl
  refine lv_aload_n hx hb d_JStr_charAt_0 rfl (lv_at hl 0 rfl) ?_
  refine sq_roi (va_runV (As := []) (rest := []) ⟨hx, hb, hml, hown, ht⟩ (kt_JStr_isLatin1_thisK l dC dI tt (1 : Int32) rfl) (cwV 0 ht (sq_gV tb_658 tb_659 tb_660 tb_20 tb_661) rfl rfl rfl (by decide +kernel) ⟨Nat.le_of_ble_eq_true rfl, Nat.le_of_ble_eq_true rfl⟩) (sq_roVX (hP.sub (ws' := ([] : va_W)) [] rfl) (hK.sub (tys' := []) [] rfl) (vk_recv hX.str (i := 0) Nat.zero_lt_one va_S.rf) hX va_S.rf (fun _ h => h.elim)) rfl rfl hl.1 rfl (lv_room (Nat.le_of_ble_eq_true rfl)) d_JStr_charAt_1 ⟨Nat.le_of_ble_eq_true rfl, Nat.le_of_ble_eq_true rfl⟩) ?_
  refine lv_if_eq (tgt := 16) hx hb d_JStr_charAt_4 (by decide) (fun c3 => absurd c3 (by decide)) (fun c3 => ?_)
  refine lv_aload_n hx hb d_JStr_charAt_7 rfl (lv_at hl 0 rfl) ?_
  refine vk_getf hx hb hX.kvalue va_S.rf hown (ht _ tb_1443) (fun _ h => h) d_JStr_charAt_8 ?_
  refine lv_iload_n hx hb d_JStr_charAt_11 rfl (lv_at hl 1 rfl) ?_
  obtain ⟨r4, hc5, Hf⟩ := sq_cb1_e Hf
  refine sq_roi (va_runS (As := [.ref (tt 8), .int p1]) (rest := []) ⟨hx, hb, hml, hown, ht⟩ (kt_JLat_charAt_p1T l dC dI (tt 8) 45 tv_SIGNS p1 tt r4 hc5) (va_cwS 2 ht (sq_gS tb_662 tb_663 tb_21 tb_664) rfl rfl rfl (by decide +kernel) ⟨Nat.le_of_ble_eq_true rfl, Nat.le_of_ble_eq_true rfl⟩) (sq_roTX (hP.sub (ws' := ([] : va_W)) [] rfl) (hK.sub (tys' := []) [] rfl) hX.kt va_S.rf hX va_S.rf (fun _ h => h.elim)) rfl rfl hl.1 rfl (lv_room (Nat.le_of_ble_eq_true rfl)) d_JStr_charAt_12 ⟨Nat.le_of_ble_eq_true rfl, Nat.le_of_ble_eq_true rfl⟩) ?_
  obtain ⟨hb6, Hf⟩ := sq_gch_e Hf
  have er := Option.some.inj Hf
  exact W.zret hx hb hr (sq_nch hb6) (fun t ht hW => ⟨_, rfl, er, ht⟩) (fun q h => by cases h) d_JStr_charAt_15

def fn_Mode_byteOf (p1 : Int32) (p2 : Int32) : Option (Int32) :=
  sq_jn (fun (x1 : Int32) => if x1 = 0 then (some (p2)) else (sq_cb1 (fn_JStr_charAt_thisK p2) fun r4 => some (r4))) fun k2 => sq_jn (fun (_ : Unit) => k2 (0 : Int32)) fun k6 => if p1 = (2 : Int32) then (k6 ()) else (if p2 < 0 then (k6 ()) else (sq_cb1 (fn_JStr_length_thisK ) fun r9 => if r9 ≤ p2 then (k6 ()) else (k2 (1 : Int32))))
def rm_Mode_byteOf : Room := { frames := 4, cells := 0, slots := 0, locals := 85 }
abbrev qc_Mode_byteOf (r0 : Int32) : Array Value → State → Outcome → State → Prop := vp_Si (fun r => r = r0)

set_option maxHeartbeats 4000000 in
set_option maxRecDepth 100000 in
theorem kt_Mode_byteOf (l : Launch) (dC : Nat → ClassId) (dI : Nat → Nat → Nat) (p1 : Int32) (p2 : Int32) (tt : Nat → Nat) (r0 : Int32) (Hf : fn_Mode_byteOf p1 p2 = some r0) : Met l y_Mode_byteOf w_Mode_byteOf rm_Mode_byteOf (va_Pc [.int p1, .int p2] (fun U => va_P (dC, dI) cl_All ([] : va_W) U.heap ∧ va_K (dC, dI) cl_All [] U ∧ sx_T tt (fun _ => False) U U.heap)) (qc_Mode_byteOf r0) 0 0 (fun _ => False) := by
  refine Met.ofW (cc := prog_9_method_8_code) (maxL := 3) (ret := (some .int)) (by decide) rfl ?_
  intro p e s m args below meth c s₁ B hml hv
  obtain ⟨rfl, hP, hK, hX⟩ := hv
  have hx := B.exec; have hb := B.bytes; have hr := B.returns; have hlocks := B.notSynchronized
  have ht : ∀ w ∈ lw_g, w.before _ s = true := fun w h => atoms_spec (ws := w_Mode_byteOf) B.pre w (List.mem_cons_of_mem _ h)
  have hown : s.vm.findClass "SquareSymbols$Mode" = some m.cls := findClass_of_methodNamed B.named
  have hl := lv_entry ([.int p1, .int p2]) (n := 3) (Nat.le_of_ble_eq_true rfl)
  rw [lg_entry_eq]
  generalize (lg_sl ([.int p1, .int p2]) ++ List.replicate (3 - (lg_sl ([.int p1, .int p2])).length) Slot.unset).toArray = ls at hl ⊢
  have hl : lv_has ls 3 [(0, .int p1), (1, .int p2)] := hl
  refine lv_iload_n hx hb d_Mode_byteOf_0 rfl (lv_at hl 0 rfl) ?_
  refine lv_iconst (v := (2 : Int32)) hx hb d_Mode_byteOf_1 (by decide) ?_
  obtain ⟨k2, hk2, Hf⟩ := sq_jn_e Hf
  have Jk2 : ∀ (x1 : Int32), k2 x1 = some r0 → ∀ ls : Array Slot, lv_has ls 3 [(1, .int p2)] → W p l e (headSpec w_Mode_byteOf rm_Mode_byteOf).room s m (([.int p1, .int p2] : List Value).toArray) below meth c s.heap [] 0 0 (MQ below (qc_Mode_byteOf r0) (([.int p1, .int p2] : List Value).toArray) s 0 0 (fun _ => False)) (F0 m 23 ls [.int x1]) := by
    intro x1 Hf ls hl
    rw [hk2] at Hf
    refine lv_istore_n (lv' := [(2, .int x1), (1, .int p2)]) hx hb d_Mode_byteOf_23 rfl hl (by decide) rfl (fun ls hl => ?_)
    refine lv_iload_n hx hb d_Mode_byteOf_24 rfl (lv_at hl 0 rfl) ?_
    refine lv_if_eq (tgt := 37) hx hb d_Mode_byteOf_25 (by decide) (fun c3 => ?_) (fun c3 => ?_)
    · replace Hf := sq_ite_t Hf c3
      refine lv_iload_n hx hb d_Mode_byteOf_37 rfl (lv_at hl 1 rfl) ?_
      have er := Option.some.inj Hf
      exact W.iret hx hb hr (fun t ht hW => ⟨_, rfl, er, ht⟩) (fun q h => by cases h) d_Mode_byteOf_38
    · replace Hf := sq_ite_f Hf c3
      refine va_ldcS hx hb hown hX.kr d_Mode_byteOf_28 ?_
      refine lv_iload_n hx hb d_Mode_byteOf_30 rfl (lv_at hl 1 rfl) ?_
      obtain ⟨r4, hc5, Hf⟩ := sq_cb1_e Hf
      refine sq_roi (va_runV (As := [.int p2]) (rest := []) ⟨hx, hb, hml, hown, ht⟩ (kt_JStr_charAt_thisK l dC dI p2 tt r4 hc5) (cwV 1 ht (sq_gV tb_654 tb_655 tb_656 tb_20 tb_657) rfl rfl rfl (by decide +kernel) ⟨Nat.le_of_ble_eq_true rfl, Nat.le_of_ble_eq_true rfl⟩) (sq_roVX (hP.sub (ws' := ([] : va_W)) [] rfl) (hK.sub (tys' := []) [] rfl) (vk_recv hX.str (i := 0) Nat.zero_lt_one va_S.rf) hX va_S.rf (fun _ h => h.elim)) rfl rfl hl.1 rfl (lv_room (Nat.le_of_ble_eq_true rfl)) d_Mode_byteOf_31 ⟨Nat.le_of_ble_eq_true rfl, Nat.le_of_ble_eq_true rfl⟩) ?_
      refine lv_goto (tgt := 38) hx hb d_Mode_byteOf_34 (by decide) ?_
      have er := Option.some.inj Hf
      exact W.iret hx hb hr (fun t ht hW => ⟨_, rfl, er, ht⟩) (fun q h => by cases h) d_Mode_byteOf_38
  obtain ⟨k6, hk6, Hf⟩ := sq_jn_e Hf
  have Jk6 : ∀ (_u : Unit), k6 _u = some r0 → ∀ ls : Array Slot, lv_has ls 3 [(1, .int p2)] → W p l e (headSpec w_Mode_byteOf rm_Mode_byteOf).room s m (([.int p1, .int p2] : List Value).toArray) below meth c s.heap [] 0 0 (MQ below (qc_Mode_byteOf r0) (([.int p1, .int p2] : List Value).toArray) s 0 0 (fun _ => False)) (F0 m 22 ls []) := by
    intro _u Hf ls hl
    rw [hk6] at Hf
    refine lv_iconst (v := (0 : Int32)) hx hb d_Mode_byteOf_22 (by decide) ?_
    exact Jk2 (0 : Int32) Hf _ (lv_sub hl [0] rfl)
  refine lv_icmp_eq (tgt := 22) hx hb d_Mode_byteOf_2 (by decide) (fun c7 => ?_) (fun c7 => ?_)
  · replace Hf := sq_ite_t Hf c7
    exact Jk6 () Hf _ (lv_sub hl [1] rfl)
  · replace Hf := sq_ite_f Hf c7
    refine lv_iload_n hx hb d_Mode_byteOf_5 rfl (lv_at hl 1 rfl) ?_
    refine lv_if_lt (tgt := 22) hx hb d_Mode_byteOf_6 (by decide) (fun c8 => ?_) (fun c8 => ?_)
    · replace Hf := sq_ite_t Hf c8
      exact Jk6 () Hf _ (lv_sub hl [1] rfl)
    · replace Hf := sq_ite_f Hf c8
      refine lv_iload_n hx hb d_Mode_byteOf_9 rfl (lv_at hl 1 rfl) ?_
      refine va_ldcS hx hb hown hX.kr d_Mode_byteOf_10 ?_
      obtain ⟨r9, hc10, Hf⟩ := sq_cb1_e Hf
      refine sq_roi (va_runV (As := []) (rest := [.int p2]) ⟨hx, hb, hml, hown, ht⟩ (kt_JStr_length_thisK l dC dI tt r9 hc10) (cwV 0 ht (sq_gV tb_644 tb_645 tb_646 tb_20 tb_647) rfl rfl rfl (by decide +kernel) ⟨Nat.le_of_ble_eq_true rfl, Nat.le_of_ble_eq_true rfl⟩) (sq_roVX (hP.sub (ws' := ([] : va_W)) [] rfl) (hK.sub (tys' := []) [] rfl) (vk_recv hX.str (i := 0) Nat.zero_lt_one va_S.rf) hX va_S.rf (fun _ h => h.elim)) rfl rfl hl.1 rfl (lv_room (Nat.le_of_ble_eq_true rfl)) d_Mode_byteOf_12 ⟨Nat.le_of_ble_eq_true rfl, Nat.le_of_ble_eq_true rfl⟩) ?_
      refine lv_icmp_ge (tgt := 22) hx hb d_Mode_byteOf_15 (by decide) (fun c11 => ?_) (fun c11 => ?_)
      · replace Hf := sq_ite_t Hf c11
        exact Jk6 () Hf _ (lv_sub hl [1] rfl)
      · replace Hf := sq_ite_f Hf c11
        refine lv_iconst (v := (1 : Int32)) hx hb d_Mode_byteOf_18 (by decide) ?_
        refine lv_goto (tgt := 23) hx hb d_Mode_byteOf_19 (by decide) ?_
        exact Jk2 (1 : Int32) Hf _ (lv_sub hl [1] rfl)

def fn_JLat_canEncode (p1 : Int32) : Option (Int32) :=
  if p1 < 0 then (some ((0 : Int32))) else (if (255 : Int32) < p1 then (some ((0 : Int32))) else (some ((1 : Int32))))
def rm_JLat_canEncode : Room := { frames := 0, cells := 0, slots := 0, locals := 0 }
abbrev qc_JLat_canEncode (r0 : Int32) : Array Value → State → Outcome → State → Prop := vp_Si (fun r => r = r0)

set_option maxHeartbeats 4000000 in
set_option maxRecDepth 100000 in
theorem kt_JLat_canEncode (l : Launch) (dC : Nat → ClassId) (dI : Nat → Nat → Nat) (p1 : Int32) (r0 : Int32) (Hf : fn_JLat_canEncode p1 = some r0) : Met l y_JLat_canEncode w_JLat_canEncode rm_JLat_canEncode (va_Pc [.int p1] (fun U => va_P (dC, dI) cl_All ([] : va_W) U.heap ∧ va_K (dC, dI) cl_All [] U)) (qc_JLat_canEncode r0) 0 0 (fun _ => False) := by
  refine Met.ofW (cc := prog_23_method_4_code) (maxL := 1) (ret := (some .boolean)) (by decide) rfl ?_
  intro p e s m args below meth c s₁ B hml hv
  obtain ⟨rfl, hP, hK⟩ := hv
  have hx := B.exec; have hb := B.bytes; have hr := B.returns; have hlocks := B.notSynchronized
  have ht : ∀ w ∈ lw_g, w.before _ s = true := fun w h => atoms_spec (ws := w_JLat_canEncode) B.pre w (List.mem_cons_of_mem _ h)
  have hown : s.vm.findClass "java/lang/StringLatin1" = some m.cls := findClass_of_methodNamed B.named
  have hl := lv_entry ([.int p1]) (n := 1) (Nat.le_of_ble_eq_true rfl)
  rw [lg_entry_eq]
  generalize (lg_sl ([.int p1]) ++ List.replicate (1 - (lg_sl ([.int p1])).length) Slot.unset).toArray = ls at hl ⊢
  have hl : lv_has ls 1 [(0, .int p1)] := hl
  refine lv_iload_n hx hb d_JLat_canEncode_0 rfl (lv_at hl 0 rfl) ?_
  refine lv_if_lt (tgt := 15) hx hb d_JLat_canEncode_1 (by decide) (fun c1 => ?_) (fun c1 => ?_)
  · replace Hf := sq_ite_t Hf c1
    refine lv_iconst (v := (0 : Int32)) hx hb d_JLat_canEncode_15 (by decide) ?_
    have er := Option.some.inj Hf
    exact W.zret hx hb hr rfl (fun t ht hW => ⟨_, rfl, er, ht⟩) (fun q h => by cases h) d_JLat_canEncode_16
  · replace Hf := sq_ite_f Hf c1
    refine lv_iload_n hx hb d_JLat_canEncode_4 rfl (lv_at hl 0 rfl) ?_
    refine lv_sipush (v := (255 : Int32)) hx hb d_JLat_canEncode_5 (by decide) ?_
    refine lv_icmp_gt (tgt := 15) hx hb d_JLat_canEncode_8 (by decide) (fun c2 => ?_) (fun c2 => ?_)
    · replace Hf := sq_ite_t Hf c2
      refine lv_iconst (v := (0 : Int32)) hx hb d_JLat_canEncode_15 (by decide) ?_
      have er := Option.some.inj Hf
      exact W.zret hx hb hr rfl (fun t ht hW => ⟨_, rfl, er, ht⟩) (fun q h => by cases h) d_JLat_canEncode_16
    · replace Hf := sq_ite_f Hf c2
      refine lv_iconst (v := (1 : Int32)) hx hb d_JLat_canEncode_11 (by decide) ?_
      refine lv_goto (tgt := 16) hx hb d_JLat_canEncode_12 (by decide) ?_
      have er := Option.some.inj Hf
      exact W.zret hx hb hr rfl (fun t ht hW => ⟨_, rfl, er, ht⟩) (fun q h => by cases h) d_JLat_canEncode_16

def fn_JLat_indexOfChar_p1T_L1 (p4 : Int32) (lenp1 : Nat) (vp1 : Nat → Int32) (x1 : Int32) : Nat → Int32 → Option (Int32)
  | 0, _ => none
  | m1 + 1, x2 => if p4 ≤ x2 then (some ((-1 : Int32))) else (sq_gi x2 lenp1 <| sq_bd (vp1 x2.toNatClampNeg) fun x5 => if x5 = x1 then (some (x2)) else (sq_bd (x2 + (1 : Int32)) fun x7 => fn_JLat_indexOfChar_p1T_L1 p4 lenp1 vp1 x1 m1 x7))
theorem fn_JLat_indexOfChar_p1T_L1_s (p4 : Int32) (lenp1 : Nat) (vp1 : Nat → Int32) (x1 : Int32) (m1 : Nat) (x2 : Int32) : fn_JLat_indexOfChar_p1T_L1 p4 lenp1 vp1 x1 (m1 + 1) x2 = if p4 ≤ x2 then (some ((-1 : Int32))) else (sq_gi x2 lenp1 <| sq_bd (vp1 x2.toNatClampNeg) fun x5 => if x5 = x1 then (some (x2)) else (sq_bd (x2 + (1 : Int32)) fun x7 => fn_JLat_indexOfChar_p1T_L1 p4 lenp1 vp1 x1 m1 x7)) := rfl
def fn_JLat_indexOfChar_p1T (n0 : Nat) (p2 : Int32) (p3 : Int32) (p4 : Int32) (lenp1 : Nat) (vp1 : Nat → Int32) : Option (Int32) :=
  sq_bd (sq_i2b p2) fun x1 => fn_JLat_indexOfChar_p1T_L1 p4 lenp1 vp1 x1 n0 p3
def rm_JLat_indexOfChar_p1T : Room := { frames := 0, cells := 0, slots := 0, locals := 0 }
abbrev qc_JLat_indexOfChar_p1T (r0 : Int32) : Array Value → State → Outcome → State → Prop := vp_Si (fun r => r = r0)

set_option maxHeartbeats 4000000 in
set_option maxRecDepth 100000 in
theorem kt_JLat_indexOfChar_p1T (l : Launch) (dC : Nat → ClassId) (dI : Nat → Nat → Nat) (tp1 : Nat) (lenp1 : Nat) (vp1 : Nat → Int32) (p2 : Int32) (p3 : Int32) (p4 : Int32) (n0 : Nat) (r0 : Int32) (Hf : fn_JLat_indexOfChar_p1T n0 p2 p3 p4 lenp1 vp1 = some r0) : Met l y_JLat_indexOfChar w_JLat_indexOfChar rm_JLat_indexOfChar_p1T (va_Pc [.ref tp1, .int p2, .int p3, .int p4] (fun U => va_P (dC, dI) cl_All ([] : va_W) U.heap ∧ va_K (dC, dI) cl_All [] U ∧ va_T .byte tp1 lenp1 (fun j => .int (vp1 j)) (fun _ => False) U U.heap)) (qc_JLat_indexOfChar_p1T r0) 0 0 (fun _ => False) := by
  refine Met.ofW (cc := prog_23_method_23_code) (maxL := 6) (ret := (some .int)) (by decide) rfl ?_
  intro p e s m args below meth c s₁ B hml hv
  obtain ⟨rfl, hP, hK, hTp1⟩ := hv
  have hx := B.exec; have hb := B.bytes; have hr := B.returns; have hlocks := B.notSynchronized
  have ht : ∀ w ∈ lw_g, w.before _ s = true := fun w h => atoms_spec (ws := w_JLat_indexOfChar) B.pre w (List.mem_cons_of_mem _ h)
  have hown : s.vm.findClass "java/lang/StringLatin1" = some m.cls := findClass_of_methodNamed B.named
  have hl := lv_entry ([.ref tp1, .int p2, .int p3, .int p4]) (n := 6) (Nat.le_of_ble_eq_true rfl)
  rw [lg_entry_eq]
  generalize (lg_sl ([.ref tp1, .int p2, .int p3, .int p4]) ++ List.replicate (6 - (lg_sl ([.ref tp1, .int p2, .int p3, .int p4])).length) Slot.unset).toArray = ls at hl ⊢
  have hl : lv_has ls 6 [(0, .ref tp1), (1, .int p2), (2, .int p3), (3, .int p4)] := hl
  refine lv_iload_n hx hb d_JLat_indexOfChar_0 rfl (lv_at hl 1 rfl) ?_
  refine lv_i2b hx hb d_JLat_indexOfChar_1 rfl ?_
  obtain ⟨x1, ex1, Hf⟩ := sq_bd_e Hf
  refine sq_top ex1 ?_
  refine lv_istore (lv' := [(4, .int x1), (0, .ref tp1), (1, .int p2), (2, .int p3), (3, .int p4)]) hx hb d_JLat_indexOfChar_2 hl (by decide) rfl (fun ls hl => ?_)
  refine lv_iload_n hx hb d_JLat_indexOfChar_4 rfl (lv_at hl 3 rfl) ?_
  refine lv_istore (lv' := [(5, .int p3), (4, .int x1), (0, .ref tp1), (1, .int p2), (2, .int p3), (3, .int p4)]) hx hb d_JLat_indexOfChar_5 hl (by decide) rfl (fun ls hl => ?_)
  have L1 : ∀ (m1 : Nat), ∀ (x2 : Int32), fn_JLat_indexOfChar_p1T_L1 p4 lenp1 vp1 x1 m1 x2 = some r0 → ∀ ls : Array Slot, lv_has ls 6 [(0, .ref tp1), (3, .int p4), (4, .int x1), (5, .int x2)] → W p l e (headSpec w_JLat_indexOfChar rm_JLat_indexOfChar_p1T).room s m (([.ref tp1, .int p2, .int p3, .int p4] : List Value).toArray) below meth c s.heap [] 0 0 (MQ below (qc_JLat_indexOfChar_p1T r0) (([.ref tp1, .int p2, .int p3, .int p4] : List Value).toArray) s 0 0 (fun _ => False)) (F0 m 7 ls []) := by
    intro m1
    induction m1 with
    | zero => intro x2 Hf; exact sq_none Hf
    | succ m1 ih1 =>
      intro x2 Hf ls hl
      replace Hf := (fn_JLat_indexOfChar_p1T_L1_s p4 lenp1 vp1 x1 m1 x2).symm.trans Hf
      refine lv_iload hx hb d_JLat_indexOfChar_7 (lv_at hl 3 rfl) ?_
      refine lv_iload_n hx hb d_JLat_indexOfChar_9 rfl (lv_at hl 1 rfl) ?_
      refine lv_icmp_ge (tgt := 31) hx hb d_JLat_indexOfChar_10 (by decide) (fun c3 => ?_) (fun c3 => ?_)
      · replace Hf := sq_ite_t Hf c3
        refine lv_iconst (v := (-1 : Int32)) hx hb d_JLat_indexOfChar_31 (by decide) ?_
        have er := Option.some.inj Hf
        exact W.iret hx hb hr (fun t ht hW => ⟨_, rfl, er, ht⟩) (fun q h => by cases h) d_JLat_indexOfChar_32
      · replace Hf := sq_ite_f Hf c3
        refine lv_aload_n hx hb d_JLat_indexOfChar_13 rfl (lv_at hl 0 rfl) ?_
        refine lv_iload hx hb d_JLat_indexOfChar_14 (lv_at hl 3 rfl) ?_
        obtain ⟨hi4, Hf⟩ := sq_gi_e Hf
        refine va_tb hx hb hTp1 va_S.rf hi4 rfl d_JLat_indexOfChar_16 ?_
        obtain ⟨x5, ex5, Hf⟩ := sq_bd_e Hf
        refine sq_top ex5 ?_
        refine lv_iload hx hb d_JLat_indexOfChar_17 (lv_at hl 2 rfl) ?_
        refine lv_icmp_ne (tgt := 25) hx hb d_JLat_indexOfChar_19 (by decide) (fun c6 => ?_) (fun c6 => ?_)
        · replace Hf := sq_ite_f Hf c6
          obtain ⟨x7, ex7, Hf⟩ := sq_bd_e Hf
          refine lv_iinc (v := x7) (lv' := [(5, .int x7), (0, .ref tp1), (3, .int p4), (4, .int x1)]) hx hb d_JLat_indexOfChar_25 hl (k := 3) rfl (by rw [ex7]; rfl) (by decide) rfl (fun ls hl => ?_)
          refine lv_goto (tgt := 7) hx hb d_JLat_indexOfChar_28 (by decide) ?_
          exact ih1 x7 Hf _ (lv_sub hl [1, 2, 3, 0] rfl)
        · replace Hf := sq_ite_t Hf c6
          refine lv_iload hx hb d_JLat_indexOfChar_22 (lv_at hl 3 rfl) ?_
          have er := Option.some.inj Hf
          exact W.iret hx hb hr (fun t ht hW => ⟨_, rfl, er, ht⟩) (fun q h => by cases h) d_JLat_indexOfChar_24
  exact L1 n0 p3 Hf _ (lv_sub hl [2, 5, 1, 0] rfl)

def fn_JLat_indexOf_p1T (n0 : Nat) (p2 : Int32) (p3 : Int32) (p4 : Int32) (lenp1 : Nat) (vp1 : Nat → Int32) : Option (Int32) :=
  sq_cb1 (fn_JLat_canEncode p2) fun r1 => if r1 = 0 then (some ((-1 : Int32))) else (sq_bd (sq_max p3 (0 : Int32)) fun x4 => sq_bd (Int32.ofNat lenp1) fun x5 => sq_bd (sq_min p4 x5) fun x6 => if x4 < x6 then (sq_cb1 (fn_JLat_indexOfChar_p1T n0 p2 x4 x6 lenp1 vp1) fun r8 => some (r8)) else (some ((-1 : Int32))))
def rm_JLat_indexOf_p1T : Room := { frames := 1, cells := 0, slots := 0, locals := 25 }
abbrev qc_JLat_indexOf_p1T (r0 : Int32) : Array Value → State → Outcome → State → Prop := vp_Si (fun r => r = r0)

set_option maxHeartbeats 4000000 in
set_option maxRecDepth 100000 in
theorem kt_JLat_indexOf_p1T (l : Launch) (dC : Nat → ClassId) (dI : Nat → Nat → Nat) (tp1 : Nat) (lenp1 : Nat) (vp1 : Nat → Int32) (p2 : Int32) (p3 : Int32) (p4 : Int32) (n0 : Nat) (r0 : Int32) (Hf : fn_JLat_indexOf_p1T n0 p2 p3 p4 lenp1 vp1 = some r0) : Met l y_JLat_indexOf w_JLat_indexOf rm_JLat_indexOf_p1T (va_Pc [.ref tp1, .int p2, .int p3, .int p4] (fun U => va_P (dC, dI) cl_All ([] : va_W) U.heap ∧ va_K (dC, dI) cl_All [] U ∧ va_T .byte tp1 lenp1 (fun j => .int (vp1 j)) (fun _ => False) U U.heap)) (qc_JLat_indexOf_p1T r0) 0 0 (fun _ => False) := by
  refine Met.ofW (cc := prog_23_method_22_code) (maxL := 4) (ret := (some .int)) (by decide) rfl ?_
  intro p e s m args below meth c s₁ B hml hv
  obtain ⟨rfl, hP, hK, hTp1⟩ := hv
  have hx := B.exec; have hb := B.bytes; have hr := B.returns; have hlocks := B.notSynchronized
  have ht : ∀ w ∈ lw_g, w.before _ s = true := fun w h => atoms_spec (ws := w_JLat_indexOf) B.pre w (List.mem_cons_of_mem _ h)
  have hown : s.vm.findClass "java/lang/StringLatin1" = some m.cls := findClass_of_methodNamed B.named
  have hl := lv_entry ([.ref tp1, .int p2, .int p3, .int p4]) (n := 4) (Nat.le_of_ble_eq_true rfl)
  rw [lg_entry_eq]
  generalize (lg_sl ([.ref tp1, .int p2, .int p3, .int p4]) ++ List.replicate (4 - (lg_sl ([.ref tp1, .int p2, .int p3, .int p4])).length) Slot.unset).toArray = ls at hl ⊢
  have hl : lv_has ls 4 [(0, .ref tp1), (1, .int p2), (2, .int p3), (3, .int p4)] := hl
  refine lv_iload_n hx hb d_JLat_indexOf_0 rfl (lv_at hl 1 rfl) ?_
  obtain ⟨r1, hc2, Hf⟩ := sq_cb1_e Hf
  refine sq_roi (va_runS (As := [.int p2]) (rest := []) ⟨hx, hb, hml, hown, ht⟩ (kt_JLat_canEncode l dC dI p2 r1 hc2) (va_cwS 1 ht (sq_gS tb_830 tb_831 tb_21 tb_832) rfl rfl rfl (by decide +kernel) ⟨Nat.le_of_ble_eq_true rfl, Nat.le_of_ble_eq_true rfl⟩) (sq_roS (hP.sub (ws' := ([] : va_W)) [] rfl) (hK.sub (tys' := []) [] rfl)) rfl rfl hl.1 rfl (lv_room (Nat.le_of_ble_eq_true rfl)) d_JLat_indexOf_1 ⟨Nat.le_of_ble_eq_true rfl, Nat.le_of_ble_eq_true rfl⟩) ?_
  refine lv_if_ne (tgt := 9) hx hb d_JLat_indexOf_4 (by decide) (fun c3 => ?_) (fun c3 => ?_)
  · replace Hf := sq_ite_f Hf c3
    refine lv_iload_n hx hb d_JLat_indexOf_9 rfl (lv_at hl 2 rfl) ?_
    refine lv_iconst (v := (0 : Int32)) hx hb d_JLat_indexOf_10 (by decide) ?_
    refine va_mmax hx hb (by rw [hml]; exact hl.1.symm) hown (ht _ tb_833) (ht _ tb_416) (ht _ tb_17) (ht _ tb_417) (Nat.le_of_ble_eq_true rfl) (Nat.le_of_ble_eq_true rfl) (Nat.zero_le _) (Nat.zero_le _) d_JLat_indexOf_11 ?_
    obtain ⟨x4, ex4, Hf⟩ := sq_bd_e Hf
    refine sq_top ex4 ?_
    refine lv_istore_n (lv' := [(2, .int x4), (0, .ref tp1), (1, .int p2), (3, .int p4)]) hx hb d_JLat_indexOf_14 rfl hl (by decide) rfl (fun ls hl => ?_)
    refine lv_iload_n hx hb d_JLat_indexOf_15 rfl (lv_at hl 3 rfl) ?_
    refine lv_aload_n hx hb d_JLat_indexOf_16 rfl (lv_at hl 1 rfl) ?_
    refine va_tlen hx hb hTp1 va_S.rf (v := Int32.ofNat lenp1) rfl d_JLat_indexOf_17 ?_
    obtain ⟨x5, ex5, Hf⟩ := sq_bd_e Hf
    refine sq_top ex5 ?_
    refine va_mmin hx hb (by rw [hml]; exact hl.1.symm) hown (ht _ tb_834) (ht _ tb_427) (ht _ tb_17) (ht _ tb_428) (Nat.le_of_ble_eq_true rfl) (Nat.le_of_ble_eq_true rfl) (Nat.zero_le _) (Nat.zero_le _) d_JLat_indexOf_18 ?_
    obtain ⟨x6, ex6, Hf⟩ := sq_bd_e Hf
    refine sq_top ex6 ?_
    refine lv_istore_n (lv' := [(3, .int x6), (2, .int x4), (0, .ref tp1), (1, .int p2)]) hx hb d_JLat_indexOf_21 rfl hl (by decide) rfl (fun ls hl => ?_)
    refine lv_iload_n hx hb d_JLat_indexOf_22 rfl (lv_at hl 1 rfl) ?_
    refine lv_iload_n hx hb d_JLat_indexOf_23 rfl (lv_at hl 0 rfl) ?_
    refine lv_icmp_lt (tgt := 29) hx hb d_JLat_indexOf_24 (by decide) (fun c7 => ?_) (fun c7 => ?_)
    · replace Hf := sq_ite_t Hf c7
      refine lv_aload_n hx hb d_JLat_indexOf_29 rfl (lv_at hl 2 rfl) ?_
      refine lv_iload_n hx hb d_JLat_indexOf_30 rfl (lv_at hl 3 rfl) ?_
      refine lv_iload_n hx hb d_JLat_indexOf_31 rfl (lv_at hl 1 rfl) ?_
      refine lv_iload_n hx hb d_JLat_indexOf_32 rfl (lv_at hl 0 rfl) ?_
      obtain ⟨r8, hc9, Hf⟩ := sq_cb1_e Hf
      refine sq_roi (va_runS (As := [.ref tp1, .int p2, .int x4, .int x6]) (rest := []) ⟨hx, hb, hml, hown, ht⟩ (kt_JLat_indexOfChar_p1T l dC dI tp1 lenp1 vp1 p2 x4 x6 n0 r8 hc9) (va_cwS 4 ht (sq_gS tb_835 tb_836 tb_21 tb_837) rfl rfl rfl (by decide +kernel) ⟨Nat.le_of_ble_eq_true rfl, Nat.le_of_ble_eq_true rfl⟩) (sq_roT (hP.sub (ws' := ([] : va_W)) [] rfl) (hK.sub (tys' := []) [] rfl) hTp1 va_S.rf) rfl rfl hl.1 rfl (lv_room (Nat.le_of_ble_eq_true rfl)) d_JLat_indexOf_33 ⟨Nat.le_of_ble_eq_true rfl, Nat.le_of_ble_eq_true rfl⟩) ?_
      have er := Option.some.inj Hf
      exact W.iret hx hb hr (fun t ht hW => ⟨_, rfl, er, ht⟩) (fun q h => by cases h) d_JLat_indexOf_36
    · replace Hf := sq_ite_f Hf c7
      refine lv_iconst (v := (-1 : Int32)) hx hb d_JLat_indexOf_27 (by decide) ?_
      have er := Option.some.inj Hf
      exact W.iret hx hb hr (fun t ht hW => ⟨_, rfl, er, ht⟩) (fun q h => by cases h) d_JLat_indexOf_28
  · replace Hf := sq_ite_t Hf c3
    refine lv_iconst (v := (-1 : Int32)) hx hb d_JLat_indexOf_7 (by decide) ?_
    have er := Option.some.inj Hf
    exact W.iret hx hb hr (fun t ht hW => ⟨_, rfl, er, ht⟩) (fun q h => by cases h) d_JLat_indexOf_8

def fn_JStr_indexOf1_thisK (n0 : Nat) (p1 : Int32) (p2 : Int32) : Option (Int32) :=
  sq_cb1 (fn_JStr_length_thisK ) fun r4 => sq_cb1 (fn_JLat_indexOf_p1T n0 p1 p2 r4 45 tv_SIGNS) fun r6 => some (r6)
def rm_JStr_indexOf1_thisK : Room := { frames := 2, cells := 0, slots := 0, locals := 48 }
abbrev qc_JStr_indexOf1_thisK (r0 : Int32) : Array Value → State → Outcome → State → Prop := vp_Si (fun r => r = r0)

set_option maxHeartbeats 4000000 in
set_option maxRecDepth 100000 in
theorem kt_JStr_indexOf1_thisK (l : Launch) (dC : Nat → ClassId) (dI : Nat → Nat → Nat) (p1 : Int32) (p2 : Int32) (tt : Nat → Nat) (n0 : Nat) (r0 : Int32) (Hf : fn_JStr_indexOf1_thisK n0 p1 p2 = some r0) : Met l y_JStr_indexOf1 w_JStr_indexOf1 rm_JStr_indexOf1_thisK (va_Pc [.ref (tt 7), .int p1, .int p2] (fun U => va_P (dC, dI) cl_All ([] : va_W) U.heap ∧ va_K (dC, dI) cl_All [] U ∧ sx_T tt (fun _ => False) U U.heap)) (qc_JStr_indexOf1_thisK r0) 0 0 (fun _ => False) := by
  refine Met.ofW (cc := prog_22_method_80_code) (maxL := 3) (ret := (some .int)) (by decide) rfl ?_
  intro p e s m args below meth c s₁ B hml hv
  obtain ⟨rfl, hP, hK, hX⟩ := hv
  have hx := B.exec; have hb := B.bytes; have hr := B.returns; have hlocks := B.notSynchronized
  have ht : ∀ w ∈ lw_g, w.before _ s = true := fun w h => atoms_spec (ws := w_JStr_indexOf1) B.pre w (List.mem_cons_of_mem _ h)
  have hown : s.vm.findClass "java/lang/String" = some m.cls := findClass_of_methodNamed B.named
  have hl := lv_entry ([.ref (tt 7), .int p1, .int p2]) (n := 3) (Nat.le_of_ble_eq_true rfl)
  rw [lg_entry_eq]
  generalize (lg_sl ([.ref (tt 7), .int p1, .int p2]) ++ List.replicate (3 - (lg_sl ([.ref (tt 7), .int p1, .int p2])).length) Slot.unset).toArray = ls at hl ⊢
  have hl : lv_has ls 3 [(0, .ref (tt 7)), (1, .int p1), (2, .int p2)] := hl
  refine lv_aload_n hx hb d_JStr_indexOf1_0 rfl (lv_at hl 0 rfl) ?_
  refine sq_roi (va_runV (As := []) (rest := []) ⟨hx, hb, hml, hown, ht⟩ (kt_JStr_isLatin1_thisK l dC dI tt (1 : Int32) rfl) (cwV 0 ht (sq_gV tb_658 tb_659 tb_660 tb_20 tb_661) rfl rfl rfl (by decide +kernel) ⟨Nat.le_of_ble_eq_true rfl, Nat.le_of_ble_eq_true rfl⟩) (sq_roVX (hP.sub (ws' := ([] : va_W)) [] rfl) (hK.sub (tys' := []) [] rfl) (vk_recv hX.str (i := 0) Nat.zero_lt_one va_S.rf) hX va_S.rf (fun _ h => h.elim)) rfl rfl hl.1 rfl (lv_room (Nat.le_of_ble_eq_true rfl)) d_JStr_indexOf1_1 ⟨Nat.le_of_ble_eq_true rfl, Nat.le_of_ble_eq_true rfl⟩) ?_
  refine lv_if_eq (tgt := 23) hx hb d_JStr_indexOf1_4 (by decide) (fun c3 => absurd c3 (by decide)) (fun c3 => ?_)
  refine lv_aload_n hx hb d_JStr_indexOf1_7 rfl (lv_at hl 0 rfl) ?_
  refine vk_getf hx hb hX.kvalue va_S.rf hown (ht _ tb_1443) (fun _ h => h) d_JStr_indexOf1_8 ?_
  refine lv_iload_n hx hb d_JStr_indexOf1_11 rfl (lv_at hl 1 rfl) ?_
  refine lv_iload_n hx hb d_JStr_indexOf1_12 rfl (lv_at hl 2 rfl) ?_
  refine lv_aload_n hx hb d_JStr_indexOf1_13 rfl (lv_at hl 0 rfl) ?_
  obtain ⟨r4, hc5, Hf⟩ := sq_cb1_e Hf
  refine sq_roi (va_runV (As := []) (rest := [.int p2, .int p1, .ref (tt 8)]) ⟨hx, hb, hml, hown, ht⟩ (kt_JStr_length_thisK l dC dI tt r4 hc5) (cwV 0 ht (sq_gV tb_826 tb_645 tb_646 tb_20 tb_647) rfl rfl rfl (by decide +kernel) ⟨Nat.le_of_ble_eq_true rfl, Nat.le_of_ble_eq_true rfl⟩) (sq_roVX (hP.sub (ws' := ([] : va_W)) [] rfl) (hK.sub (tys' := []) [] rfl) (vk_recv hX.str (i := 0) Nat.zero_lt_one va_S.rf) hX va_S.rf (fun _ h => h.elim)) rfl rfl hl.1 rfl (lv_room (Nat.le_of_ble_eq_true rfl)) d_JStr_indexOf1_14 ⟨Nat.le_of_ble_eq_true rfl, Nat.le_of_ble_eq_true rfl⟩) ?_
  obtain ⟨r6, hc7, Hf⟩ := sq_cb1_e Hf
  refine sq_roi (va_runS (As := [.ref (tt 8), .int p1, .int p2, .int r4]) (rest := []) ⟨hx, hb, hml, hown, ht⟩ (kt_JLat_indexOf_p1T l dC dI (tt 8) 45 tv_SIGNS p1 p2 r4 n0 r6 hc7) (va_cwS 4 ht (sq_gS tb_827 tb_828 tb_21 tb_829) rfl rfl rfl (by decide +kernel) ⟨Nat.le_of_ble_eq_true rfl, Nat.le_of_ble_eq_true rfl⟩) (sq_roT (hP.sub (ws' := ([] : va_W)) [] rfl) (hK.sub (tys' := []) [] rfl) hX.kt va_S.rf) rfl rfl hl.1 rfl (lv_room (Nat.le_of_ble_eq_true rfl)) d_JStr_indexOf1_17 ⟨Nat.le_of_ble_eq_true rfl, Nat.le_of_ble_eq_true rfl⟩) ?_
  refine lv_goto (tgt := 36) hx hb d_JStr_indexOf1_20 (by decide) ?_
  have er := Option.some.inj Hf
  exact W.iret hx hb hr (fun t ht hW => ⟨_, rfl, er, ht⟩) (fun q h => by cases h) d_JStr_indexOf1_36

def fn_JStr_indexOf0_thisK (n0 : Nat) (p1 : Int32) : Option (Int32) :=
  sq_cb1 (fn_JStr_indexOf1_thisK n0 p1 (0 : Int32)) fun r1 => some (r1)
def rm_JStr_indexOf0_thisK : Room := { frames := 3, cells := 0, slots := 0, locals := 70 }
abbrev qc_JStr_indexOf0_thisK (r0 : Int32) : Array Value → State → Outcome → State → Prop := vp_Si (fun r => r = r0)

set_option maxHeartbeats 4000000 in
set_option maxRecDepth 100000 in
theorem kt_JStr_indexOf0_thisK (l : Launch) (dC : Nat → ClassId) (dI : Nat → Nat → Nat) (p1 : Int32) (tt : Nat → Nat) (n0 : Nat) (r0 : Int32) (Hf : fn_JStr_indexOf0_thisK n0 p1 = some r0) : Met l y_JStr_indexOf0 w_JStr_indexOf0 rm_JStr_indexOf0_thisK (va_Pc [.ref (tt 7), .int p1] (fun U => va_P (dC, dI) cl_All ([] : va_W) U.heap ∧ va_K (dC, dI) cl_All [] U ∧ sx_T tt (fun _ => False) U U.heap)) (qc_JStr_indexOf0_thisK r0) 0 0 (fun _ => False) := by
  refine Met.ofW (cc := prog_22_method_79_code) (maxL := 2) (ret := (some .int)) (by decide) rfl ?_
  intro p e s m args below meth c s₁ B hml hv
  obtain ⟨rfl, hP, hK, hX⟩ := hv
  have hx := B.exec; have hb := B.bytes; have hr := B.returns; have hlocks := B.notSynchronized
  have ht : ∀ w ∈ lw_g, w.before _ s = true := fun w h => atoms_spec (ws := w_JStr_indexOf0) B.pre w (List.mem_cons_of_mem _ h)
  have hown : s.vm.findClass "java/lang/String" = some m.cls := findClass_of_methodNamed B.named
  have hl := lv_entry ([.ref (tt 7), .int p1]) (n := 2) (Nat.le_of_ble_eq_true rfl)
  rw [lg_entry_eq]
  generalize (lg_sl ([.ref (tt 7), .int p1]) ++ List.replicate (2 - (lg_sl ([.ref (tt 7), .int p1])).length) Slot.unset).toArray = ls at hl ⊢
  have hl : lv_has ls 2 [(0, .ref (tt 7)), (1, .int p1)] := hl
  refine lv_aload_n hx hb d_JStr_indexOf0_0 rfl (lv_at hl 0 rfl) ?_
  refine lv_iload_n hx hb d_JStr_indexOf0_1 rfl (lv_at hl 1 rfl) ?_
  refine lv_iconst (v := (0 : Int32)) hx hb d_JStr_indexOf0_2 (by decide) ?_
  obtain ⟨r1, hc2, Hf⟩ := sq_cb1_e Hf
  refine sq_roi (va_runV (As := [.int p1, .int (0 : Int32)]) (rest := []) ⟨hx, hb, hml, hown, ht⟩ (kt_JStr_indexOf1_thisK l dC dI p1 (0 : Int32) tt n0 r1 hc2) (cwV 2 ht (sq_gV tb_822 tb_823 tb_824 tb_20 tb_825) rfl rfl rfl (by decide +kernel) ⟨Nat.le_of_ble_eq_true rfl, Nat.le_of_ble_eq_true rfl⟩) (sq_roVX (hP.sub (ws' := ([] : va_W)) [] rfl) (hK.sub (tys' := []) [] rfl) (vk_recv hX.str (i := 0) Nat.zero_lt_one va_S.rf) hX va_S.rf (fun _ h => h.elim)) rfl rfl hl.1 rfl (lv_room (Nat.le_of_ble_eq_true rfl)) d_JStr_indexOf0_3 ⟨Nat.le_of_ble_eq_true rfl, Nat.le_of_ble_eq_true rfl⟩) ?_
  have er := Option.some.inj Hf
  exact W.iret hx hb hr (fun t ht hW => ⟨_, rfl, er, ht⟩) (fun q h => by cases h) d_JStr_indexOf0_6

def fn_Mode_least (n0 : Nat) (p1 : Int32) : Option (Int32) :=
  sq_jn (fun (_ : Unit) => sq_bd (sq_i2c p1) fun x2 => sq_cb1 (fn_JStr_indexOf0_thisK n0 x2) fun r3 => if r3 < 0 then (some ((2 : Int32))) else (some ((1 : Int32)))) fun k1 => if p1 < (48 : Int32) then (k1 ()) else (if (57 : Int32) < p1 then (k1 ()) else (some ((0 : Int32))))
def rm_Mode_least : Room := { frames := 4, cells := 0, slots := 0, locals := 91 }
abbrev qc_Mode_least (r0 : Int32) : Array Value → State → Outcome → State → Prop := vp_Si (fun r => r = r0)

set_option maxHeartbeats 4000000 in
set_option maxRecDepth 100000 in
theorem kt_Mode_least (l : Launch) (dC : Nat → ClassId) (dI : Nat → Nat → Nat) (p1 : Int32) (tt : Nat → Nat) (n0 : Nat) (r0 : Int32) (Hf : fn_Mode_least n0 p1 = some r0) : Met l y_Mode_least w_Mode_least rm_Mode_least (va_Pc [.int p1] (fun U => va_P (dC, dI) cl_All ([] : va_W) U.heap ∧ va_K (dC, dI) cl_All [] U ∧ sx_T tt (fun _ => False) U U.heap)) (qc_Mode_least r0) 0 0 (fun _ => False) := by
  refine Met.ofW (cc := prog_9_method_2_code) (maxL := 1) (ret := (some .int)) (by decide) rfl ?_
  intro p e s m args below meth c s₁ B hml hv
  obtain ⟨rfl, hP, hK, hX⟩ := hv
  have hx := B.exec; have hb := B.bytes; have hr := B.returns; have hlocks := B.notSynchronized
  have ht : ∀ w ∈ lw_g, w.before _ s = true := fun w h => atoms_spec (ws := w_Mode_least) B.pre w (List.mem_cons_of_mem _ h)
  have hown : s.vm.findClass "SquareSymbols$Mode" = some m.cls := findClass_of_methodNamed B.named
  have hl := lv_entry ([.int p1]) (n := 1) (Nat.le_of_ble_eq_true rfl)
  rw [lg_entry_eq]
  generalize (lg_sl ([.int p1]) ++ List.replicate (1 - (lg_sl ([.int p1])).length) Slot.unset).toArray = ls at hl ⊢
  have hl : lv_has ls 1 [(0, .int p1)] := hl
  refine lv_iload_n hx hb d_Mode_least_0 rfl (lv_at hl 0 rfl) ?_
  refine lv_bipush (v := (48 : Int32)) hx hb d_Mode_least_1 (by decide) ?_
  obtain ⟨k1, hk1, Hf⟩ := sq_jn_e Hf
  have Jk1 : ∀ (_u : Unit), k1 _u = some r0 → ∀ ls : Array Slot, lv_has ls 1 [(0, .int p1)] → W p l e (headSpec w_Mode_least rm_Mode_least).room s m (([.int p1] : List Value).toArray) below meth c s.heap [] 0 0 (MQ below (qc_Mode_least r0) (([.int p1] : List Value).toArray) s 0 0 (fun _ => False)) (F0 m 14 ls []) := by
    intro _u Hf ls hl
    rw [hk1] at Hf
    refine va_ldcS hx hb hown hX.kr d_Mode_least_14 ?_
    refine lv_iload_n hx hb d_Mode_least_16 rfl (lv_at hl 0 rfl) ?_
    refine lv_i2c hx hb d_Mode_least_17 rfl ?_
    obtain ⟨x2, ex2, Hf⟩ := sq_bd_e Hf
    refine sq_top ex2 ?_
    obtain ⟨r3, hc4, Hf⟩ := sq_cb1_e Hf
    refine sq_roi (va_runV (As := [.int x2]) (rest := []) ⟨hx, hb, hml, hown, ht⟩ (kt_JStr_indexOf0_thisK l dC dI x2 tt n0 r3 hc4) (cwV 1 ht (sq_gV tb_818 tb_819 tb_820 tb_20 tb_821) rfl rfl rfl (by decide +kernel) ⟨Nat.le_of_ble_eq_true rfl, Nat.le_of_ble_eq_true rfl⟩) (sq_roVX (hP.sub (ws' := ([] : va_W)) [] rfl) (hK.sub (tys' := []) [] rfl) (vk_recv hX.str (i := 0) Nat.zero_lt_one va_S.rf) hX va_S.rf (fun _ h => h.elim)) rfl rfl hl.1 rfl (lv_room (Nat.le_of_ble_eq_true rfl)) d_Mode_least_18 ⟨Nat.le_of_ble_eq_true rfl, Nat.le_of_ble_eq_true rfl⟩) ?_
    refine lv_if_lt (tgt := 28) hx hb d_Mode_least_21 (by decide) (fun c5 => ?_) (fun c5 => ?_)
    · replace Hf := sq_ite_t Hf c5
      refine lv_iconst (v := (2 : Int32)) hx hb d_Mode_least_28 (by decide) ?_
      have er := Option.some.inj Hf
      exact W.iret hx hb hr (fun t ht hW => ⟨_, rfl, er, ht⟩) (fun q h => by cases h) d_Mode_least_29
    · replace Hf := sq_ite_f Hf c5
      refine lv_iconst (v := (1 : Int32)) hx hb d_Mode_least_24 (by decide) ?_
      refine lv_goto (tgt := 29) hx hb d_Mode_least_25 (by decide) ?_
      have er := Option.some.inj Hf
      exact W.iret hx hb hr (fun t ht hW => ⟨_, rfl, er, ht⟩) (fun q h => by cases h) d_Mode_least_29
  refine lv_icmp_lt (tgt := 14) hx hb d_Mode_least_3 (by decide) (fun c6 => ?_) (fun c6 => ?_)
  · replace Hf := sq_ite_t Hf c6
    exact Jk1 () Hf _ (lv_sub hl [0] rfl)
  · replace Hf := sq_ite_f Hf c6
    refine lv_iload_n hx hb d_Mode_least_6 rfl (lv_at hl 0 rfl) ?_
    refine lv_bipush (v := (57 : Int32)) hx hb d_Mode_least_7 (by decide) ?_
    refine lv_icmp_gt (tgt := 14) hx hb d_Mode_least_9 (by decide) (fun c7 => ?_) (fun c7 => ?_)
    · replace Hf := sq_ite_t Hf c7
      exact Jk1 () Hf _ (lv_sub hl [0] rfl)
    · replace Hf := sq_ite_f Hf c7
      refine lv_iconst (v := (0 : Int32)) hx hb d_Mode_least_12 (by decide) ?_
      have er := Option.some.inj Hf
      exact W.iret hx hb hr (fun t ht hW => ⟨_, rfl, er, ht⟩) (fun q h => by cases h) d_Mode_least_13

def fn_Mode_numberOf (n0 : Nat) (p1 : Int32) (p2 : Int32) : Option (Int32) :=
  if p1 = (2 : Int32) then (some (p2)) else (sq_bd (sq_i2c p2) fun x2 => sq_cb1 (fn_JStr_indexOf0_thisK n0 x2) fun r3 => some (r3))
def rm_Mode_numberOf : Room := { frames := 4, cells := 0, slots := 0, locals := 91 }
abbrev qc_Mode_numberOf (r0 : Int32) : Array Value → State → Outcome → State → Prop := vp_Si (fun r => r = r0)

set_option maxHeartbeats 4000000 in
set_option maxRecDepth 100000 in
theorem kt_Mode_numberOf (l : Launch) (dC : Nat → ClassId) (dI : Nat → Nat → Nat) (p1 : Int32) (p2 : Int32) (tt : Nat → Nat) (n0 : Nat) (r0 : Int32) (Hf : fn_Mode_numberOf n0 p1 p2 = some r0) : Met l y_Mode_numberOf w_Mode_numberOf rm_Mode_numberOf (va_Pc [.int p1, .int p2] (fun U => va_P (dC, dI) cl_All ([] : va_W) U.heap ∧ va_K (dC, dI) cl_All [] U ∧ sx_T tt (fun _ => False) U U.heap)) (qc_Mode_numberOf r0) 0 0 (fun _ => False) := by
  refine Met.ofW (cc := prog_9_method_7_code) (maxL := 2) (ret := (some .int)) (by decide) rfl ?_
  intro p e s m args below meth c s₁ B hml hv
  obtain ⟨rfl, hP, hK, hX⟩ := hv
  have hx := B.exec; have hb := B.bytes; have hr := B.returns; have hlocks := B.notSynchronized
  have ht : ∀ w ∈ lw_g, w.before _ s = true := fun w h => atoms_spec (ws := w_Mode_numberOf) B.pre w (List.mem_cons_of_mem _ h)
  have hown : s.vm.findClass "SquareSymbols$Mode" = some m.cls := findClass_of_methodNamed B.named
  have hl := lv_entry ([.int p1, .int p2]) (n := 2) (Nat.le_of_ble_eq_true rfl)
  rw [lg_entry_eq]
  generalize (lg_sl ([.int p1, .int p2]) ++ List.replicate (2 - (lg_sl ([.int p1, .int p2])).length) Slot.unset).toArray = ls at hl ⊢
  have hl : lv_has ls 2 [(0, .int p1), (1, .int p2)] := hl
  refine lv_iload_n hx hb d_Mode_numberOf_0 rfl (lv_at hl 0 rfl) ?_
  refine lv_iconst (v := (2 : Int32)) hx hb d_Mode_numberOf_1 (by decide) ?_
  refine lv_icmp_ne (tgt := 9) hx hb d_Mode_numberOf_2 (by decide) (fun c1 => ?_) (fun c1 => ?_)
  · replace Hf := sq_ite_f Hf c1
    refine va_ldcS hx hb hown hX.kr d_Mode_numberOf_9 ?_
    refine lv_iload_n hx hb d_Mode_numberOf_11 rfl (lv_at hl 1 rfl) ?_
    refine lv_i2c hx hb d_Mode_numberOf_12 rfl ?_
    obtain ⟨x2, ex2, Hf⟩ := sq_bd_e Hf
    refine sq_top ex2 ?_
    obtain ⟨r3, hc4, Hf⟩ := sq_cb1_e Hf
    refine sq_roi (va_runV (As := [.int x2]) (rest := []) ⟨hx, hb, hml, hown, ht⟩ (kt_JStr_indexOf0_thisK l dC dI x2 tt n0 r3 hc4) (cwV 1 ht (sq_gV tb_818 tb_819 tb_820 tb_20 tb_821) rfl rfl rfl (by decide +kernel) ⟨Nat.le_of_ble_eq_true rfl, Nat.le_of_ble_eq_true rfl⟩) (sq_roVX (hP.sub (ws' := ([] : va_W)) [] rfl) (hK.sub (tys' := []) [] rfl) (vk_recv hX.str (i := 0) Nat.zero_lt_one va_S.rf) hX va_S.rf (fun _ h => h.elim)) rfl rfl hl.1 rfl (lv_room (Nat.le_of_ble_eq_true rfl)) d_Mode_numberOf_13 ⟨Nat.le_of_ble_eq_true rfl, Nat.le_of_ble_eq_true rfl⟩) ?_
    have er := Option.some.inj Hf
    exact W.iret hx hb hr (fun t ht hW => ⟨_, rfl, er, ht⟩) (fun q h => by cases h) d_Mode_numberOf_16
  · replace Hf := sq_ite_t Hf c1
    refine lv_iload_n hx hb d_Mode_numberOf_5 rfl (lv_at hl 1 rfl) ?_
    refine lv_goto (tgt := 16) hx hb d_Mode_numberOf_6 (by decide) ?_
    have er := Option.some.inj Hf
    exact W.iret hx hb hr (fun t ht hW => ⟨_, rfl, er, ht⟩) (fun q h => by cases h) d_Mode_numberOf_16

