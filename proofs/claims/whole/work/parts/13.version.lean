def fn_Version_ofSide (p1 : Int32) : Option (Int32) :=
  some ((p1 - (17 : Int32)) / (4 : Int32))
def rm_Version_ofSide : Room := { frames := 0, cells := 0, slots := 0, locals := 0 }
abbrev qc_Version_ofSide (r0 : Int32) : Array Value → State → Outcome → State → Prop := vp_Si (fun r => r = r0)

set_option maxHeartbeats 4000000 in
set_option maxRecDepth 100000 in
theorem kt_Version_ofSide (l : Launch) (dC : Nat → ClassId) (dI : Nat → Nat → Nat) (p1 : Int32) (r0 : Int32) (Hf : fn_Version_ofSide p1 = some r0) : Met l y_Version_ofSide w_Version_ofSide rm_Version_ofSide (va_Pc [.int p1] (fun U => va_P (dC, dI) cl_All ([] : va_W) U.heap ∧ va_K (dC, dI) cl_All [] U)) (qc_Version_ofSide r0) 0 0 (fun _ => False) := by
  refine Met.ofW (cc := prog_12_method_3_code) (maxL := 1) (ret := (some .int)) (by decide) rfl ?_
  intro p e s m args below meth c s₁ B hml hv
  obtain ⟨rfl, hP, hK⟩ := hv
  have hx := B.exec; have hb := B.bytes; have hr := B.returns; have hlocks := B.notSynchronized
  have ht : ∀ w ∈ lw_g, w.before _ s = true := fun w h => atoms_spec (ws := w_Version_ofSide) B.pre w (List.mem_cons_of_mem _ h)
  have hown : s.vm.findClass "SquareSymbols$Version" = some m.cls := findClass_of_methodNamed B.named
  have hl := lv_entry ([.int p1]) (n := 1) (Nat.le_of_ble_eq_true rfl)
  rw [lg_entry_eq]
  generalize (lg_sl ([.int p1]) ++ List.replicate (1 - (lg_sl ([.int p1])).length) Slot.unset).toArray = ls at hl ⊢
  have hl : lv_has ls 1 [(0, .int p1)] := hl
  refine lv_iload_n hx hb d_Version_ofSide_0 rfl (lv_at hl 0 rfl) ?_
  refine lv_bipush (v := (17 : Int32)) hx hb d_Version_ofSide_1 (by decide) ?_
  refine lv_isub hx hb d_Version_ofSide_3 ?_
  refine lv_iconst (v := (4 : Int32)) hx hb d_Version_ofSide_4 (by decide) ?_
  refine lv_idiv hx hb d_Version_ofSide_5 (by decide) ?_
  have er := Option.some.inj Hf
  exact W.iret hx hb hr (fun t ht hW => ⟨_, rfl, er, ht⟩) (fun q h => by cases h) d_Version_ofSide_6

def fn_Version_codewords (p1 : Int32) : Option (Int32) :=
  sq_bd (((((16 : Int32) * p1) + (128 : Int32)) * p1) + (64 : Int32)) fun x1 => sq_jn (fun (x2 : Int32) => if p1 ≤ (6 : Int32) then (some (x2 / (8 : Int32))) else (some ((x2 - (36 : Int32)) / (8 : Int32)))) fun k3 => if p1 ≤ (1 : Int32) then (k3 x1) else (sq_bd ((p1 / (7 : Int32)) + (2 : Int32)) fun x6 => sq_bd (x1 - (((((25 : Int32) * x6) - (10 : Int32)) * x6) - (55 : Int32))) fun x7 => k3 x7)
def rm_Version_codewords : Room := { frames := 0, cells := 0, slots := 0, locals := 0 }
abbrev qc_Version_codewords (r0 : Int32) : Array Value → State → Outcome → State → Prop := vp_Si (fun r => r = r0)

set_option maxHeartbeats 4000000 in
set_option maxRecDepth 100000 in
theorem kt_Version_codewords (l : Launch) (dC : Nat → ClassId) (dI : Nat → Nat → Nat) (p1 : Int32) (r0 : Int32) (Hf : fn_Version_codewords p1 = some r0) : Met l y_Version_codewords w_Version_codewords rm_Version_codewords (va_Pc [.int p1] (fun U => va_P (dC, dI) cl_All ([] : va_W) U.heap ∧ va_K (dC, dI) cl_All [] U)) (qc_Version_codewords r0) 0 0 (fun _ => False) := by
  refine Met.ofW (cc := prog_12_method_6_code) (maxL := 3) (ret := (some .int)) (by decide) rfl ?_
  intro p e s m args below meth c s₁ B hml hv
  obtain ⟨rfl, hP, hK⟩ := hv
  have hx := B.exec; have hb := B.bytes; have hr := B.returns; have hlocks := B.notSynchronized
  have ht : ∀ w ∈ lw_g, w.before _ s = true := fun w h => atoms_spec (ws := w_Version_codewords) B.pre w (List.mem_cons_of_mem _ h)
  have hown : s.vm.findClass "SquareSymbols$Version" = some m.cls := findClass_of_methodNamed B.named
  have hl := lv_entry ([.int p1]) (n := 3) (Nat.le_of_ble_eq_true rfl)
  rw [lg_entry_eq]
  generalize (lg_sl ([.int p1]) ++ List.replicate (3 - (lg_sl ([.int p1])).length) Slot.unset).toArray = ls at hl ⊢
  have hl : lv_has ls 3 [(0, .int p1)] := hl
  refine lv_bipush (v := (16 : Int32)) hx hb d_Version_codewords_0 (by decide) ?_
  refine lv_iload_n hx hb d_Version_codewords_2 rfl (lv_at hl 0 rfl) ?_
  refine lv_imul hx hb d_Version_codewords_3 ?_
  refine lv_sipush (v := (128 : Int32)) hx hb d_Version_codewords_4 (by decide) ?_
  refine lv_iadd hx hb d_Version_codewords_7 ?_
  refine lv_iload_n hx hb d_Version_codewords_8 rfl (lv_at hl 0 rfl) ?_
  refine lv_imul hx hb d_Version_codewords_9 ?_
  refine lv_bipush (v := (64 : Int32)) hx hb d_Version_codewords_10 (by decide) ?_
  refine lv_iadd hx hb d_Version_codewords_12 ?_
  obtain ⟨x1, ex1, Hf⟩ := sq_bd_e Hf
  refine sq_top ex1 ?_
  refine lv_istore_n (lv' := [(1, .int x1), (0, .int p1)]) hx hb d_Version_codewords_13 rfl hl (by decide) rfl (fun ls hl => ?_)
  refine lv_iload_n hx hb d_Version_codewords_14 rfl (lv_at hl 1 rfl) ?_
  refine lv_iconst (v := (1 : Int32)) hx hb d_Version_codewords_15 (by decide) ?_
  obtain ⟨k3, hk3, Hf⟩ := sq_jn_e Hf
  have Jk3 : ∀ (x2 : Int32), k3 x2 = some r0 → ∀ ls : Array Slot, lv_has ls 3 [(0, .int p1), (1, .int x2)] → W p l e (headSpec w_Version_codewords rm_Version_codewords).room s m (([.int p1] : List Value).toArray) below meth c s.heap [] 0 0 (MQ below (qc_Version_codewords r0) (([.int p1] : List Value).toArray) s 0 0 (fun _ => False)) (F0 m 41 ls []) := by
    intro x2 Hf ls hl
    rw [hk3] at Hf
    refine lv_iload_n hx hb d_Version_codewords_41 rfl (lv_at hl 0 rfl) ?_
    refine lv_bipush (v := (6 : Int32)) hx hb d_Version_codewords_42 (by decide) ?_
    refine lv_icmp_le (tgt := 54) hx hb d_Version_codewords_44 (by decide) (fun c4 => ?_) (fun c4 => ?_)
    · replace Hf := sq_ite_t Hf c4
      refine lv_iload_n hx hb d_Version_codewords_54 rfl (lv_at hl 1 rfl) ?_
      refine lv_bipush (v := (8 : Int32)) hx hb d_Version_codewords_55 (by decide) ?_
      refine lv_idiv hx hb d_Version_codewords_57 (by decide) ?_
      have er := Option.some.inj Hf
      exact W.iret hx hb hr (fun t ht hW => ⟨_, rfl, er, ht⟩) (fun q h => by cases h) d_Version_codewords_58
    · replace Hf := sq_ite_f Hf c4
      refine lv_iload_n hx hb d_Version_codewords_47 rfl (lv_at hl 1 rfl) ?_
      refine lv_bipush (v := (36 : Int32)) hx hb d_Version_codewords_48 (by decide) ?_
      refine lv_isub hx hb d_Version_codewords_50 ?_
      refine lv_goto (tgt := 55) hx hb d_Version_codewords_51 (by decide) ?_
      refine lv_bipush (v := (8 : Int32)) hx hb d_Version_codewords_55 (by decide) ?_
      refine lv_idiv hx hb d_Version_codewords_57 (by decide) ?_
      have er := Option.some.inj Hf
      exact W.iret hx hb hr (fun t ht hW => ⟨_, rfl, er, ht⟩) (fun q h => by cases h) d_Version_codewords_58
  refine lv_icmp_le (tgt := 41) hx hb d_Version_codewords_16 (by decide) (fun c5 => ?_) (fun c5 => ?_)
  · replace Hf := sq_ite_t Hf c5
    exact Jk3 x1 Hf _ (lv_sub hl [1, 0] rfl)
  · replace Hf := sq_ite_f Hf c5
    refine lv_iload_n hx hb d_Version_codewords_19 rfl (lv_at hl 1 rfl) ?_
    refine lv_bipush (v := (7 : Int32)) hx hb d_Version_codewords_20 (by decide) ?_
    refine lv_idiv hx hb d_Version_codewords_22 (by decide) ?_
    refine lv_iconst (v := (2 : Int32)) hx hb d_Version_codewords_23 (by decide) ?_
    refine lv_iadd hx hb d_Version_codewords_24 ?_
    obtain ⟨x6, ex6, Hf⟩ := sq_bd_e Hf
    refine sq_top ex6 ?_
    refine lv_istore_n (lv' := [(2, .int x6), (1, .int x1), (0, .int p1)]) hx hb d_Version_codewords_25 rfl hl (by decide) rfl (fun ls hl => ?_)
    refine lv_iload_n hx hb d_Version_codewords_26 rfl (lv_at hl 1 rfl) ?_
    refine lv_bipush (v := (25 : Int32)) hx hb d_Version_codewords_27 (by decide) ?_
    refine lv_iload_n hx hb d_Version_codewords_29 rfl (lv_at hl 0 rfl) ?_
    refine lv_imul hx hb d_Version_codewords_30 ?_
    refine lv_bipush (v := (10 : Int32)) hx hb d_Version_codewords_31 (by decide) ?_
    refine lv_isub hx hb d_Version_codewords_33 ?_
    refine lv_iload_n hx hb d_Version_codewords_34 rfl (lv_at hl 0 rfl) ?_
    refine lv_imul hx hb d_Version_codewords_35 ?_
    refine lv_bipush (v := (55 : Int32)) hx hb d_Version_codewords_36 (by decide) ?_
    refine lv_isub hx hb d_Version_codewords_38 ?_
    refine lv_isub hx hb d_Version_codewords_39 ?_
    obtain ⟨x7, ex7, Hf⟩ := sq_bd_e Hf
    refine sq_top ex7 ?_
    refine lv_istore_n (lv' := [(1, .int x7), (2, .int x6), (0, .int p1)]) hx hb d_Version_codewords_40 rfl hl (by decide) rfl (fun ls hl => ?_)
    exact Jk3 x7 Hf _ (lv_sub hl [2, 0] rfl)

def fn_Sq_item_p1T (p2 : Int32) (lenp1 : Nat) (vp1 : Nat → Int32) : Option (Int32) :=
  if p2 < 0 then (some ((0 : Int32))) else (if (Int32.ofNat lenp1) ≤ p2 then (some ((0 : Int32))) else (sq_gi p2 lenp1 <| sq_bd (vp1 p2.toNatClampNeg) fun x4 => some (x4)))
def rm_Sq_item_p1T : Room := { frames := 0, cells := 0, slots := 0, locals := 0 }
abbrev qc_Sq_item_p1T (r0 : Int32) : Array Value → State → Outcome → State → Prop := vp_Si (fun r => r = r0)

set_option maxHeartbeats 4000000 in
set_option maxRecDepth 100000 in
theorem kt_Sq_item_p1T (l : Launch) (dC : Nat → ClassId) (dI : Nat → Nat → Nat) (tp1 : Nat) (lenp1 : Nat) (vp1 : Nat → Int32) (p2 : Int32) (r0 : Int32) (Hf : fn_Sq_item_p1T p2 lenp1 vp1 = some r0) : Met l y_Sq_item w_Sq_item rm_Sq_item_p1T (va_Pc [.ref tp1, .int p2] (fun U => va_P (dC, dI) cl_All ([] : va_W) U.heap ∧ va_K (dC, dI) cl_All [] U ∧ va_T .int tp1 lenp1 (fun j => .int (vp1 j)) (fun _ => False) U U.heap)) (qc_Sq_item_p1T r0) 0 0 (fun _ => False) := by
  refine Met.ofW (cc := prog_1_method_20_code) (maxL := 2) (ret := (some .int)) (by decide) rfl ?_
  intro p e s m args below meth c s₁ B hml hv
  obtain ⟨rfl, hP, hK, hTp1⟩ := hv
  have hx := B.exec; have hb := B.bytes; have hr := B.returns; have hlocks := B.notSynchronized
  have ht : ∀ w ∈ lw_g, w.before _ s = true := fun w h => atoms_spec (ws := w_Sq_item) B.pre w (List.mem_cons_of_mem _ h)
  have hown : s.vm.findClass "SquareSymbols" = some m.cls := findClass_of_methodNamed B.named
  have hl := lv_entry ([.ref tp1, .int p2]) (n := 2) (Nat.le_of_ble_eq_true rfl)
  rw [lg_entry_eq]
  generalize (lg_sl ([.ref tp1, .int p2]) ++ List.replicate (2 - (lg_sl ([.ref tp1, .int p2])).length) Slot.unset).toArray = ls at hl ⊢
  have hl : lv_has ls 2 [(0, .ref tp1), (1, .int p2)] := hl
  refine lv_iload_n hx hb d_Sq_item_0 rfl (lv_at hl 1 rfl) ?_
  refine lv_if_lt (tgt := 16) hx hb d_Sq_item_1 (by decide) (fun c1 => ?_) (fun c1 => ?_)
  · replace Hf := sq_ite_t Hf c1
    refine lv_iconst (v := (0 : Int32)) hx hb d_Sq_item_16 (by decide) ?_
    have er := Option.some.inj Hf
    exact W.iret hx hb hr (fun t ht hW => ⟨_, rfl, er, ht⟩) (fun q h => by cases h) d_Sq_item_17
  · replace Hf := sq_ite_f Hf c1
    refine lv_iload_n hx hb d_Sq_item_4 rfl (lv_at hl 1 rfl) ?_
    refine lv_aload_n hx hb d_Sq_item_5 rfl (lv_at hl 0 rfl) ?_
    refine va_tlen hx hb hTp1 va_S.rf (v := Int32.ofNat lenp1) rfl d_Sq_item_6 ?_
    refine lv_icmp_ge (tgt := 16) hx hb d_Sq_item_7 (by decide) (fun c2 => ?_) (fun c2 => ?_)
    · replace Hf := sq_ite_t Hf c2
      refine lv_iconst (v := (0 : Int32)) hx hb d_Sq_item_16 (by decide) ?_
      have er := Option.some.inj Hf
      exact W.iret hx hb hr (fun t ht hW => ⟨_, rfl, er, ht⟩) (fun q h => by cases h) d_Sq_item_17
    · replace Hf := sq_ite_f Hf c2
      refine lv_aload_n hx hb d_Sq_item_10 rfl (lv_at hl 0 rfl) ?_
      refine lv_iload_n hx hb d_Sq_item_11 rfl (lv_at hl 1 rfl) ?_
      obtain ⟨hi3, Hf⟩ := sq_gi_e Hf
      refine va_ti hx hb hTp1 va_S.rf hi3 rfl d_Sq_item_12 ?_
      obtain ⟨x4, ex4, Hf⟩ := sq_bd_e Hf
      refine sq_top ex4 ?_
      refine lv_goto (tgt := 17) hx hb d_Sq_item_13 (by decide) ?_
      have er := Option.some.inj Hf
      exact W.iret hx hb hr (fun t ht hW => ⟨_, rfl, er, ht⟩) (fun q h => by cases h) d_Sq_item_17

def fn_Version_blocks (p1 : Int32) (p2 : Int32) : Option (Int32) :=
  sq_cb1 (fn_Sq_item_p1T ((((40 : Int32) * p1) + p2) - (1 : Int32)) 160 tv_BLOCKS) fun r1 => sq_bd (sq_max (1 : Int32) r1) fun x3 => some (x3)
def rm_Version_blocks : Room := { frames := 1, cells := 0, slots := 0, locals := 24 }
abbrev qc_Version_blocks (r0 : Int32) : Array Value → State → Outcome → State → Prop := vp_Si (fun r => r = r0)

set_option maxHeartbeats 4000000 in
set_option maxRecDepth 100000 in
theorem kt_Version_blocks (l : Launch) (dC : Nat → ClassId) (dI : Nat → Nat → Nat) (p1 : Int32) (p2 : Int32) (tt : Nat → Nat) (r0 : Int32) (Hf : fn_Version_blocks p1 p2 = some r0) : Met l y_Version_blocks w_Version_blocks rm_Version_blocks (va_Pc [.int p1, .int p2] (fun U => va_P (dC, dI) cl_All ([] : va_W) U.heap ∧ va_K (dC, dI) cl_All [] U ∧ sx_T tt (fun _ => False) U U.heap)) (qc_Version_blocks r0) 0 0 (fun _ => False) := by
  refine Met.ofW (cc := prog_12_method_8_code) (maxL := 2) (ret := (some .int)) (by decide) rfl ?_
  intro p e s m args below meth c s₁ B hml hv
  obtain ⟨rfl, hP, hK, hX⟩ := hv
  have hx := B.exec; have hb := B.bytes; have hr := B.returns; have hlocks := B.notSynchronized
  have ht : ∀ w ∈ lw_g, w.before _ s = true := fun w h => atoms_spec (ws := w_Version_blocks) B.pre w (List.mem_cons_of_mem _ h)
  have hown : s.vm.findClass "SquareSymbols$Version" = some m.cls := findClass_of_methodNamed B.named
  have hl := lv_entry ([.int p1, .int p2]) (n := 2) (Nat.le_of_ble_eq_true rfl)
  rw [lg_entry_eq]
  generalize (lg_sl ([.int p1, .int p2]) ++ List.replicate (2 - (lg_sl ([.int p1, .int p2])).length) Slot.unset).toArray = ls at hl ⊢
  have hl : lv_has ls 2 [(0, .int p1), (1, .int p2)] := hl
  refine lv_iconst (v := (1 : Int32)) hx hb d_Version_blocks_0 (by decide) ?_
  refine va_gets hx hb hX.z1 va_S.rf hown (ht _ tb_410) (fun _ h => h) d_Version_blocks_1 ?_
  refine lv_bipush (v := (40 : Int32)) hx hb d_Version_blocks_4 (by decide) ?_
  refine lv_iload_n hx hb d_Version_blocks_6 rfl (lv_at hl 0 rfl) ?_
  refine lv_imul hx hb d_Version_blocks_7 ?_
  refine lv_iload_n hx hb d_Version_blocks_8 rfl (lv_at hl 1 rfl) ?_
  refine lv_iadd hx hb d_Version_blocks_9 ?_
  refine lv_iconst (v := (1 : Int32)) hx hb d_Version_blocks_10 (by decide) ?_
  refine lv_isub hx hb d_Version_blocks_11 ?_
  obtain ⟨r1, hc2, Hf⟩ := sq_cb1_e Hf
  refine sq_roi (va_runSN (As := [.ref (tt 1), .int ((((40 : Int32) * p1) + p2) - (1 : Int32))]) (rest := [.int (1 : Int32)]) ⟨hx, hb, hml, hown, ht⟩ (kt_Sq_item_p1T l dC dI (tt 1) 160 tv_BLOCKS ((((40 : Int32) * p1) + p2) - (1 : Int32)) r1 hc2) ⟨va_cnB 2 ht (sq_g1 tb_414) rfl rfl rfl hX.n412 (ht _ tb_1) (by decide +kernel) ⟨Nat.le_of_ble_eq_true rfl, Nat.le_of_ble_eq_true rfl⟩, ht _ tb_413, trivial⟩ (sq_roT (hP.sub (ws' := ([] : va_W)) [] rfl) (hK.sub (tys' := []) [] rfl) hX.t1 va_S.rf) rfl rfl hl.1 rfl (lv_room (Nat.le_of_ble_eq_true rfl)) d_Version_blocks_12 ⟨Nat.le_of_ble_eq_true rfl, Nat.le_of_ble_eq_true rfl⟩) ?_
  refine va_mmax hx hb (by rw [hml]; exact hl.1.symm) hown (ht _ tb_415) (ht _ tb_416) (ht _ tb_17) (ht _ tb_417) (Nat.le_of_ble_eq_true rfl) (Nat.le_of_ble_eq_true rfl) (Nat.zero_le _) (Nat.zero_le _) d_Version_blocks_15 ?_
  obtain ⟨x3, ex3, Hf⟩ := sq_bd_e Hf
  refine sq_top ex3 ?_
  have er := Option.some.inj Hf
  exact W.iret hx hb hr (fun t ht hW => ⟨_, rfl, er, ht⟩) (fun q h => by cases h) d_Version_blocks_18

def fn_Version_checks (p1 : Int32) (p2 : Int32) : Option (Int32) :=
  sq_cb1 (fn_Sq_item_p1T ((((40 : Int32) * p1) + p2) - (1 : Int32)) 160 tv_CHECKS) fun r1 => some (r1)
def rm_Version_checks : Room := { frames := 1, cells := 0, slots := 0, locals := 21 }
abbrev qc_Version_checks (r0 : Int32) : Array Value → State → Outcome → State → Prop := vp_Si (fun r => r = r0)

set_option maxHeartbeats 4000000 in
set_option maxRecDepth 100000 in
theorem kt_Version_checks (l : Launch) (dC : Nat → ClassId) (dI : Nat → Nat → Nat) (p1 : Int32) (p2 : Int32) (tt : Nat → Nat) (r0 : Int32) (Hf : fn_Version_checks p1 p2 = some r0) : Met l y_Version_checks w_Version_checks rm_Version_checks (va_Pc [.int p1, .int p2] (fun U => va_P (dC, dI) cl_All ([] : va_W) U.heap ∧ va_K (dC, dI) cl_All [] U ∧ sx_T tt (fun _ => False) U U.heap)) (qc_Version_checks r0) 0 0 (fun _ => False) := by
  refine Met.ofW (cc := prog_12_method_7_code) (maxL := 2) (ret := (some .int)) (by decide) rfl ?_
  intro p e s m args below meth c s₁ B hml hv
  obtain ⟨rfl, hP, hK, hX⟩ := hv
  have hx := B.exec; have hb := B.bytes; have hr := B.returns; have hlocks := B.notSynchronized
  have ht : ∀ w ∈ lw_g, w.before _ s = true := fun w h => atoms_spec (ws := w_Version_checks) B.pre w (List.mem_cons_of_mem _ h)
  have hown : s.vm.findClass "SquareSymbols$Version" = some m.cls := findClass_of_methodNamed B.named
  have hl := lv_entry ([.int p1, .int p2]) (n := 2) (Nat.le_of_ble_eq_true rfl)
  rw [lg_entry_eq]
  generalize (lg_sl ([.int p1, .int p2]) ++ List.replicate (2 - (lg_sl ([.int p1, .int p2])).length) Slot.unset).toArray = ls at hl ⊢
  have hl : lv_has ls 2 [(0, .int p1), (1, .int p2)] := hl
  refine va_gets hx hb hX.z0 va_S.rf hown (ht _ tb_421) (fun _ h => h) d_Version_checks_0 ?_
  refine lv_bipush (v := (40 : Int32)) hx hb d_Version_checks_3 (by decide) ?_
  refine lv_iload_n hx hb d_Version_checks_5 rfl (lv_at hl 0 rfl) ?_
  refine lv_imul hx hb d_Version_checks_6 ?_
  refine lv_iload_n hx hb d_Version_checks_7 rfl (lv_at hl 1 rfl) ?_
  refine lv_iadd hx hb d_Version_checks_8 ?_
  refine lv_iconst (v := (1 : Int32)) hx hb d_Version_checks_9 (by decide) ?_
  refine lv_isub hx hb d_Version_checks_10 ?_
  obtain ⟨r1, hc2, Hf⟩ := sq_cb1_e Hf
  refine sq_roi (va_runSN (As := [.ref (tt 0), .int ((((40 : Int32) * p1) + p2) - (1 : Int32))]) (rest := []) ⟨hx, hb, hml, hown, ht⟩ (kt_Sq_item_p1T l dC dI (tt 0) 160 tv_CHECKS ((((40 : Int32) * p1) + p2) - (1 : Int32)) r1 hc2) ⟨va_cnB 2 ht (sq_g1 tb_414) rfl rfl rfl hX.n412 (ht _ tb_1) (by decide +kernel) ⟨Nat.le_of_ble_eq_true rfl, Nat.le_of_ble_eq_true rfl⟩, ht _ tb_413, trivial⟩ (sq_roT (hP.sub (ws' := ([] : va_W)) [] rfl) (hK.sub (tys' := []) [] rfl) hX.t0 va_S.rf) rfl rfl hl.1 rfl (lv_room (Nat.le_of_ble_eq_true rfl)) d_Version_checks_11 ⟨Nat.le_of_ble_eq_true rfl, Nat.le_of_ble_eq_true rfl⟩) ?_
  have er := Option.some.inj Hf
  exact W.iret hx hb hr (fun t ht hW => ⟨_, rfl, er, ht⟩) (fun q h => by cases h) d_Version_checks_14

def fn_Version_holds (p1 : Int32) (p2 : Int32) : Option (Int32) :=
  sq_cb1 (fn_Version_codewords p2) fun r1 => sq_cb1 (fn_Version_blocks p1 p2) fun r3 => sq_cb1 (fn_Version_checks p1 p2) fun r5 => some (r1 - (r3 * r5))
def rm_Version_holds : Room := { frames := 2, cells := 0, slots := 0, locals := 45 }
abbrev qc_Version_holds (r0 : Int32) : Array Value → State → Outcome → State → Prop := vp_Si (fun r => r = r0)

set_option maxHeartbeats 4000000 in
set_option maxRecDepth 100000 in
theorem kt_Version_holds (l : Launch) (dC : Nat → ClassId) (dI : Nat → Nat → Nat) (p1 : Int32) (p2 : Int32) (tt : Nat → Nat) (r0 : Int32) (Hf : fn_Version_holds p1 p2 = some r0) : Met l y_Version_holds w_Version_holds rm_Version_holds (va_Pc [.int p1, .int p2] (fun U => va_P (dC, dI) cl_All ([] : va_W) U.heap ∧ va_K (dC, dI) cl_All [] U ∧ sx_T tt (fun _ => False) U U.heap)) (qc_Version_holds r0) 0 0 (fun _ => False) := by
  refine Met.ofW (cc := prog_12_method_9_code) (maxL := 2) (ret := (some .int)) (by decide) rfl ?_
  intro p e s m args below meth c s₁ B hml hv
  obtain ⟨rfl, hP, hK, hX⟩ := hv
  have hx := B.exec; have hb := B.bytes; have hr := B.returns; have hlocks := B.notSynchronized
  have ht : ∀ w ∈ lw_g, w.before _ s = true := fun w h => atoms_spec (ws := w_Version_holds) B.pre w (List.mem_cons_of_mem _ h)
  have hown : s.vm.findClass "SquareSymbols$Version" = some m.cls := findClass_of_methodNamed B.named
  have hl := lv_entry ([.int p1, .int p2]) (n := 2) (Nat.le_of_ble_eq_true rfl)
  rw [lg_entry_eq]
  generalize (lg_sl ([.int p1, .int p2]) ++ List.replicate (2 - (lg_sl ([.int p1, .int p2])).length) Slot.unset).toArray = ls at hl ⊢
  have hl : lv_has ls 2 [(0, .int p1), (1, .int p2)] := hl
  refine lv_iload_n hx hb d_Version_holds_0 rfl (lv_at hl 1 rfl) ?_
  obtain ⟨r1, hc2, Hf⟩ := sq_cb1_e Hf
  refine sq_roi (va_runS (As := [.int p2]) (rest := []) ⟨hx, hb, hml, hown, ht⟩ (kt_Version_codewords l dC dI p2 r1 hc2) (va_cwS 1 ht (sq_gS tb_406 tb_401 tb_16 tb_402) rfl rfl rfl (by decide +kernel) ⟨Nat.le_of_ble_eq_true rfl, Nat.le_of_ble_eq_true rfl⟩) (sq_roS (hP.sub (ws' := ([] : va_W)) [] rfl) (hK.sub (tys' := []) [] rfl)) rfl rfl hl.1 rfl (lv_room (Nat.le_of_ble_eq_true rfl)) d_Version_holds_1 ⟨Nat.le_of_ble_eq_true rfl, Nat.le_of_ble_eq_true rfl⟩) ?_
  refine lv_iload_n hx hb d_Version_holds_4 rfl (lv_at hl 0 rfl) ?_
  refine lv_iload_n hx hb d_Version_holds_5 rfl (lv_at hl 1 rfl) ?_
  obtain ⟨r3, hc4, Hf⟩ := sq_cb1_e Hf
  refine sq_roi (va_runS (As := [.int p1, .int p2]) (rest := [.int r1]) ⟨hx, hb, hml, hown, ht⟩ (kt_Version_blocks l dC dI p1 p2 tt r3 hc4) (va_cwS 2 ht (sq_gS tb_407 tb_408 tb_16 tb_409) rfl rfl rfl (by decide +kernel) ⟨Nat.le_of_ble_eq_true rfl, Nat.le_of_ble_eq_true rfl⟩) (sq_roSX (hP.sub (ws' := ([] : va_W)) [] rfl) (hK.sub (tys' := []) [] rfl) hX va_S.rf (fun _ h => h.elim)) rfl rfl hl.1 rfl (lv_room (Nat.le_of_ble_eq_true rfl)) d_Version_holds_6 ⟨Nat.le_of_ble_eq_true rfl, Nat.le_of_ble_eq_true rfl⟩) ?_
  refine lv_iload_n hx hb d_Version_holds_9 rfl (lv_at hl 0 rfl) ?_
  refine lv_iload_n hx hb d_Version_holds_10 rfl (lv_at hl 1 rfl) ?_
  obtain ⟨r5, hc6, Hf⟩ := sq_cb1_e Hf
  refine sq_roi (va_runS (As := [.int p1, .int p2]) (rest := [.int r3, .int r1]) ⟨hx, hb, hml, hown, ht⟩ (kt_Version_checks l dC dI p1 p2 tt r5 hc6) (va_cwS 2 ht (sq_gS tb_418 tb_419 tb_16 tb_420) rfl rfl rfl (by decide +kernel) ⟨Nat.le_of_ble_eq_true rfl, Nat.le_of_ble_eq_true rfl⟩) (sq_roSX (hP.sub (ws' := ([] : va_W)) [] rfl) (hK.sub (tys' := []) [] rfl) hX va_S.rf (fun _ h => h.elim)) rfl rfl hl.1 rfl (lv_room (Nat.le_of_ble_eq_true rfl)) d_Version_holds_11 ⟨Nat.le_of_ble_eq_true rfl, Nat.le_of_ble_eq_true rfl⟩) ?_
  refine lv_imul hx hb d_Version_holds_14 ?_
  refine lv_isub hx hb d_Version_holds_15 ?_
  have er := Option.some.inj Hf
  exact W.iret hx hb hr (fun t ht hW => ⟨_, rfl, er, ht⟩) (fun q h => by cases h) d_Version_holds_16

def fn_Version_side (p1 : Int32) : Option (Int32) :=
  some ((17 : Int32) + ((4 : Int32) * p1))
def rm_Version_side : Room := { frames := 0, cells := 0, slots := 0, locals := 0 }
abbrev qc_Version_side (r0 : Int32) : Array Value → State → Outcome → State → Prop := vp_Si (fun r => r = r0)

set_option maxHeartbeats 4000000 in
set_option maxRecDepth 100000 in
theorem kt_Version_side (l : Launch) (dC : Nat → ClassId) (dI : Nat → Nat → Nat) (p1 : Int32) (r0 : Int32) (Hf : fn_Version_side p1 = some r0) : Met l y_Version_side w_Version_side rm_Version_side (va_Pc [.int p1] (fun U => va_P (dC, dI) cl_All ([] : va_W) U.heap ∧ va_K (dC, dI) cl_All [] U)) (qc_Version_side r0) 0 0 (fun _ => False) := by
  refine Met.ofW (cc := prog_12_method_2_code) (maxL := 1) (ret := (some .int)) (by decide) rfl ?_
  intro p e s m args below meth c s₁ B hml hv
  obtain ⟨rfl, hP, hK⟩ := hv
  have hx := B.exec; have hb := B.bytes; have hr := B.returns; have hlocks := B.notSynchronized
  have ht : ∀ w ∈ lw_g, w.before _ s = true := fun w h => atoms_spec (ws := w_Version_side) B.pre w (List.mem_cons_of_mem _ h)
  have hown : s.vm.findClass "SquareSymbols$Version" = some m.cls := findClass_of_methodNamed B.named
  have hl := lv_entry ([.int p1]) (n := 1) (Nat.le_of_ble_eq_true rfl)
  rw [lg_entry_eq]
  generalize (lg_sl ([.int p1]) ++ List.replicate (1 - (lg_sl ([.int p1])).length) Slot.unset).toArray = ls at hl ⊢
  have hl : lv_has ls 1 [(0, .int p1)] := hl
  refine lv_bipush (v := (17 : Int32)) hx hb d_Version_side_0 (by decide) ?_
  refine lv_iconst (v := (4 : Int32)) hx hb d_Version_side_2 (by decide) ?_
  refine lv_iload_n hx hb d_Version_side_3 rfl (lv_at hl 0 rfl) ?_
  refine lv_imul hx hb d_Version_side_4 ?_
  refine lv_iadd hx hb d_Version_side_5 ?_
  have er := Option.some.inj Hf
  exact W.iret hx hb hr (fun t ht hW => ⟨_, rfl, er, ht⟩) (fun q h => by cases h) d_Version_side_6

def fn_Version_mendable (p1 : Int32) (p2 : Int32) : Option (Int32) :=
  sq_jn (fun (x1 : Int32) => sq_cb1 (fn_Version_checks p1 p2) fun r3 => some ((r3 - x1) / (2 : Int32))) fun k2 => if p2 = (1 : Int32) then (sq_bd ((3 : Int32) - p1) fun x9 => sq_bd (sq_max (1 : Int32) x9) fun x10 => k2 x10) else (if p1 = 0 then (if (3 : Int32) < p2 then (k2 (0 : Int32)) else (sq_bd ((4 : Int32) - p2) fun x8 => k2 x8)) else (k2 (0 : Int32)))
def rm_Version_mendable : Room := { frames := 2, cells := 0, slots := 0, locals := 42 }
abbrev qc_Version_mendable (r0 : Int32) : Array Value → State → Outcome → State → Prop := vp_Si (fun r => r = r0)

set_option maxHeartbeats 4000000 in
set_option maxRecDepth 100000 in
theorem kt_Version_mendable (l : Launch) (dC : Nat → ClassId) (dI : Nat → Nat → Nat) (p1 : Int32) (p2 : Int32) (tt : Nat → Nat) (r0 : Int32) (Hf : fn_Version_mendable p1 p2 = some r0) : Met l y_Version_mendable w_Version_mendable rm_Version_mendable (va_Pc [.int p1, .int p2] (fun U => va_P (dC, dI) cl_All ([] : va_W) U.heap ∧ va_K (dC, dI) cl_All [] U ∧ sx_T tt (fun _ => False) U U.heap)) (qc_Version_mendable r0) 0 0 (fun _ => False) := by
  refine Met.ofW (cc := prog_12_method_10_code) (maxL := 3) (ret := (some .int)) (by decide) rfl ?_
  intro p e s m args below meth c s₁ B hml hv
  obtain ⟨rfl, hP, hK, hX⟩ := hv
  have hx := B.exec; have hb := B.bytes; have hr := B.returns; have hlocks := B.notSynchronized
  have ht : ∀ w ∈ lw_g, w.before _ s = true := fun w h => atoms_spec (ws := w_Version_mendable) B.pre w (List.mem_cons_of_mem _ h)
  have hown : s.vm.findClass "SquareSymbols$Version" = some m.cls := findClass_of_methodNamed B.named
  have hl := lv_entry ([.int p1, .int p2]) (n := 3) (Nat.le_of_ble_eq_true rfl)
  rw [lg_entry_eq]
  generalize (lg_sl ([.int p1, .int p2]) ++ List.replicate (3 - (lg_sl ([.int p1, .int p2])).length) Slot.unset).toArray = ls at hl ⊢
  have hl : lv_has ls 3 [(0, .int p1), (1, .int p2)] := hl
  refine lv_iconst (v := (0 : Int32)) hx hb d_Version_mendable_0 (by decide) ?_
  refine lv_istore_n (lv' := [(2, .int (0 : Int32)), (0, .int p1), (1, .int p2)]) hx hb d_Version_mendable_1 rfl hl (by decide) rfl (fun ls hl => ?_)
  refine lv_iload_n hx hb d_Version_mendable_2 rfl (lv_at hl 2 rfl) ?_
  refine lv_iconst (v := (1 : Int32)) hx hb d_Version_mendable_3 (by decide) ?_
  obtain ⟨k2, hk2, Hf⟩ := sq_jn_e Hf
  have Jk2 : ∀ (x1 : Int32), k2 x1 = some r0 → ∀ ls : Array Slot, lv_has ls 3 [(0, .int p1), (1, .int p2), (2, .int x1)] → W p l e (headSpec w_Version_mendable rm_Version_mendable).room s m (([.int p1, .int p2] : List Value).toArray) below meth c s.heap [] 0 0 (MQ below (qc_Version_mendable r0) (([.int p1, .int p2] : List Value).toArray) s 0 0 (fun _ => False)) (F0 m 31 ls []) := by
    intro x1 Hf ls hl
    rw [hk2] at Hf
    refine lv_iload_n hx hb d_Version_mendable_31 rfl (lv_at hl 0 rfl) ?_
    refine lv_iload_n hx hb d_Version_mendable_32 rfl (lv_at hl 1 rfl) ?_
    obtain ⟨r3, hc4, Hf⟩ := sq_cb1_e Hf
    refine sq_roi (va_runS (As := [.int p1, .int p2]) (rest := []) ⟨hx, hb, hml, hown, ht⟩ (kt_Version_checks l dC dI p1 p2 tt r3 hc4) (va_cwS 2 ht (sq_gS tb_418 tb_419 tb_16 tb_420) rfl rfl rfl (by decide +kernel) ⟨Nat.le_of_ble_eq_true rfl, Nat.le_of_ble_eq_true rfl⟩) (sq_roSX (hP.sub (ws' := ([] : va_W)) [] rfl) (hK.sub (tys' := []) [] rfl) hX va_S.rf (fun _ h => h.elim)) rfl rfl hl.1 rfl (lv_room (Nat.le_of_ble_eq_true rfl)) d_Version_mendable_33 ⟨Nat.le_of_ble_eq_true rfl, Nat.le_of_ble_eq_true rfl⟩) ?_
    refine lv_iload_n hx hb d_Version_mendable_36 rfl (lv_at hl 2 rfl) ?_
    refine lv_isub hx hb d_Version_mendable_37 ?_
    refine lv_iconst (v := (2 : Int32)) hx hb d_Version_mendable_38 (by decide) ?_
    refine lv_idiv hx hb d_Version_mendable_39 (by decide) ?_
    have er := Option.some.inj Hf
    exact W.iret hx hb hr (fun t ht hW => ⟨_, rfl, er, ht⟩) (fun q h => by cases h) d_Version_mendable_40
  refine lv_icmp_ne (tgt := 18) hx hb d_Version_mendable_4 (by decide) (fun c5 => ?_) (fun c5 => ?_)
  · replace Hf := sq_ite_f Hf c5
    refine lv_iload_n hx hb d_Version_mendable_18 rfl (lv_at hl 1 rfl) ?_
    refine lv_if_ne (tgt := 31) hx hb d_Version_mendable_19 (by decide) (fun c6 => ?_) (fun c6 => ?_)
    · replace Hf := sq_ite_f Hf c6
      exact Jk2 (0 : Int32) Hf _ (lv_sub hl [1, 2, 0] rfl)
    · replace Hf := sq_ite_t Hf c6
      refine lv_iload_n hx hb d_Version_mendable_22 rfl (lv_at hl 2 rfl) ?_
      refine lv_iconst (v := (3 : Int32)) hx hb d_Version_mendable_23 (by decide) ?_
      refine lv_icmp_gt (tgt := 31) hx hb d_Version_mendable_24 (by decide) (fun c7 => ?_) (fun c7 => ?_)
      · replace Hf := sq_ite_t Hf c7
        exact Jk2 (0 : Int32) Hf _ (lv_sub hl [1, 2, 0] rfl)
      · replace Hf := sq_ite_f Hf c7
        refine lv_iconst (v := (4 : Int32)) hx hb d_Version_mendable_27 (by decide) ?_
        refine lv_iload_n hx hb d_Version_mendable_28 rfl (lv_at hl 2 rfl) ?_
        refine lv_isub hx hb d_Version_mendable_29 ?_
        obtain ⟨x8, ex8, Hf⟩ := sq_bd_e Hf
        refine sq_top ex8 ?_
        refine lv_istore_n (lv' := [(2, .int x8), (0, .int p1), (1, .int p2)]) hx hb d_Version_mendable_30 rfl hl (by decide) rfl (fun ls hl => ?_)
        exact Jk2 x8 Hf _ (lv_sub hl [1, 2, 0] rfl)
  · replace Hf := sq_ite_t Hf c5
    refine lv_iconst (v := (1 : Int32)) hx hb d_Version_mendable_7 (by decide) ?_
    refine lv_iconst (v := (3 : Int32)) hx hb d_Version_mendable_8 (by decide) ?_
    refine lv_iload_n hx hb d_Version_mendable_9 rfl (lv_at hl 1 rfl) ?_
    refine lv_isub hx hb d_Version_mendable_10 ?_
    obtain ⟨x9, ex9, Hf⟩ := sq_bd_e Hf
    refine sq_top ex9 ?_
    refine va_mmax hx hb (by rw [hml]; exact hl.1.symm) hown (ht _ tb_415) (ht _ tb_416) (ht _ tb_17) (ht _ tb_417) (Nat.le_of_ble_eq_true rfl) (Nat.le_of_ble_eq_true rfl) (Nat.zero_le _) (Nat.zero_le _) d_Version_mendable_11 ?_
    obtain ⟨x10, ex10, Hf⟩ := sq_bd_e Hf
    refine sq_top ex10 ?_
    refine lv_istore_n (lv' := [(2, .int x10), (0, .int p1), (1, .int p2)]) hx hb d_Version_mendable_14 rfl hl (by decide) rfl (fun ls hl => ?_)
    refine lv_goto (tgt := 31) hx hb d_Version_mendable_15 (by decide) ?_
    exact Jk2 x10 Hf _ (lv_sub hl [1, 2, 0] rfl)

def fn_Version_span (p1 : Int32) : Option (Int32) :=
  if (9 : Int32) < p1 then (if (26 : Int32) < p1 then (some ((2 : Int32))) else (some ((1 : Int32)))) else (some ((0 : Int32)))
def rm_Version_span : Room := { frames := 0, cells := 0, slots := 0, locals := 0 }
abbrev qc_Version_span (r0 : Int32) : Array Value → State → Outcome → State → Prop := vp_Si (fun r => r = r0)

set_option maxHeartbeats 4000000 in
set_option maxRecDepth 100000 in
theorem kt_Version_span (l : Launch) (dC : Nat → ClassId) (dI : Nat → Nat → Nat) (p1 : Int32) (r0 : Int32) (Hf : fn_Version_span p1 = some r0) : Met l y_Version_span w_Version_span rm_Version_span (va_Pc [.int p1] (fun U => va_P (dC, dI) cl_All ([] : va_W) U.heap ∧ va_K (dC, dI) cl_All [] U)) (qc_Version_span r0) 0 0 (fun _ => False) := by
  refine Met.ofW (cc := prog_12_method_4_code) (maxL := 1) (ret := (some .int)) (by decide) rfl ?_
  intro p e s m args below meth c s₁ B hml hv
  obtain ⟨rfl, hP, hK⟩ := hv
  have hx := B.exec; have hb := B.bytes; have hr := B.returns; have hlocks := B.notSynchronized
  have ht : ∀ w ∈ lw_g, w.before _ s = true := fun w h => atoms_spec (ws := w_Version_span) B.pre w (List.mem_cons_of_mem _ h)
  have hown : s.vm.findClass "SquareSymbols$Version" = some m.cls := findClass_of_methodNamed B.named
  have hl := lv_entry ([.int p1]) (n := 1) (Nat.le_of_ble_eq_true rfl)
  rw [lg_entry_eq]
  generalize (lg_sl ([.int p1]) ++ List.replicate (1 - (lg_sl ([.int p1])).length) Slot.unset).toArray = ls at hl ⊢
  have hl : lv_has ls 1 [(0, .int p1)] := hl
  refine lv_iload_n hx hb d_Version_span_0 rfl (lv_at hl 0 rfl) ?_
  refine lv_bipush (v := (9 : Int32)) hx hb d_Version_span_1 (by decide) ?_
  refine lv_icmp_gt (tgt := 10) hx hb d_Version_span_3 (by decide) (fun c1 => ?_) (fun c1 => ?_)
  · replace Hf := sq_ite_t Hf c1
    refine lv_iload_n hx hb d_Version_span_10 rfl (lv_at hl 0 rfl) ?_
    refine lv_bipush (v := (26 : Int32)) hx hb d_Version_span_11 (by decide) ?_
    refine lv_icmp_gt (tgt := 20) hx hb d_Version_span_13 (by decide) (fun c2 => ?_) (fun c2 => ?_)
    · replace Hf := sq_ite_t Hf c2
      refine lv_iconst (v := (2 : Int32)) hx hb d_Version_span_20 (by decide) ?_
      have er := Option.some.inj Hf
      exact W.iret hx hb hr (fun t ht hW => ⟨_, rfl, er, ht⟩) (fun q h => by cases h) d_Version_span_21
    · replace Hf := sq_ite_f Hf c2
      refine lv_iconst (v := (1 : Int32)) hx hb d_Version_span_16 (by decide) ?_
      refine lv_goto (tgt := 21) hx hb d_Version_span_17 (by decide) ?_
      have er := Option.some.inj Hf
      exact W.iret hx hb hr (fun t ht hW => ⟨_, rfl, er, ht⟩) (fun q h => by cases h) d_Version_span_21
  · replace Hf := sq_ite_f Hf c1
    refine lv_iconst (v := (0 : Int32)) hx hb d_Version_span_6 (by decide) ?_
    refine lv_goto (tgt := 21) hx hb d_Version_span_7 (by decide) ?_
    have er := Option.some.inj Hf
    exact W.iret hx hb hr (fun t ht hW => ⟨_, rfl, er, ht⟩) (fun q h => by cases h) d_Version_span_21

def fn_Version_countBits (p1 : Int32) (p2 : Int32) : Option (Int32) :=
  sq_cb1 (fn_Version_span p2) fun r1 => sq_cb1 (fn_Sq_item_p1T (((3 : Int32) * p1) + r1) 9 tv_COUNT_BITS) fun r3 => some (r3)
def rm_Version_countBits : Room := { frames := 1, cells := 0, slots := 0, locals := 21 }
abbrev qc_Version_countBits (r0 : Int32) : Array Value → State → Outcome → State → Prop := vp_Si (fun r => r = r0)

set_option maxHeartbeats 4000000 in
set_option maxRecDepth 100000 in
theorem kt_Version_countBits (l : Launch) (dC : Nat → ClassId) (dI : Nat → Nat → Nat) (p1 : Int32) (p2 : Int32) (tt : Nat → Nat) (r0 : Int32) (Hf : fn_Version_countBits p1 p2 = some r0) : Met l y_Version_countBits w_Version_countBits rm_Version_countBits (va_Pc [.int p1, .int p2] (fun U => va_P (dC, dI) cl_All ([] : va_W) U.heap ∧ va_K (dC, dI) cl_All [] U ∧ sx_T tt (fun _ => False) U U.heap)) (qc_Version_countBits r0) 0 0 (fun _ => False) := by
  refine Met.ofW (cc := prog_12_method_5_code) (maxL := 2) (ret := (some .int)) (by decide) rfl ?_
  intro p e s m args below meth c s₁ B hml hv
  obtain ⟨rfl, hP, hK, hX⟩ := hv
  have hx := B.exec; have hb := B.bytes; have hr := B.returns; have hlocks := B.notSynchronized
  have ht : ∀ w ∈ lw_g, w.before _ s = true := fun w h => atoms_spec (ws := w_Version_countBits) B.pre w (List.mem_cons_of_mem _ h)
  have hown : s.vm.findClass "SquareSymbols$Version" = some m.cls := findClass_of_methodNamed B.named
  have hl := lv_entry ([.int p1, .int p2]) (n := 2) (Nat.le_of_ble_eq_true rfl)
  rw [lg_entry_eq]
  generalize (lg_sl ([.int p1, .int p2]) ++ List.replicate (2 - (lg_sl ([.int p1, .int p2])).length) Slot.unset).toArray = ls at hl ⊢
  have hl : lv_has ls 2 [(0, .int p1), (1, .int p2)] := hl
  refine va_gets hx hb hX.z2 va_S.rf hown (ht _ tb_616) (fun _ h => h) d_Version_countBits_0 ?_
  refine lv_iconst (v := (3 : Int32)) hx hb d_Version_countBits_3 (by decide) ?_
  refine lv_iload_n hx hb d_Version_countBits_4 rfl (lv_at hl 0 rfl) ?_
  refine lv_imul hx hb d_Version_countBits_5 ?_
  refine lv_iload_n hx hb d_Version_countBits_6 rfl (lv_at hl 1 rfl) ?_
  obtain ⟨r1, hc2, Hf⟩ := sq_cb1_e Hf
  refine sq_roi (va_runS (As := [.int p2]) (rest := [.int ((3 : Int32) * p1), .ref (tt 2)]) ⟨hx, hb, hml, hown, ht⟩ (kt_Version_span l dC dI p2 r1 hc2) (va_cwS 1 ht (sq_gS tb_618 tb_619 tb_16 tb_620) rfl rfl rfl (by decide +kernel) ⟨Nat.le_of_ble_eq_true rfl, Nat.le_of_ble_eq_true rfl⟩) (sq_roS (hP.sub (ws' := ([] : va_W)) [] rfl) (hK.sub (tys' := []) [] rfl)) rfl rfl hl.1 rfl (lv_room (Nat.le_of_ble_eq_true rfl)) d_Version_countBits_7 ⟨Nat.le_of_ble_eq_true rfl, Nat.le_of_ble_eq_true rfl⟩) ?_
  refine lv_iadd hx hb d_Version_countBits_10 ?_
  obtain ⟨r3, hc4, Hf⟩ := sq_cb1_e Hf
  refine sq_roi (va_runSN (As := [.ref (tt 2), .int (((3 : Int32) * p1) + r1)]) (rest := []) ⟨hx, hb, hml, hown, ht⟩ (kt_Sq_item_p1T l dC dI (tt 2) 9 tv_COUNT_BITS (((3 : Int32) * p1) + r1) r3 hc4) ⟨va_cnB 2 ht (sq_g1 tb_414) rfl rfl rfl hX.n412 (ht _ tb_1) (by decide +kernel) ⟨Nat.le_of_ble_eq_true rfl, Nat.le_of_ble_eq_true rfl⟩, ht _ tb_413, trivial⟩ (sq_roT (hP.sub (ws' := ([] : va_W)) [] rfl) (hK.sub (tys' := []) [] rfl) hX.t2 va_S.rf) rfl rfl hl.1 rfl (lv_room (Nat.le_of_ble_eq_true rfl)) d_Version_countBits_11 ⟨Nat.le_of_ble_eq_true rfl, Nat.le_of_ble_eq_true rfl⟩) ?_
  have er := Option.some.inj Hf
  exact W.iret hx hb hr (fun t ht hW => ⟨_, rfl, er, ht⟩) (fun q h => by cases h) d_Version_countBits_14

