def fn_Mode_groupSize (p1 : Int32) : Option (Int32) :=
  some ((3 : Int32) - p1)
def rm_Mode_groupSize : Room := { frames := 0, cells := 0, slots := 0, locals := 0 }
abbrev qc_Mode_groupSize (r0 : Int32) : Array Value → State → Outcome → State → Prop := vp_Si (fun r => r = r0)

set_option maxHeartbeats 4000000 in
set_option maxRecDepth 100000 in
theorem kt_Mode_groupSize (l : Launch) (dC : Nat → ClassId) (dI : Nat → Nat → Nat) (p1 : Int32) (r0 : Int32) (Hf : fn_Mode_groupSize p1 = some r0) : Met l y_Mode_groupSize w_Mode_groupSize rm_Mode_groupSize (va_Pc [.int p1] (fun U => va_P (dC, dI) cl_All ([] : va_W) U.heap ∧ va_K (dC, dI) cl_All [] U)) (qc_Mode_groupSize r0) 0 0 (fun _ => False) := by
  refine Met.ofW (cc := prog_9_method_4_code) (maxL := 1) (ret := (some .int)) (by decide) rfl ?_
  intro p e s m args below meth c s₁ B hml hv
  obtain ⟨rfl, hP, hK⟩ := hv
  have hx := B.exec; have hb := B.bytes; have hr := B.returns; have hlocks := B.notSynchronized
  have ht : ∀ w ∈ lw_g, w.before _ s = true := fun w h => atoms_spec (ws := w_Mode_groupSize) B.pre w (List.mem_cons_of_mem _ h)
  have hown : s.vm.findClass "SquareSymbols$Mode" = some m.cls := findClass_of_methodNamed B.named
  have hl := lv_entry ([.int p1]) (n := 1) (Nat.le_of_ble_eq_true rfl)
  rw [lg_entry_eq]
  generalize (lg_sl ([.int p1]) ++ List.replicate (1 - (lg_sl ([.int p1])).length) Slot.unset).toArray = ls at hl ⊢
  have hl : lv_has ls 1 [(0, .int p1)] := hl
  refine lv_iconst (v := (3 : Int32)) hx hb d_Mode_groupSize_0 (by decide) ?_
  refine lv_iload_n hx hb d_Mode_groupSize_1 rfl (lv_at hl 0 rfl) ?_
  refine lv_isub hx hb d_Mode_groupSize_2 ?_
  have er := Option.some.inj Hf
  exact W.iret hx hb hr (fun t ht hW => ⟨_, rfl, er, ht⟩) (fun q h => by cases h) d_Mode_groupSize_3

def fn_Mode_groupBits (p1 : Int32) (p2 : Int32) : Option (Int32) :=
  if p1 = 0 then (some (((3 : Int32) * p2) + (1 : Int32))) else (if p1 = (1 : Int32) then (some (((5 : Int32) * p2) + (1 : Int32))) else (some ((8 : Int32) * p2)))
def rm_Mode_groupBits : Room := { frames := 0, cells := 0, slots := 0, locals := 0 }
abbrev qc_Mode_groupBits (r0 : Int32) : Array Value → State → Outcome → State → Prop := vp_Si (fun r => r = r0)

set_option maxHeartbeats 4000000 in
set_option maxRecDepth 100000 in
theorem kt_Mode_groupBits (l : Launch) (dC : Nat → ClassId) (dI : Nat → Nat → Nat) (p1 : Int32) (p2 : Int32) (r0 : Int32) (Hf : fn_Mode_groupBits p1 p2 = some r0) : Met l y_Mode_groupBits w_Mode_groupBits rm_Mode_groupBits (va_Pc [.int p1, .int p2] (fun U => va_P (dC, dI) cl_All ([] : va_W) U.heap ∧ va_K (dC, dI) cl_All [] U)) (qc_Mode_groupBits r0) 0 0 (fun _ => False) := by
  refine Met.ofW (cc := prog_9_method_5_code) (maxL := 2) (ret := (some .int)) (by decide) rfl ?_
  intro p e s m args below meth c s₁ B hml hv
  obtain ⟨rfl, hP, hK⟩ := hv
  have hx := B.exec; have hb := B.bytes; have hr := B.returns; have hlocks := B.notSynchronized
  have ht : ∀ w ∈ lw_g, w.before _ s = true := fun w h => atoms_spec (ws := w_Mode_groupBits) B.pre w (List.mem_cons_of_mem _ h)
  have hown : s.vm.findClass "SquareSymbols$Mode" = some m.cls := findClass_of_methodNamed B.named
  have hl := lv_entry ([.int p1, .int p2]) (n := 2) (Nat.le_of_ble_eq_true rfl)
  rw [lg_entry_eq]
  generalize (lg_sl ([.int p1, .int p2]) ++ List.replicate (2 - (lg_sl ([.int p1, .int p2])).length) Slot.unset).toArray = ls at hl ⊢
  have hl : lv_has ls 2 [(0, .int p1), (1, .int p2)] := hl
  refine lv_iload_n hx hb d_Mode_groupBits_0 rfl (lv_at hl 0 rfl) ?_
  refine lv_if_ne (tgt := 12) hx hb d_Mode_groupBits_1 (by decide) (fun c1 => ?_) (fun c1 => ?_)
  · replace Hf := sq_ite_f Hf c1
    refine lv_iload_n hx hb d_Mode_groupBits_12 rfl (lv_at hl 0 rfl) ?_
    refine lv_iconst (v := (1 : Int32)) hx hb d_Mode_groupBits_13 (by decide) ?_
    refine lv_icmp_ne (tgt := 25) hx hb d_Mode_groupBits_14 (by decide) (fun c2 => ?_) (fun c2 => ?_)
    · replace Hf := sq_ite_f Hf c2
      refine lv_bipush (v := (8 : Int32)) hx hb d_Mode_groupBits_25 (by decide) ?_
      refine lv_iload_n hx hb d_Mode_groupBits_27 rfl (lv_at hl 1 rfl) ?_
      refine lv_imul hx hb d_Mode_groupBits_28 ?_
      have er := Option.some.inj Hf
      exact W.iret hx hb hr (fun t ht hW => ⟨_, rfl, er, ht⟩) (fun q h => by cases h) d_Mode_groupBits_29
    · replace Hf := sq_ite_t Hf c2
      refine lv_iconst (v := (5 : Int32)) hx hb d_Mode_groupBits_17 (by decide) ?_
      refine lv_iload_n hx hb d_Mode_groupBits_18 rfl (lv_at hl 1 rfl) ?_
      refine lv_imul hx hb d_Mode_groupBits_19 ?_
      refine lv_iconst (v := (1 : Int32)) hx hb d_Mode_groupBits_20 (by decide) ?_
      refine lv_iadd hx hb d_Mode_groupBits_21 ?_
      refine lv_goto (tgt := 29) hx hb d_Mode_groupBits_22 (by decide) ?_
      have er := Option.some.inj Hf
      exact W.iret hx hb hr (fun t ht hW => ⟨_, rfl, er, ht⟩) (fun q h => by cases h) d_Mode_groupBits_29
  · replace Hf := sq_ite_t Hf c1
    refine lv_iconst (v := (3 : Int32)) hx hb d_Mode_groupBits_4 (by decide) ?_
    refine lv_iload_n hx hb d_Mode_groupBits_5 rfl (lv_at hl 1 rfl) ?_
    refine lv_imul hx hb d_Mode_groupBits_6 ?_
    refine lv_iconst (v := (1 : Int32)) hx hb d_Mode_groupBits_7 (by decide) ?_
    refine lv_iadd hx hb d_Mode_groupBits_8 ?_
    refine lv_goto (tgt := 29) hx hb d_Mode_groupBits_9 (by decide) ?_
    have er := Option.some.inj Hf
    exact W.iret hx hb hr (fun t ht hW => ⟨_, rfl, er, ht⟩) (fun q h => by cases h) d_Mode_groupBits_29

def fn_Mode_base (p1 : Int32) : Option (Int32) :=
  if p1 = 0 then (some ((10 : Int32))) else (if p1 = (1 : Int32) then (some ((45 : Int32))) else (some ((256 : Int32))))
def rm_Mode_base : Room := { frames := 0, cells := 0, slots := 0, locals := 0 }
abbrev qc_Mode_base (r0 : Int32) : Array Value → State → Outcome → State → Prop := vp_Si (fun r => r = r0)

set_option maxHeartbeats 4000000 in
set_option maxRecDepth 100000 in
theorem kt_Mode_base (l : Launch) (dC : Nat → ClassId) (dI : Nat → Nat → Nat) (p1 : Int32) (r0 : Int32) (Hf : fn_Mode_base p1 = some r0) : Met l y_Mode_base w_Mode_base rm_Mode_base (va_Pc [.int p1] (fun U => va_P (dC, dI) cl_All ([] : va_W) U.heap ∧ va_K (dC, dI) cl_All [] U)) (qc_Mode_base r0) 0 0 (fun _ => False) := by
  refine Met.ofW (cc := prog_9_method_3_code) (maxL := 1) (ret := (some .int)) (by decide) rfl ?_
  intro p e s m args below meth c s₁ B hml hv
  obtain ⟨rfl, hP, hK⟩ := hv
  have hx := B.exec; have hb := B.bytes; have hr := B.returns; have hlocks := B.notSynchronized
  have ht : ∀ w ∈ lw_g, w.before _ s = true := fun w h => atoms_spec (ws := w_Mode_base) B.pre w (List.mem_cons_of_mem _ h)
  have hown : s.vm.findClass "SquareSymbols$Mode" = some m.cls := findClass_of_methodNamed B.named
  have hl := lv_entry ([.int p1]) (n := 1) (Nat.le_of_ble_eq_true rfl)
  rw [lg_entry_eq]
  generalize (lg_sl ([.int p1]) ++ List.replicate (1 - (lg_sl ([.int p1])).length) Slot.unset).toArray = ls at hl ⊢
  have hl : lv_has ls 1 [(0, .int p1)] := hl
  refine lv_iload_n hx hb d_Mode_base_0 rfl (lv_at hl 0 rfl) ?_
  refine lv_if_ne (tgt := 9) hx hb d_Mode_base_1 (by decide) (fun c1 => ?_) (fun c1 => ?_)
  · replace Hf := sq_ite_f Hf c1
    refine lv_iload_n hx hb d_Mode_base_9 rfl (lv_at hl 0 rfl) ?_
    refine lv_iconst (v := (1 : Int32)) hx hb d_Mode_base_10 (by decide) ?_
    refine lv_icmp_ne (tgt := 19) hx hb d_Mode_base_11 (by decide) (fun c2 => ?_) (fun c2 => ?_)
    · replace Hf := sq_ite_f Hf c2
      refine lv_sipush (v := (256 : Int32)) hx hb d_Mode_base_19 (by decide) ?_
      have er := Option.some.inj Hf
      exact W.iret hx hb hr (fun t ht hW => ⟨_, rfl, er, ht⟩) (fun q h => by cases h) d_Mode_base_22
    · replace Hf := sq_ite_t Hf c2
      refine lv_bipush (v := (45 : Int32)) hx hb d_Mode_base_14 (by decide) ?_
      refine lv_goto (tgt := 22) hx hb d_Mode_base_16 (by decide) ?_
      have er := Option.some.inj Hf
      exact W.iret hx hb hr (fun t ht hW => ⟨_, rfl, er, ht⟩) (fun q h => by cases h) d_Mode_base_22
  · replace Hf := sq_ite_t Hf c1
    refine lv_bipush (v := (10 : Int32)) hx hb d_Mode_base_4 (by decide) ?_
    refine lv_goto (tgt := 22) hx hb d_Mode_base_6 (by decide) ?_
    have er := Option.some.inj Hf
    exact W.iret hx hb hr (fun t ht hW => ⟨_, rfl, er, ht⟩) (fun q h => by cases h) d_Mode_base_22

def fn_Mode_groupNumbers_L1 (p1 : Int32) (p2 : Int32) : Nat → Int32 → Int32 → Option (Int32)
  | 0, _, _ => none
  | m1 + 1, x1, x2 => if p2 ≤ x2 then (some (x1)) else (sq_cb1 (fn_Mode_base p1) fun r4 => sq_bd (x1 * r4) fun x6 => sq_bd (x2 + (1 : Int32)) fun x7 => fn_Mode_groupNumbers_L1 p1 p2 m1 x6 x7)
theorem fn_Mode_groupNumbers_L1_s (p1 : Int32) (p2 : Int32) (m1 : Nat) (x1 : Int32) (x2 : Int32) : fn_Mode_groupNumbers_L1 p1 p2 (m1 + 1) x1 x2 = if p2 ≤ x2 then (some (x1)) else (sq_cb1 (fn_Mode_base p1) fun r4 => sq_bd (x1 * r4) fun x6 => sq_bd (x2 + (1 : Int32)) fun x7 => fn_Mode_groupNumbers_L1 p1 p2 m1 x6 x7) := rfl
def fn_Mode_groupNumbers (n0 : Nat) (p1 : Int32) (p2 : Int32) : Option (Int32) :=
  fn_Mode_groupNumbers_L1 p1 p2 n0 (1 : Int32) (0 : Int32)
def rm_Mode_groupNumbers : Room := { frames := 1, cells := 0, slots := 0, locals := 20 }
abbrev qc_Mode_groupNumbers (r0 : Int32) : Array Value → State → Outcome → State → Prop := vp_Si (fun r => r = r0)

set_option maxHeartbeats 4000000 in
set_option maxRecDepth 100000 in
theorem kt_Mode_groupNumbers (l : Launch) (dC : Nat → ClassId) (dI : Nat → Nat → Nat) (p1 : Int32) (p2 : Int32) (n0 : Nat) (r0 : Int32) (Hf : fn_Mode_groupNumbers n0 p1 p2 = some r0) : Met l y_Mode_groupNumbers w_Mode_groupNumbers rm_Mode_groupNumbers (va_Pc [.int p1, .int p2] (fun U => va_P (dC, dI) cl_All ([] : va_W) U.heap ∧ va_K (dC, dI) cl_All [] U)) (qc_Mode_groupNumbers r0) 0 0 (fun _ => False) := by
  refine Met.ofW (cc := prog_9_method_6_code) (maxL := 4) (ret := (some .int)) (by decide) rfl ?_
  intro p e s m args below meth c s₁ B hml hv
  obtain ⟨rfl, hP, hK⟩ := hv
  have hx := B.exec; have hb := B.bytes; have hr := B.returns; have hlocks := B.notSynchronized
  have ht : ∀ w ∈ lw_g, w.before _ s = true := fun w h => atoms_spec (ws := w_Mode_groupNumbers) B.pre w (List.mem_cons_of_mem _ h)
  have hown : s.vm.findClass "SquareSymbols$Mode" = some m.cls := findClass_of_methodNamed B.named
  have hl := lv_entry ([.int p1, .int p2]) (n := 4) (Nat.le_of_ble_eq_true rfl)
  rw [lg_entry_eq]
  generalize (lg_sl ([.int p1, .int p2]) ++ List.replicate (4 - (lg_sl ([.int p1, .int p2])).length) Slot.unset).toArray = ls at hl ⊢
  have hl : lv_has ls 4 [(0, .int p1), (1, .int p2)] := hl
  refine lv_iconst (v := (1 : Int32)) hx hb d_Mode_groupNumbers_0 (by decide) ?_
  refine lv_istore_n (lv' := [(2, .int (1 : Int32)), (0, .int p1), (1, .int p2)]) hx hb d_Mode_groupNumbers_1 rfl hl (by decide) rfl (fun ls hl => ?_)
  refine lv_iconst (v := (0 : Int32)) hx hb d_Mode_groupNumbers_2 (by decide) ?_
  refine lv_istore_n (lv' := [(3, .int (0 : Int32)), (2, .int (1 : Int32)), (0, .int p1), (1, .int p2)]) hx hb d_Mode_groupNumbers_3 rfl hl (by decide) rfl (fun ls hl => ?_)
  have L1 : ∀ (m1 : Nat), ∀ (x1 : Int32) (x2 : Int32), fn_Mode_groupNumbers_L1 p1 p2 m1 x1 x2 = some r0 → ∀ ls : Array Slot, lv_has ls 4 [(0, .int p1), (1, .int p2), (2, .int x1), (3, .int x2)] → W p l e (headSpec w_Mode_groupNumbers rm_Mode_groupNumbers).room s m (([.int p1, .int p2] : List Value).toArray) below meth c s.heap [] 0 0 (MQ below (qc_Mode_groupNumbers r0) (([.int p1, .int p2] : List Value).toArray) s 0 0 (fun _ => False)) (F0 m 4 ls []) := by
    intro m1
    induction m1 with
    | zero => intro x1 x2 Hf; exact sq_none Hf
    | succ m1 ih1 =>
      intro x1 x2 Hf ls hl
      replace Hf := (fn_Mode_groupNumbers_L1_s p1 p2 m1 x1 x2).symm.trans Hf
      refine lv_iload_n hx hb d_Mode_groupNumbers_4 rfl (lv_at hl 3 rfl) ?_
      refine lv_iload_n hx hb d_Mode_groupNumbers_5 rfl (lv_at hl 1 rfl) ?_
      refine lv_icmp_ge (tgt := 22) hx hb d_Mode_groupNumbers_6 (by decide) (fun c3 => ?_) (fun c3 => ?_)
      · replace Hf := sq_ite_t Hf c3
        refine lv_iload_n hx hb d_Mode_groupNumbers_22 rfl (lv_at hl 2 rfl) ?_
        have er := Option.some.inj Hf
        exact W.iret hx hb hr (fun t ht hW => ⟨_, rfl, er, ht⟩) (fun q h => by cases h) d_Mode_groupNumbers_23
      · replace Hf := sq_ite_f Hf c3
        refine lv_iload_n hx hb d_Mode_groupNumbers_9 rfl (lv_at hl 2 rfl) ?_
        refine lv_iload_n hx hb d_Mode_groupNumbers_10 rfl (lv_at hl 0 rfl) ?_
        obtain ⟨r4, hc5, Hf⟩ := sq_cb1_e Hf
        refine sq_roi (va_runS (As := [.int p1]) (rest := [.int x1]) ⟨hx, hb, hml, hown, ht⟩ (kt_Mode_base l dC dI p1 r4 hc5) (va_cwS 1 ht (sq_gS tb_636 tb_637 tb_19 tb_638) rfl rfl rfl (by decide +kernel) ⟨Nat.le_of_ble_eq_true rfl, Nat.le_of_ble_eq_true rfl⟩) (sq_roS (hP.sub (ws' := ([] : va_W)) [] rfl) (hK.sub (tys' := []) [] rfl)) rfl rfl hl.1 rfl (lv_room (Nat.le_of_ble_eq_true rfl)) d_Mode_groupNumbers_11 ⟨Nat.le_of_ble_eq_true rfl, Nat.le_of_ble_eq_true rfl⟩) ?_
        refine lv_imul hx hb d_Mode_groupNumbers_14 ?_
        obtain ⟨x6, ex6, Hf⟩ := sq_bd_e Hf
        refine sq_top ex6 ?_
        refine lv_istore_n (lv' := [(2, .int x6), (0, .int p1), (1, .int p2), (3, .int x2)]) hx hb d_Mode_groupNumbers_15 rfl hl (by decide) rfl (fun ls hl => ?_)
        obtain ⟨x7, ex7, Hf⟩ := sq_bd_e Hf
        refine lv_iinc (v := x7) (lv' := [(3, .int x7), (2, .int x6), (0, .int p1), (1, .int p2)]) hx hb d_Mode_groupNumbers_16 hl (k := 3) rfl (by rw [ex7]; rfl) (by decide) rfl (fun ls hl => ?_)
        refine lv_goto (tgt := 4) hx hb d_Mode_groupNumbers_19 (by decide) ?_
        exact ih1 x6 x7 Hf _ (lv_sub hl [2, 3, 1, 0] rfl)
  exact L1 n0 (1 : Int32) (0 : Int32) Hf _ (lv_sub hl [2, 3, 1, 0] rfl)

