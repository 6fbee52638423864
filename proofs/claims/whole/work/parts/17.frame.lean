def fn_Frame_formX (p1 : Int32) (p2 : Int32) (p3 : Int32) : Option (Int32) :=
  if p1 = (1 : Int32) then (if (7 : Int32) < p2 then (some ((8 : Int32))) else (some ((p3 - (1 : Int32)) - p2))) else (if (7 : Int32) < p2 then (if p2 = (8 : Int32) then (some ((7 : Int32))) else (some ((14 : Int32) - p2))) else (some ((8 : Int32))))
def rm_Frame_formX : Room := { frames := 0, cells := 0, slots := 0, locals := 0 }
abbrev qc_Frame_formX (r0 : Int32) : Array Value → State → Outcome → State → Prop := vp_Si (fun r => r = r0)

set_option maxHeartbeats 4000000 in
set_option maxRecDepth 100000 in
theorem kt_Frame_formX (l : Launch) (dC : Nat → ClassId) (dI : Nat → Nat → Nat) (p1 : Int32) (p2 : Int32) (p3 : Int32) (r0 : Int32) (Hf : fn_Frame_formX p1 p2 p3 = some r0) : Met l y_Frame_formX w_Frame_formX rm_Frame_formX (va_Pc [.int p1, .int p2, .int p3] (fun U => va_P (dC, dI) cl_All ([] : va_W) U.heap ∧ va_K (dC, dI) cl_All [] U)) (qc_Frame_formX r0) 0 0 (fun _ => False) := by
  refine Met.ofW (cc := prog_6_method_9_code) (maxL := 3) (ret := (some .int)) (by decide) rfl ?_
  intro p e s m args below meth c s₁ B hml hv
  obtain ⟨rfl, hP, hK⟩ := hv
  have hx := B.exec; have hb := B.bytes; have hr := B.returns; have hlocks := B.notSynchronized
  have ht : ∀ w ∈ lw_g, w.before _ s = true := fun w h => atoms_spec (ws := w_Frame_formX) B.pre w (List.mem_cons_of_mem _ h)
  have hown : s.vm.findClass "SquareSymbols$Frame" = some m.cls := findClass_of_methodNamed B.named
  have hl := lv_entry ([.int p1, .int p2, .int p3]) (n := 3) (Nat.le_of_ble_eq_true rfl)
  rw [lg_entry_eq]
  generalize (lg_sl ([.int p1, .int p2, .int p3]) ++ List.replicate (3 - (lg_sl ([.int p1, .int p2, .int p3])).length) Slot.unset).toArray = ls at hl ⊢
  have hl : lv_has ls 3 [(0, .int p1), (1, .int p2), (2, .int p3)] := hl
  refine lv_iload_n hx hb d_Frame_formX_0 rfl (lv_at hl 0 rfl) ?_
  refine lv_iconst (v := (1 : Int32)) hx hb d_Frame_formX_1 (by decide) ?_
  refine lv_icmp_ne (tgt := 22) hx hb d_Frame_formX_2 (by decide) (fun c1 => ?_) (fun c1 => ?_)
  · replace Hf := sq_ite_f Hf c1
    refine lv_iload_n hx hb d_Frame_formX_22 rfl (lv_at hl 1 rfl) ?_
    refine lv_bipush (v := (7 : Int32)) hx hb d_Frame_formX_23 (by decide) ?_
    refine lv_icmp_gt (tgt := 33) hx hb d_Frame_formX_25 (by decide) (fun c2 => ?_) (fun c2 => ?_)
    · replace Hf := sq_ite_t Hf c2
      refine lv_iload_n hx hb d_Frame_formX_33 rfl (lv_at hl 1 rfl) ?_
      refine lv_bipush (v := (8 : Int32)) hx hb d_Frame_formX_34 (by decide) ?_
      refine lv_icmp_ne (tgt := 44) hx hb d_Frame_formX_36 (by decide) (fun c3 => ?_) (fun c3 => ?_)
      · replace Hf := sq_ite_f Hf c3
        refine lv_bipush (v := (14 : Int32)) hx hb d_Frame_formX_44 (by decide) ?_
        refine lv_iload_n hx hb d_Frame_formX_46 rfl (lv_at hl 1 rfl) ?_
        refine lv_isub hx hb d_Frame_formX_47 ?_
        have er := Option.some.inj Hf
        exact W.iret hx hb hr (fun t ht hW => ⟨_, rfl, er, ht⟩) (fun q h => by cases h) d_Frame_formX_48
      · replace Hf := sq_ite_t Hf c3
        refine lv_bipush (v := (7 : Int32)) hx hb d_Frame_formX_39 (by decide) ?_
        refine lv_goto (tgt := 48) hx hb d_Frame_formX_41 (by decide) ?_
        have er := Option.some.inj Hf
        exact W.iret hx hb hr (fun t ht hW => ⟨_, rfl, er, ht⟩) (fun q h => by cases h) d_Frame_formX_48
    · replace Hf := sq_ite_f Hf c2
      refine lv_bipush (v := (8 : Int32)) hx hb d_Frame_formX_28 (by decide) ?_
      refine lv_goto (tgt := 48) hx hb d_Frame_formX_30 (by decide) ?_
      have er := Option.some.inj Hf
      exact W.iret hx hb hr (fun t ht hW => ⟨_, rfl, er, ht⟩) (fun q h => by cases h) d_Frame_formX_48
  · replace Hf := sq_ite_t Hf c1
    refine lv_iload_n hx hb d_Frame_formX_5 rfl (lv_at hl 1 rfl) ?_
    refine lv_bipush (v := (7 : Int32)) hx hb d_Frame_formX_6 (by decide) ?_
    refine lv_icmp_gt (tgt := 19) hx hb d_Frame_formX_8 (by decide) (fun c4 => ?_) (fun c4 => ?_)
    · replace Hf := sq_ite_t Hf c4
      refine lv_bipush (v := (8 : Int32)) hx hb d_Frame_formX_19 (by decide) ?_
      have er := Option.some.inj Hf
      exact W.iret hx hb hr (fun t ht hW => ⟨_, rfl, er, ht⟩) (fun q h => by cases h) d_Frame_formX_21
    · replace Hf := sq_ite_f Hf c4
      refine lv_iload_n hx hb d_Frame_formX_11 rfl (lv_at hl 2 rfl) ?_
      refine lv_iconst (v := (1 : Int32)) hx hb d_Frame_formX_12 (by decide) ?_
      refine lv_isub hx hb d_Frame_formX_13 ?_
      refine lv_iload_n hx hb d_Frame_formX_14 rfl (lv_at hl 1 rfl) ?_
      refine lv_isub hx hb d_Frame_formX_15 ?_
      refine lv_goto (tgt := 21) hx hb d_Frame_formX_16 (by decide) ?_
      have er := Option.some.inj Hf
      exact W.iret hx hb hr (fun t ht hW => ⟨_, rfl, er, ht⟩) (fun q h => by cases h) d_Frame_formX_21

def fn_Frame_withRest_L1 (p1 : Int32) (p2 : Int32) (p3 : Int32) : Nat → Int32 → Int32 → Option (Int32)
  | 0, _, _ => none
  | m1 + 1, x2, x3 => if x3 < p2 then (some ((p1 <<< (p2 &&& 31)) ||| x2)) else (sq_jn (fun (x5 : Int32) => sq_bd (x3 + (-1 : Int32)) fun x7 => fn_Frame_withRest_L1 p1 p2 p3 m1 x5 x7) fun k6 => if ((x2 >>> (x3 &&& 31)) &&& (1 : Int32)) = (1 : Int32) then (sq_bd (x2 ^^^ (p3 <<< ((x3 - p2) &&& 31))) fun x9 => k6 x9) else (k6 x2))
theorem fn_Frame_withRest_L1_s (p1 : Int32) (p2 : Int32) (p3 : Int32) (m1 : Nat) (x2 : Int32) (x3 : Int32) : fn_Frame_withRest_L1 p1 p2 p3 (m1 + 1) x2 x3 = if x3 < p2 then (some ((p1 <<< (p2 &&& 31)) ||| x2)) else (sq_jn (fun (x5 : Int32) => sq_bd (x3 + (-1 : Int32)) fun x7 => fn_Frame_withRest_L1 p1 p2 p3 m1 x5 x7) fun k6 => if ((x2 >>> (x3 &&& 31)) &&& (1 : Int32)) = (1 : Int32) then (sq_bd (x2 ^^^ (p3 <<< ((x3 - p2) &&& 31))) fun x9 => k6 x9) else (k6 x2)) := rfl
def fn_Frame_withRest (n0 : Nat) (p1 : Int32) (p2 : Int32) (p3 : Int32) : Option (Int32) :=
  sq_bd (p1 <<< (p2 &&& 31)) fun x1 => fn_Frame_withRest_L1 p1 p2 p3 n0 x1 (17 : Int32)
def rm_Frame_withRest : Room := { frames := 0, cells := 0, slots := 0, locals := 0 }
abbrev qc_Frame_withRest (r0 : Int32) : Array Value → State → Outcome → State → Prop := vp_Si (fun r => r = r0)

set_option maxHeartbeats 4000000 in
set_option maxRecDepth 100000 in
theorem kt_Frame_withRest (l : Launch) (dC : Nat → ClassId) (dI : Nat → Nat → Nat) (p1 : Int32) (p2 : Int32) (p3 : Int32) (n0 : Nat) (r0 : Int32) (Hf : fn_Frame_withRest n0 p1 p2 p3 = some r0) : Met l y_Frame_withRest w_Frame_withRest rm_Frame_withRest (va_Pc [.int p1, .int p2, .int p3] (fun U => va_P (dC, dI) cl_All ([] : va_W) U.heap ∧ va_K (dC, dI) cl_All [] U)) (qc_Frame_withRest r0) 0 0 (fun _ => False) := by
  refine Met.ofW (cc := prog_6_method_7_code) (maxL := 5) (ret := (some .int)) (by decide) rfl ?_
  intro p e s m args below meth c s₁ B hml hv
  obtain ⟨rfl, hP, hK⟩ := hv
  have hx := B.exec; have hb := B.bytes; have hr := B.returns; have hlocks := B.notSynchronized
  have ht : ∀ w ∈ lw_g, w.before _ s = true := fun w h => atoms_spec (ws := w_Frame_withRest) B.pre w (List.mem_cons_of_mem _ h)
  have hown : s.vm.findClass "SquareSymbols$Frame" = some m.cls := findClass_of_methodNamed B.named
  have hl := lv_entry ([.int p1, .int p2, .int p3]) (n := 5) (Nat.le_of_ble_eq_true rfl)
  rw [lg_entry_eq]
  generalize (lg_sl ([.int p1, .int p2, .int p3]) ++ List.replicate (5 - (lg_sl ([.int p1, .int p2, .int p3])).length) Slot.unset).toArray = ls at hl ⊢
  have hl : lv_has ls 5 [(0, .int p1), (1, .int p2), (2, .int p3)] := hl
  refine lv_iload_n hx hb d_Frame_withRest_0 rfl (lv_at hl 0 rfl) ?_
  refine lv_iload_n hx hb d_Frame_withRest_1 rfl (lv_at hl 1 rfl) ?_
  refine lv_ishl hx hb d_Frame_withRest_2 ?_
  obtain ⟨x1, ex1, Hf⟩ := sq_bd_e Hf
  refine sq_top ex1 ?_
  refine lv_istore_n (lv' := [(3, .int x1), (0, .int p1), (1, .int p2), (2, .int p3)]) hx hb d_Frame_withRest_3 rfl hl (by decide) rfl (fun ls hl => ?_)
  refine lv_bipush (v := (17 : Int32)) hx hb d_Frame_withRest_4 (by decide) ?_
  refine lv_istore (lv' := [(4, .int (17 : Int32)), (3, .int x1), (0, .int p1), (1, .int p2), (2, .int p3)]) hx hb d_Frame_withRest_6 hl (by decide) rfl (fun ls hl => ?_)
  have L1 : ∀ (m1 : Nat), ∀ (x2 : Int32) (x3 : Int32), fn_Frame_withRest_L1 p1 p2 p3 m1 x2 x3 = some r0 → ∀ ls : Array Slot, lv_has ls 5 [(0, .int p1), (1, .int p2), (2, .int p3), (3, .int x2), (4, .int x3)] → W p l e (headSpec w_Frame_withRest rm_Frame_withRest).room s m (([.int p1, .int p2, .int p3] : List Value).toArray) below meth c s.heap [] 0 0 (MQ below (qc_Frame_withRest r0) (([.int p1, .int p2, .int p3] : List Value).toArray) s 0 0 (fun _ => False)) (F0 m 8 ls []) := by
    intro m1
    induction m1 with
    | zero => intro x2 x3 Hf; exact sq_none Hf
    | succ m1 ih1 =>
      intro x2 x3 Hf ls hl
      replace Hf := (fn_Frame_withRest_L1_s p1 p2 p3 m1 x2 x3).symm.trans Hf
      refine lv_iload hx hb d_Frame_withRest_8 (lv_at hl 4 rfl) ?_
      refine lv_iload_n hx hb d_Frame_withRest_10 rfl (lv_at hl 1 rfl) ?_
      refine lv_icmp_lt (tgt := 39) hx hb d_Frame_withRest_11 (by decide) (fun c4 => ?_) (fun c4 => ?_)
      · replace Hf := sq_ite_t Hf c4
        refine lv_iload_n hx hb d_Frame_withRest_39 rfl (lv_at hl 0 rfl) ?_
        refine lv_iload_n hx hb d_Frame_withRest_40 rfl (lv_at hl 1 rfl) ?_
        refine lv_ishl hx hb d_Frame_withRest_41 ?_
        refine lv_iload_n hx hb d_Frame_withRest_42 rfl (lv_at hl 3 rfl) ?_
        refine lv_ior hx hb d_Frame_withRest_43 ?_
        have er := Option.some.inj Hf
        exact W.iret hx hb hr (fun t ht hW => ⟨_, rfl, er, ht⟩) (fun q h => by cases h) d_Frame_withRest_44
      · replace Hf := sq_ite_f Hf c4
        refine lv_iload_n hx hb d_Frame_withRest_14 rfl (lv_at hl 3 rfl) ?_
        refine lv_iload hx hb d_Frame_withRest_15 (lv_at hl 4 rfl) ?_
        refine lv_ishr hx hb d_Frame_withRest_17 ?_
        refine lv_iconst (v := (1 : Int32)) hx hb d_Frame_withRest_18 (by decide) ?_
        refine lv_iand hx hb d_Frame_withRest_19 ?_
        refine lv_iconst (v := (1 : Int32)) hx hb d_Frame_withRest_20 (by decide) ?_
        obtain ⟨k6, hk6, Hf⟩ := sq_jn_e Hf
        have Jk6 : ∀ (x5 : Int32), k6 x5 = some r0 → ∀ ls : Array Slot, lv_has ls 5 [(0, .int p1), (1, .int p2), (2, .int p3), (3, .int x5), (4, .int x3)] → W p l e (headSpec w_Frame_withRest rm_Frame_withRest).room s m (([.int p1, .int p2, .int p3] : List Value).toArray) below meth c s.heap [] 0 0 (MQ below (qc_Frame_withRest r0) (([.int p1, .int p2, .int p3] : List Value).toArray) s 0 0 (fun _ => False)) (F0 m 33 ls []) := by
          intro x5 Hf ls hl
          rw [hk6] at Hf
          obtain ⟨x7, ex7, Hf⟩ := sq_bd_e Hf
          refine lv_iinc (v := x7) (lv' := [(4, .int x7), (0, .int p1), (1, .int p2), (2, .int p3), (3, .int x5)]) hx hb d_Frame_withRest_33 hl (k := 4) rfl (by rw [ex7]; rfl) (by decide) rfl (fun ls hl => ?_)
          refine lv_goto (tgt := 8) hx hb d_Frame_withRest_36 (by decide) ?_
          exact ih1 x5 x7 Hf _ (lv_sub hl [1, 2, 3, 4, 0] rfl)
        refine lv_icmp_ne (tgt := 33) hx hb d_Frame_withRest_21 (by decide) (fun c8 => ?_) (fun c8 => ?_)
        · replace Hf := sq_ite_f Hf c8
          exact Jk6 x2 Hf _ (lv_sub hl [0, 1, 2, 3, 4] rfl)
        · replace Hf := sq_ite_t Hf c8
          refine lv_iload_n hx hb d_Frame_withRest_24 rfl (lv_at hl 3 rfl) ?_
          refine lv_iload_n hx hb d_Frame_withRest_25 rfl (lv_at hl 2 rfl) ?_
          refine lv_iload hx hb d_Frame_withRest_26 (lv_at hl 4 rfl) ?_
          refine lv_iload_n hx hb d_Frame_withRest_28 rfl (lv_at hl 1 rfl) ?_
          refine lv_isub hx hb d_Frame_withRest_29 ?_
          refine lv_ishl hx hb d_Frame_withRest_30 ?_
          refine lv_ixor hx hb d_Frame_withRest_31 ?_
          obtain ⟨x9, ex9, Hf⟩ := sq_bd_e Hf
          refine sq_top ex9 ?_
          refine lv_istore_n (lv' := [(3, .int x9), (0, .int p1), (1, .int p2), (2, .int p3), (4, .int x3)]) hx hb d_Frame_withRest_32 rfl hl (by decide) rfl (fun ls hl => ?_)
          exact Jk6 x9 Hf _ (lv_sub hl [1, 2, 3, 0, 4] rfl)
  exact L1 n0 x1 (17 : Int32) Hf _ (lv_sub hl [2, 3, 4, 1, 0] rfl)

def fn_Frame_formWord (n0 : Nat) (p1 : Int32) : Option (Int32) :=
  sq_cb1 (fn_Frame_withRest n0 p1 (10 : Int32) (1335 : Int32)) fun r1 => some (r1 ^^^ (21522 : Int32))
def rm_Frame_formWord : Room := { frames := 1, cells := 0, slots := 0, locals := 24 }
abbrev qc_Frame_formWord (r0 : Int32) : Array Value → State → Outcome → State → Prop := vp_Si (fun r => r = r0)

set_option maxHeartbeats 4000000 in
set_option maxRecDepth 100000 in
theorem kt_Frame_formWord (l : Launch) (dC : Nat → ClassId) (dI : Nat → Nat → Nat) (p1 : Int32) (n0 : Nat) (r0 : Int32) (Hf : fn_Frame_formWord n0 p1 = some r0) : Met l y_Frame_formWord w_Frame_formWord rm_Frame_formWord (va_Pc [.int p1] (fun U => va_P (dC, dI) cl_All ([] : va_W) U.heap ∧ va_K (dC, dI) cl_All [] U)) (qc_Frame_formWord r0) 0 0 (fun _ => False) := by
  refine Met.ofW (cc := prog_6_method_8_code) (maxL := 1) (ret := (some .int)) (by decide) rfl ?_
  intro p e s m args below meth c s₁ B hml hv
  obtain ⟨rfl, hP, hK⟩ := hv
  have hx := B.exec; have hb := B.bytes; have hr := B.returns; have hlocks := B.notSynchronized
  have ht : ∀ w ∈ lw_g, w.before _ s = true := fun w h => atoms_spec (ws := w_Frame_formWord) B.pre w (List.mem_cons_of_mem _ h)
  have hown : s.vm.findClass "SquareSymbols$Frame" = some m.cls := findClass_of_methodNamed B.named
  have hl := lv_entry ([.int p1]) (n := 1) (Nat.le_of_ble_eq_true rfl)
  rw [lg_entry_eq]
  generalize (lg_sl ([.int p1]) ++ List.replicate (1 - (lg_sl ([.int p1])).length) Slot.unset).toArray = ls at hl ⊢
  have hl : lv_has ls 1 [(0, .int p1)] := hl
  refine lv_iload_n hx hb d_Frame_formWord_0 rfl (lv_at hl 0 rfl) ?_
  refine lv_bipush (v := (10 : Int32)) hx hb d_Frame_formWord_1 (by decide) ?_
  refine lv_sipush (v := (1335 : Int32)) hx hb d_Frame_formWord_3 (by decide) ?_
  obtain ⟨r1, hc2, Hf⟩ := sq_cb1_e Hf
  refine sq_roi (va_runS (As := [.int p1, .int (10 : Int32), .int (1335 : Int32)]) (rest := []) ⟨hx, hb, hml, hown, ht⟩ (kt_Frame_withRest l dC dI p1 (10 : Int32) (1335 : Int32) n0 r1 hc2) (va_cwS 3 ht (sq_gS tb_387 tb_388 tb_9 tb_389) rfl rfl rfl (by decide +kernel) ⟨Nat.le_of_ble_eq_true rfl, Nat.le_of_ble_eq_true rfl⟩) (sq_roS (hP.sub (ws' := ([] : va_W)) [] rfl) (hK.sub (tys' := []) [] rfl)) rfl rfl hl.1 rfl (lv_room (Nat.le_of_ble_eq_true rfl)) d_Frame_formWord_6 ⟨Nat.le_of_ble_eq_true rfl, Nat.le_of_ble_eq_true rfl⟩) ?_
  refine lv_sipush (v := (21522 : Int32)) hx hb d_Frame_formWord_9 (by decide) ?_
  refine lv_ixor hx hb d_Frame_formWord_12 ?_
  have er := Option.some.inj Hf
  exact W.iret hx hb hr (fun t ht hW => ⟨_, rfl, er, ht⟩) (fun q h => by cases h) d_Frame_formWord_13

def fn_Frame_formY (p1 : Int32) (p2 : Int32) (p3 : Int32) : Option (Int32) :=
  if p1 = (1 : Int32) then (if (7 : Int32) < p2 then (some ((p3 - (15 : Int32)) + p2)) else (some ((8 : Int32)))) else (if (5 : Int32) < p2 then (if p2 = (6 : Int32) then (some ((7 : Int32))) else (some ((8 : Int32)))) else (some (p2)))
def rm_Frame_formY : Room := { frames := 0, cells := 0, slots := 0, locals := 0 }
abbrev qc_Frame_formY (r0 : Int32) : Array Value → State → Outcome → State → Prop := vp_Si (fun r => r = r0)

set_option maxHeartbeats 4000000 in
set_option maxRecDepth 100000 in
theorem kt_Frame_formY (l : Launch) (dC : Nat → ClassId) (dI : Nat → Nat → Nat) (p1 : Int32) (p2 : Int32) (p3 : Int32) (r0 : Int32) (Hf : fn_Frame_formY p1 p2 p3 = some r0) : Met l y_Frame_formY w_Frame_formY rm_Frame_formY (va_Pc [.int p1, .int p2, .int p3] (fun U => va_P (dC, dI) cl_All ([] : va_W) U.heap ∧ va_K (dC, dI) cl_All [] U)) (qc_Frame_formY r0) 0 0 (fun _ => False) := by
  refine Met.ofW (cc := prog_6_method_10_code) (maxL := 3) (ret := (some .int)) (by decide) rfl ?_
  intro p e s m args below meth c s₁ B hml hv
  obtain ⟨rfl, hP, hK⟩ := hv
  have hx := B.exec; have hb := B.bytes; have hr := B.returns; have hlocks := B.notSynchronized
  have ht : ∀ w ∈ lw_g, w.before _ s = true := fun w h => atoms_spec (ws := w_Frame_formY) B.pre w (List.mem_cons_of_mem _ h)
  have hown : s.vm.findClass "SquareSymbols$Frame" = some m.cls := findClass_of_methodNamed B.named
  have hl := lv_entry ([.int p1, .int p2, .int p3]) (n := 3) (Nat.le_of_ble_eq_true rfl)
  rw [lg_entry_eq]
  generalize (lg_sl ([.int p1, .int p2, .int p3]) ++ List.replicate (3 - (lg_sl ([.int p1, .int p2, .int p3])).length) Slot.unset).toArray = ls at hl ⊢
  have hl : lv_has ls 3 [(0, .int p1), (1, .int p2), (2, .int p3)] := hl
  refine lv_iload_n hx hb d_Frame_formY_0 rfl (lv_at hl 0 rfl) ?_
  refine lv_iconst (v := (1 : Int32)) hx hb d_Frame_formY_1 (by decide) ?_
  refine lv_icmp_ne (tgt := 23) hx hb d_Frame_formY_2 (by decide) (fun c1 => ?_) (fun c1 => ?_)
  · replace Hf := sq_ite_f Hf c1
    refine lv_iload_n hx hb d_Frame_formY_23 rfl (lv_at hl 1 rfl) ?_
    refine lv_iconst (v := (5 : Int32)) hx hb d_Frame_formY_24 (by decide) ?_
    refine lv_icmp_gt (tgt := 32) hx hb d_Frame_formY_25 (by decide) (fun c2 => ?_) (fun c2 => ?_)
    · replace Hf := sq_ite_t Hf c2
      refine lv_iload_n hx hb d_Frame_formY_32 rfl (lv_at hl 1 rfl) ?_
      refine lv_bipush (v := (6 : Int32)) hx hb d_Frame_formY_33 (by decide) ?_
      refine lv_icmp_ne (tgt := 43) hx hb d_Frame_formY_35 (by decide) (fun c3 => ?_) (fun c3 => ?_)
      · replace Hf := sq_ite_f Hf c3
        refine lv_bipush (v := (8 : Int32)) hx hb d_Frame_formY_43 (by decide) ?_
        have er := Option.some.inj Hf
        exact W.iret hx hb hr (fun t ht hW => ⟨_, rfl, er, ht⟩) (fun q h => by cases h) d_Frame_formY_45
      · replace Hf := sq_ite_t Hf c3
        refine lv_bipush (v := (7 : Int32)) hx hb d_Frame_formY_38 (by decide) ?_
        refine lv_goto (tgt := 45) hx hb d_Frame_formY_40 (by decide) ?_
        have er := Option.some.inj Hf
        exact W.iret hx hb hr (fun t ht hW => ⟨_, rfl, er, ht⟩) (fun q h => by cases h) d_Frame_formY_45
    · replace Hf := sq_ite_f Hf c2
      refine lv_iload_n hx hb d_Frame_formY_28 rfl (lv_at hl 1 rfl) ?_
      refine lv_goto (tgt := 45) hx hb d_Frame_formY_29 (by decide) ?_
      have er := Option.some.inj Hf
      exact W.iret hx hb hr (fun t ht hW => ⟨_, rfl, er, ht⟩) (fun q h => by cases h) d_Frame_formY_45
  · replace Hf := sq_ite_t Hf c1
    refine lv_iload_n hx hb d_Frame_formY_5 rfl (lv_at hl 1 rfl) ?_
    refine lv_bipush (v := (7 : Int32)) hx hb d_Frame_formY_6 (by decide) ?_
    refine lv_icmp_gt (tgt := 16) hx hb d_Frame_formY_8 (by decide) (fun c4 => ?_) (fun c4 => ?_)
    · replace Hf := sq_ite_t Hf c4
      refine lv_iload_n hx hb d_Frame_formY_16 rfl (lv_at hl 2 rfl) ?_
      refine lv_bipush (v := (15 : Int32)) hx hb d_Frame_formY_17 (by decide) ?_
      refine lv_isub hx hb d_Frame_formY_19 ?_
      refine lv_iload_n hx hb d_Frame_formY_20 rfl (lv_at hl 1 rfl) ?_
      refine lv_iadd hx hb d_Frame_formY_21 ?_
      have er := Option.some.inj Hf
      exact W.iret hx hb hr (fun t ht hW => ⟨_, rfl, er, ht⟩) (fun q h => by cases h) d_Frame_formY_22
    · replace Hf := sq_ite_f Hf c4
      refine lv_bipush (v := (8 : Int32)) hx hb d_Frame_formY_11 (by decide) ?_
      refine lv_goto (tgt := 22) hx hb d_Frame_formY_13 (by decide) ?_
      have er := Option.some.inj Hf
      exact W.iret hx hb hr (fun t ht hW => ⟨_, rfl, er, ht⟩) (fun q h => by cases h) d_Frame_formY_22

def fn_JInt_bitCount (p1 : Int32) : Option (Int32) :=
  sq_bd (sq_iushr p1 (1 : Int32)) fun x1 => sq_bd (p1 - (x1 &&& (1431655765 : Int32))) fun x2 => sq_bd (sq_iushr x2 (2 : Int32)) fun x3 => sq_bd ((x2 &&& (858993459 : Int32)) + (x3 &&& (858993459 : Int32))) fun x4 => sq_bd (sq_iushr x4 (4 : Int32)) fun x5 => sq_bd ((x4 + x5) &&& (252645135 : Int32)) fun x6 => sq_bd (sq_iushr x6 (8 : Int32)) fun x7 => sq_bd (x6 + x7) fun x8 => sq_bd (sq_iushr x8 (16 : Int32)) fun x9 => sq_bd (x8 + x9) fun x10 => some (x10 &&& (63 : Int32))
def rm_JInt_bitCount : Room := { frames := 0, cells := 0, slots := 0, locals := 0 }
abbrev qc_JInt_bitCount (r0 : Int32) : Array Value → State → Outcome → State → Prop := vp_Si (fun r => r = r0)

set_option maxHeartbeats 4000000 in
set_option maxRecDepth 100000 in
theorem kt_JInt_bitCount (l : Launch) (dC : Nat → ClassId) (dI : Nat → Nat → Nat) (p1 : Int32) (r0 : Int32) (Hf : fn_JInt_bitCount p1 = some r0) : Met l y_JInt_bitCount w_JInt_bitCount rm_JInt_bitCount (va_Pc [.int p1] (fun U => va_P (dC, dI) cl_All ([] : va_W) U.heap ∧ va_K (dC, dI) cl_All [] U)) (qc_JInt_bitCount r0) 0 0 (fun _ => False) := by
  refine Met.ofW (cc := prog_18_method_49_code) (maxL := 1) (ret := (some .int)) (by decide) rfl ?_
  intro p e s m args below meth c s₁ B hml hv
  obtain ⟨rfl, hP, hK⟩ := hv
  have hx := B.exec; have hb := B.bytes; have hr := B.returns; have hlocks := B.notSynchronized
  have ht : ∀ w ∈ lw_g, w.before _ s = true := fun w h => atoms_spec (ws := w_JInt_bitCount) B.pre w (List.mem_cons_of_mem _ h)
  have hown : s.vm.findClass "java/lang/Integer" = some m.cls := findClass_of_methodNamed B.named
  have hl := lv_entry ([.int p1]) (n := 1) (Nat.le_of_ble_eq_true rfl)
  rw [lg_entry_eq]
  generalize (lg_sl ([.int p1]) ++ List.replicate (1 - (lg_sl ([.int p1])).length) Slot.unset).toArray = ls at hl ⊢
  have hl : lv_has ls 1 [(0, .int p1)] := hl
  refine lv_iload_n hx hb d_JInt_bitCount_0 rfl (lv_at hl 0 rfl) ?_
  refine lv_iload_n hx hb d_JInt_bitCount_1 rfl (lv_at hl 0 rfl) ?_
  refine lv_iconst (v := (1 : Int32)) hx hb d_JInt_bitCount_2 (by decide) ?_
  refine lv_iushr hx hb d_JInt_bitCount_3 rfl ?_
  obtain ⟨x1, ex1, Hf⟩ := sq_bd_e Hf
  refine sq_top ex1 ?_
  refine lv_ldcw (v := (1431655765 : Int32)) hx hb hown (ht _ tb_393) d_JInt_bitCount_4 ?_
  refine lv_iand hx hb d_JInt_bitCount_7 ?_
  refine lv_isub hx hb d_JInt_bitCount_8 ?_
  obtain ⟨x2, ex2, Hf⟩ := sq_bd_e Hf
  refine sq_top ex2 ?_
  refine lv_istore_n (lv' := [(0, .int x2)]) hx hb d_JInt_bitCount_9 rfl hl (by decide) rfl (fun ls hl => ?_)
  refine lv_iload_n hx hb d_JInt_bitCount_10 rfl (lv_at hl 0 rfl) ?_
  refine lv_ldcw (v := (858993459 : Int32)) hx hb hown (ht _ tb_394) d_JInt_bitCount_11 ?_
  refine lv_iand hx hb d_JInt_bitCount_14 ?_
  refine lv_iload_n hx hb d_JInt_bitCount_15 rfl (lv_at hl 0 rfl) ?_
  refine lv_iconst (v := (2 : Int32)) hx hb d_JInt_bitCount_16 (by decide) ?_
  refine lv_iushr hx hb d_JInt_bitCount_17 rfl ?_
  obtain ⟨x3, ex3, Hf⟩ := sq_bd_e Hf
  refine sq_top ex3 ?_
  refine lv_ldcw (v := (858993459 : Int32)) hx hb hown (ht _ tb_394) d_JInt_bitCount_18 ?_
  refine lv_iand hx hb d_JInt_bitCount_21 ?_
  refine lv_iadd hx hb d_JInt_bitCount_22 ?_
  obtain ⟨x4, ex4, Hf⟩ := sq_bd_e Hf
  refine sq_top ex4 ?_
  refine lv_istore_n (lv' := [(0, .int x4)]) hx hb d_JInt_bitCount_23 rfl hl (by decide) rfl (fun ls hl => ?_)
  refine lv_iload_n hx hb d_JInt_bitCount_24 rfl (lv_at hl 0 rfl) ?_
  refine lv_iload_n hx hb d_JInt_bitCount_25 rfl (lv_at hl 0 rfl) ?_
  refine lv_iconst (v := (4 : Int32)) hx hb d_JInt_bitCount_26 (by decide) ?_
  refine lv_iushr hx hb d_JInt_bitCount_27 rfl ?_
  obtain ⟨x5, ex5, Hf⟩ := sq_bd_e Hf
  refine sq_top ex5 ?_
  refine lv_iadd hx hb d_JInt_bitCount_28 ?_
  refine lv_ldcw (v := (252645135 : Int32)) hx hb hown (ht _ tb_395) d_JInt_bitCount_29 ?_
  refine lv_iand hx hb d_JInt_bitCount_32 ?_
  obtain ⟨x6, ex6, Hf⟩ := sq_bd_e Hf
  refine sq_top ex6 ?_
  refine lv_istore_n (lv' := [(0, .int x6)]) hx hb d_JInt_bitCount_33 rfl hl (by decide) rfl (fun ls hl => ?_)
  refine lv_iload_n hx hb d_JInt_bitCount_34 rfl (lv_at hl 0 rfl) ?_
  refine lv_iload_n hx hb d_JInt_bitCount_35 rfl (lv_at hl 0 rfl) ?_
  refine lv_bipush (v := (8 : Int32)) hx hb d_JInt_bitCount_36 (by decide) ?_
  refine lv_iushr hx hb d_JInt_bitCount_38 rfl ?_
  obtain ⟨x7, ex7, Hf⟩ := sq_bd_e Hf
  refine sq_top ex7 ?_
  refine lv_iadd hx hb d_JInt_bitCount_39 ?_
  obtain ⟨x8, ex8, Hf⟩ := sq_bd_e Hf
  refine sq_top ex8 ?_
  refine lv_istore_n (lv' := [(0, .int x8)]) hx hb d_JInt_bitCount_40 rfl hl (by decide) rfl (fun ls hl => ?_)
  refine lv_iload_n hx hb d_JInt_bitCount_41 rfl (lv_at hl 0 rfl) ?_
  refine lv_iload_n hx hb d_JInt_bitCount_42 rfl (lv_at hl 0 rfl) ?_
  refine lv_bipush (v := (16 : Int32)) hx hb d_JInt_bitCount_43 (by decide) ?_
  refine lv_iushr hx hb d_JInt_bitCount_45 rfl ?_
  obtain ⟨x9, ex9, Hf⟩ := sq_bd_e Hf
  refine sq_top ex9 ?_
  refine lv_iadd hx hb d_JInt_bitCount_46 ?_
  obtain ⟨x10, ex10, Hf⟩ := sq_bd_e Hf
  refine sq_top ex10 ?_
  refine lv_istore_n (lv' := [(0, .int x10)]) hx hb d_JInt_bitCount_47 rfl hl (by decide) rfl (fun ls hl => ?_)
  refine lv_iload_n hx hb d_JInt_bitCount_48 rfl (lv_at hl 0 rfl) ?_
  refine lv_bipush (v := (63 : Int32)) hx hb d_JInt_bitCount_49 (by decide) ?_
  refine lv_iand hx hb d_JInt_bitCount_51 ?_
  have er := Option.some.inj Hf
  exact W.iret hx hb hr (fun t ht hW => ⟨_, rfl, er, ht⟩) (fun q h => by cases h) d_JInt_bitCount_52

def fn_Frame_formNumber_L2 (n0 : Nat) (x5 : Int32) (k7 : Unit → Option (Int32)) : Nat → Int32 → Option (Int32)
  | 0, _ => none
  | m2 + 1, x9 => if (32 : Int32) ≤ x9 then (k7 ()) else (sq_cb1 (fn_Frame_formWord n0 x9) fun r11 => sq_cb1 (fn_JInt_bitCount (r11 ^^^ x5)) fun r13 => if (3 : Int32) < r13 then (sq_bd (x9 + (1 : Int32)) fun x16 => fn_Frame_formNumber_L2 n0 x5 k7 m2 x16) else (some (x9)))
theorem fn_Frame_formNumber_L2_s (n0 : Nat) (x5 : Int32) (k7 : Unit → Option (Int32)) (m2 : Nat) (x9 : Int32) : fn_Frame_formNumber_L2 n0 x5 k7 (m2 + 1) x9 = if (32 : Int32) ≤ x9 then (k7 ()) else (sq_cb1 (fn_Frame_formWord n0 x9) fun r11 => sq_cb1 (fn_JInt_bitCount (r11 ^^^ x5)) fun r13 => if (3 : Int32) < r13 then (sq_bd (x9 + (1 : Int32)) fun x16 => fn_Frame_formNumber_L2 n0 x5 k7 m2 x16) else (some (x9))) := rfl
def fn_Frame_formNumber_L3 (vp1_side : Int32) (vp1_words : Nat → Int64) (r1 : Int32) (x3 : Int32) (k6 : Int32 → Option (Int32)) : Nat → Int32 → Int32 → Option (Int32)
  | 0, _, _ => none
  | m3 + 1, x17, x18 => if (15 : Int32) ≤ x18 then (k6 x17) else (sq_cb1 (fn_Frame_formX x3 x18 r1) fun r20 => sq_cb1 (fn_Frame_formY x3 x18 r1) fun r22 => sq_cb1 (fn_Grid_isDark r20 r22 vp1_side vp1_words) fun r24 => sq_jn (fun (x26 : Int32) => sq_bd (x18 + (1 : Int32)) fun x28 => fn_Frame_formNumber_L3 vp1_side vp1_words r1 x3 k6 m3 x26 x28) fun k27 => if r24 = 0 then (k27 x17) else (sq_bd (x17 ||| ((1 : Int32) <<< (x18 &&& 31))) fun x30 => k27 x30))
theorem fn_Frame_formNumber_L3_s (vp1_side : Int32) (vp1_words : Nat → Int64) (r1 : Int32) (x3 : Int32) (k6 : Int32 → Option (Int32)) (m3 : Nat) (x17 : Int32) (x18 : Int32) : fn_Frame_formNumber_L3 vp1_side vp1_words r1 x3 k6 (m3 + 1) x17 x18 = if (15 : Int32) ≤ x18 then (k6 x17) else (sq_cb1 (fn_Frame_formX x3 x18 r1) fun r20 => sq_cb1 (fn_Frame_formY x3 x18 r1) fun r22 => sq_cb1 (fn_Grid_isDark r20 r22 vp1_side vp1_words) fun r24 => sq_jn (fun (x26 : Int32) => sq_bd (x18 + (1 : Int32)) fun x28 => fn_Frame_formNumber_L3 vp1_side vp1_words r1 x3 k6 m3 x26 x28) fun k27 => if r24 = 0 then (k27 x17) else (sq_bd (x17 ||| ((1 : Int32) <<< (x18 &&& 31))) fun x30 => k27 x30)) := rfl
def fn_Frame_formNumber_L1 (n0 : Nat) (vp1_side : Int32) (vp1_words : Nat → Int64) (r1 : Int32) : Nat → Int32 → Option (Int32)
  | 0, _ => none
  | m1 + 1, x3 => if (2 : Int32) ≤ x3 then (some ((-1 : Int32))) else (sq_jn (fun (x5 : Int32) => sq_jn (fun (_ : Unit) => sq_bd (x3 + (1 : Int32)) fun x8 => fn_Frame_formNumber_L1 n0 vp1_side vp1_words r1 m1 x8) fun k7 => fn_Frame_formNumber_L2 n0 x5 k7 n0 (0 : Int32)) fun k6 => fn_Frame_formNumber_L3 vp1_side vp1_words r1 x3 k6 n0 (0 : Int32) (0 : Int32))
theorem fn_Frame_formNumber_L1_s (n0 : Nat) (vp1_side : Int32) (vp1_words : Nat → Int64) (r1 : Int32) (m1 : Nat) (x3 : Int32) : fn_Frame_formNumber_L1 n0 vp1_side vp1_words r1 (m1 + 1) x3 = if (2 : Int32) ≤ x3 then (some ((-1 : Int32))) else (sq_jn (fun (x5 : Int32) => sq_jn (fun (_ : Unit) => sq_bd (x3 + (1 : Int32)) fun x8 => fn_Frame_formNumber_L1 n0 vp1_side vp1_words r1 m1 x8) fun k7 => fn_Frame_formNumber_L2 n0 x5 k7 n0 (0 : Int32)) fun k6 => fn_Frame_formNumber_L3 vp1_side vp1_words r1 x3 k6 n0 (0 : Int32) (0 : Int32)) := rfl
def fn_Frame_formNumber (n0 : Nat) (vp1_side : Int32) (vp1_words : Nat → Int64) : Option (Int32) :=
  sq_cb1 (fn_Grid_side vp1_side) fun r1 => fn_Frame_formNumber_L1 n0 vp1_side vp1_words r1 n0 (0 : Int32)
abbrev ww_Frame_formNumber (qp1 qp1_words : Nat) (cp1_words : ClassId) (vp1_side : Int32) (vp1_words : Nat → Int64) : va_W := [(qp1, .inr (6, [.ref qp1_words, .int vp1_side])), (qp1_words, .inl (cp1_words, 531, .inr (.inl vp1_words)))]

def rm_Frame_formNumber : Room := { frames := 2, cells := 0, slots := 0, locals := 44 }
abbrev qc_Frame_formNumber (r0 : Int32) : Array Value → State → Outcome → State → Prop := vp_Si (fun r => r = r0)

set_option maxHeartbeats 4000000 in
set_option maxRecDepth 100000 in
theorem kt_Frame_formNumber (l : Launch) (dC : Nat → ClassId) (dI : Nat → Nat → Nat) (qp1 qp1_words : Nat) (cp1_words : ClassId) (vp1_side : Int32) (vp1_words : Nat → Int64) (n0 : Nat) (r0 : Int32) (Hf : fn_Frame_formNumber n0 vp1_side vp1_words = some r0) : Met l y_Frame_formNumber w_Frame_formNumber rm_Frame_formNumber (va_Pc [.ref qp1] (fun U => va_P (dC, dI) cl_All (ww_Frame_formNumber qp1 qp1_words cp1_words vp1_side vp1_words) U.heap ∧ va_K (dC, dI) cl_All [(cp1_words, .long)] U)) (qc_Frame_formNumber r0) 0 0 (fun _ => False) := by
  refine Met.ofW (cc := prog_6_method_12_code) (maxL := 5) (ret := (some .int)) (by decide) rfl ?_
  intro p e s m args below meth c s₁ B hml hv
  obtain ⟨rfl, hP, hK⟩ := hv
  have hx := B.exec; have hb := B.bytes; have hr := B.returns; have hlocks := B.notSynchronized
  have ht : ∀ w ∈ lw_g, w.before _ s = true := fun w h => atoms_spec (ws := w_Frame_formNumber) B.pre w (List.mem_cons_of_mem _ h)
  have hown : s.vm.findClass "SquareSymbols$Frame" = some m.cls := findClass_of_methodNamed B.named
  have hl := lv_entry ([.ref qp1]) (n := 5) (Nat.le_of_ble_eq_true rfl)
  rw [lg_entry_eq]
  generalize (lg_sl ([.ref qp1]) ++ List.replicate (5 - (lg_sl ([.ref qp1])).length) Slot.unset).toArray = ls at hl ⊢
  have hl : lv_has ls 5 [(0, .ref qp1)] := hl
  refine lv_aload_n hx hb d_Frame_formNumber_0 rfl (lv_at hl 0 rfl) ?_
  obtain ⟨r1, hc2, Hf⟩ := sq_cb1_e Hf
  refine sq_roi (va_runV (As := []) (rest := []) ⟨hx, hb, hml, hown, ht⟩ (kt_Grid_side l dC dI qp1 qp1_words vp1_side r1 hc2) (cwV 0 ht (sq_gV tb_369 tb_356 tb_357 tb_8 tb_358) rfl rfl rfl (by decide +kernel) ⟨Nat.le_of_ble_eq_true rfl, Nat.le_of_ble_eq_true rfl⟩) (sq_roV (hP.sub (ws' := (ww_Grid_side qp1 qp1_words vp1_side)) [0] rfl) (hK.sub (tys' := []) [] rfl) (va_recv hK hP (ci := 6) (q0 := 0) rfl rfl)) rfl rfl hl.1 rfl (lv_room (Nat.le_of_ble_eq_true rfl)) d_Frame_formNumber_1 ⟨Nat.le_of_ble_eq_true rfl, Nat.le_of_ble_eq_true rfl⟩) ?_
  refine lv_istore_n (lv' := [(1, .int r1), (0, .ref qp1)]) hx hb d_Frame_formNumber_4 rfl hl (by decide) rfl (fun ls hl => ?_)
  refine lv_iconst (v := (0 : Int32)) hx hb d_Frame_formNumber_5 (by decide) ?_
  refine lv_istore_n (lv' := [(2, .int (0 : Int32)), (1, .int r1), (0, .ref qp1)]) hx hb d_Frame_formNumber_6 rfl hl (by decide) rfl (fun ls hl => ?_)
  have L1 : ∀ (m1 : Nat), ∀ (x3 : Int32), fn_Frame_formNumber_L1 n0 vp1_side vp1_words r1 m1 x3 = some r0 → ∀ ls : Array Slot, lv_has ls 5 [(0, .ref qp1), (1, .int r1), (2, .int x3)] → W p l e (headSpec w_Frame_formNumber rm_Frame_formNumber).room s m (([.ref qp1] : List Value).toArray) below meth c s.heap [] 0 0 (MQ below (qc_Frame_formNumber r0) (([.ref qp1] : List Value).toArray) s 0 0 (fun _ => False)) (F0 m 7 ls []) := by
    intro m1
    induction m1 with
    | zero => intro x3 Hf; exact sq_none Hf
    | succ m1 ih1 =>
      intro x3 Hf ls hl
      replace Hf := (fn_Frame_formNumber_L1_s n0 vp1_side vp1_words r1 m1 x3).symm.trans Hf
      refine lv_iload_n hx hb d_Frame_formNumber_7 rfl (lv_at hl 2 rfl) ?_
      refine lv_iconst (v := (2 : Int32)) hx hb d_Frame_formNumber_8 (by decide) ?_
      refine lv_icmp_ge (tgt := 97) hx hb d_Frame_formNumber_9 (by decide) (fun c4 => ?_) (fun c4 => ?_)
      · replace Hf := sq_ite_t Hf c4
        refine lv_iconst (v := (-1 : Int32)) hx hb d_Frame_formNumber_97 (by decide) ?_
        have er := Option.some.inj Hf
        exact W.iret hx hb hr (fun t ht hW => ⟨_, rfl, er, ht⟩) (fun q h => by cases h) d_Frame_formNumber_98
      · replace Hf := sq_ite_f Hf c4
        refine lv_iconst (v := (0 : Int32)) hx hb d_Frame_formNumber_12 (by decide) ?_
        refine lv_istore_n (lv' := [(3, .int (0 : Int32)), (0, .ref qp1), (1, .int r1), (2, .int x3)]) hx hb d_Frame_formNumber_13 rfl hl (by decide) rfl (fun ls hl => ?_)
        refine lv_iconst (v := (0 : Int32)) hx hb d_Frame_formNumber_14 (by decide) ?_
        refine lv_istore (lv' := [(4, .int (0 : Int32)), (3, .int (0 : Int32)), (0, .ref qp1), (1, .int r1), (2, .int x3)]) hx hb d_Frame_formNumber_15 hl (by decide) rfl (fun ls hl => ?_)
        obtain ⟨k6, hk6, Hf⟩ := sq_jn_e Hf
        have Jk6 : ∀ (x5 : Int32), k6 x5 = some r0 → ∀ ls : Array Slot, lv_has ls 5 [(0, .ref qp1), (1, .int r1), (2, .int x3), (3, .int x5)] → W p l e (headSpec w_Frame_formNumber rm_Frame_formNumber).room s m (([.ref qp1] : List Value).toArray) below meth c s.heap [] 0 0 (MQ below (qc_Frame_formNumber r0) (([.ref qp1] : List Value).toArray) s 0 0 (fun _ => False)) (F0 m 58 ls []) := by
          intro x5 Hf ls hl
          rw [hk6] at Hf
          refine lv_iconst (v := (0 : Int32)) hx hb d_Frame_formNumber_58 (by decide) ?_
          refine lv_istore (lv' := [(4, .int (0 : Int32)), (0, .ref qp1), (1, .int r1), (2, .int x3), (3, .int x5)]) hx hb d_Frame_formNumber_59 hl (by decide) rfl (fun ls hl => ?_)
          obtain ⟨k7, hk7, Hf⟩ := sq_jn_e Hf
          have Jk7 : ∀ (_u : Unit), k7 _u = some r0 → ∀ ls : Array Slot, lv_has ls 5 [(0, .ref qp1), (1, .int r1), (2, .int x3)] → W p l e (headSpec w_Frame_formNumber rm_Frame_formNumber).room s m (([.ref qp1] : List Value).toArray) below meth c s.heap [] 0 0 (MQ below (qc_Frame_formNumber r0) (([.ref qp1] : List Value).toArray) s 0 0 (fun _ => False)) (F0 m 91 ls []) := by
            intro _u Hf ls hl
            rw [hk7] at Hf
            obtain ⟨x8, ex8, Hf⟩ := sq_bd_e Hf
            refine lv_iinc (v := x8) (lv' := [(2, .int x8), (0, .ref qp1), (1, .int r1)]) hx hb d_Frame_formNumber_91 hl (k := 2) rfl (by rw [ex8]; rfl) (by decide) rfl (fun ls hl => ?_)
            refine lv_goto (tgt := 7) hx hb d_Frame_formNumber_94 (by decide) ?_
            exact ih1 x8 Hf _ (lv_sub hl [1, 2, 0] rfl)
          have L2 : ∀ (m2 : Nat), ∀ (x9 : Int32), fn_Frame_formNumber_L2 n0 x5 k7 m2 x9 = some r0 → ∀ ls : Array Slot, lv_has ls 5 [(0, .ref qp1), (1, .int r1), (2, .int x3), (3, .int x5), (4, .int x9)] → W p l e (headSpec w_Frame_formNumber rm_Frame_formNumber).room s m (([.ref qp1] : List Value).toArray) below meth c s.heap [] 0 0 (MQ below (qc_Frame_formNumber r0) (([.ref qp1] : List Value).toArray) s 0 0 (fun _ => False)) (F0 m 61 ls []) := by
            intro m2
            induction m2 with
            | zero => intro x9 Hf; exact sq_none Hf
            | succ m2 ih2 =>
              intro x9 Hf ls hl
              replace Hf := (fn_Frame_formNumber_L2_s n0 x5 k7 m2 x9).symm.trans Hf
              refine lv_iload hx hb d_Frame_formNumber_61 (lv_at hl 4 rfl) ?_
              refine lv_bipush (v := (32 : Int32)) hx hb d_Frame_formNumber_63 (by decide) ?_
              refine lv_icmp_ge (tgt := 91) hx hb d_Frame_formNumber_65 (by decide) (fun c10 => ?_) (fun c10 => ?_)
              · replace Hf := sq_ite_t Hf c10
                exact Jk7 () Hf _ (lv_sub hl [0, 1, 2] rfl)
              · replace Hf := sq_ite_f Hf c10
                refine lv_iload hx hb d_Frame_formNumber_68 (lv_at hl 4 rfl) ?_
                obtain ⟨r11, hc12, Hf⟩ := sq_cb1_e Hf
                refine sq_roi (va_runS (As := [.int x9]) (rest := []) ⟨hx, hb, hml, hown, ht⟩ (kt_Frame_formWord l dC dI x9 n0 r11 hc12) (va_cwS 1 ht (sq_gS tb_384 tb_385 tb_9 tb_386) rfl rfl rfl (by decide +kernel) ⟨Nat.le_of_ble_eq_true rfl, Nat.le_of_ble_eq_true rfl⟩) (sq_roS (hP.sub (ws' := ([] : va_W)) [] rfl) (hK.sub (tys' := []) [] rfl)) rfl rfl hl.1 rfl (lv_room (Nat.le_of_ble_eq_true rfl)) d_Frame_formNumber_70 ⟨Nat.le_of_ble_eq_true rfl, Nat.le_of_ble_eq_true rfl⟩) ?_
                refine lv_iload_n hx hb d_Frame_formNumber_73 rfl (lv_at hl 3 rfl) ?_
                refine lv_ixor hx hb d_Frame_formNumber_74 ?_
                obtain ⟨r13, hc14, Hf⟩ := sq_cb1_e Hf
                refine sq_roi (va_runS (As := [.int (r11 ^^^ x5)]) (rest := []) ⟨hx, hb, hml, hown, ht⟩ (kt_JInt_bitCount l dC dI (r11 ^^^ x5) r13 hc14) (va_cwS 1 ht (sq_gS tb_390 tb_391 tb_27 tb_392) rfl rfl rfl (by decide +kernel) ⟨Nat.le_of_ble_eq_true rfl, Nat.le_of_ble_eq_true rfl⟩) (sq_roS (hP.sub (ws' := ([] : va_W)) [] rfl) (hK.sub (tys' := []) [] rfl)) rfl rfl hl.1 rfl (lv_room (Nat.le_of_ble_eq_true rfl)) d_Frame_formNumber_75 ⟨Nat.le_of_ble_eq_true rfl, Nat.le_of_ble_eq_true rfl⟩) ?_
                refine lv_iconst (v := (3 : Int32)) hx hb d_Frame_formNumber_78 (by decide) ?_
                refine lv_icmp_gt (tgt := 85) hx hb d_Frame_formNumber_79 (by decide) (fun c15 => ?_) (fun c15 => ?_)
                · replace Hf := sq_ite_t Hf c15
                  obtain ⟨x16, ex16, Hf⟩ := sq_bd_e Hf
                  refine lv_iinc (v := x16) (lv' := [(4, .int x16), (0, .ref qp1), (1, .int r1), (2, .int x3), (3, .int x5)]) hx hb d_Frame_formNumber_85 hl (k := 4) rfl (by rw [ex16]; rfl) (by decide) rfl (fun ls hl => ?_)
                  refine lv_goto (tgt := 61) hx hb d_Frame_formNumber_88 (by decide) ?_
                  exact ih2 x16 Hf _ (lv_sub hl [1, 2, 3, 4, 0] rfl)
                · replace Hf := sq_ite_f Hf c15
                  refine lv_iload hx hb d_Frame_formNumber_82 (lv_at hl 4 rfl) ?_
                  have er := Option.some.inj Hf
                  exact W.iret hx hb hr (fun t ht hW => ⟨_, rfl, er, ht⟩) (fun q h => by cases h) d_Frame_formNumber_84
          exact L2 n0 (0 : Int32) Hf _ (lv_sub hl [1, 2, 3, 4, 0] rfl)
        have L3 : ∀ (m3 : Nat), ∀ (x17 : Int32) (x18 : Int32), fn_Frame_formNumber_L3 vp1_side vp1_words r1 x3 k6 m3 x17 x18 = some r0 → ∀ ls : Array Slot, lv_has ls 5 [(0, .ref qp1), (1, .int r1), (2, .int x3), (3, .int x17), (4, .int x18)] → W p l e (headSpec w_Frame_formNumber rm_Frame_formNumber).room s m (([.ref qp1] : List Value).toArray) below meth c s.heap [] 0 0 (MQ below (qc_Frame_formNumber r0) (([.ref qp1] : List Value).toArray) s 0 0 (fun _ => False)) (F0 m 17 ls []) := by
          intro m3
          induction m3 with
          | zero => intro x17 x18 Hf; exact sq_none Hf
          | succ m3 ih3 =>
            intro x17 x18 Hf ls hl
            replace Hf := (fn_Frame_formNumber_L3_s vp1_side vp1_words r1 x3 k6 m3 x17 x18).symm.trans Hf
            refine lv_iload hx hb d_Frame_formNumber_17 (lv_at hl 4 rfl) ?_
            refine lv_bipush (v := (15 : Int32)) hx hb d_Frame_formNumber_19 (by decide) ?_
            refine lv_icmp_ge (tgt := 58) hx hb d_Frame_formNumber_21 (by decide) (fun c19 => ?_) (fun c19 => ?_)
            · replace Hf := sq_ite_t Hf c19
              exact Jk6 x17 Hf _ (lv_sub hl [0, 1, 2, 3] rfl)
            · replace Hf := sq_ite_f Hf c19
              refine lv_aload_n hx hb d_Frame_formNumber_24 rfl (lv_at hl 0 rfl) ?_
              refine lv_iload_n hx hb d_Frame_formNumber_25 rfl (lv_at hl 2 rfl) ?_
              refine lv_iload hx hb d_Frame_formNumber_26 (lv_at hl 4 rfl) ?_
              refine lv_iload_n hx hb d_Frame_formNumber_28 rfl (lv_at hl 1 rfl) ?_
              obtain ⟨r20, hc21, Hf⟩ := sq_cb1_e Hf
              refine sq_roi (va_runS (As := [.int x3, .int x18, .int r1]) (rest := [.ref qp1]) ⟨hx, hb, hml, hown, ht⟩ (kt_Frame_formX l dC dI x3 x18 r1 r20 hc21) (va_cwS 3 ht (sq_gS tb_370 tb_371 tb_9 tb_372) rfl rfl rfl (by decide +kernel) ⟨Nat.le_of_ble_eq_true rfl, Nat.le_of_ble_eq_true rfl⟩) (sq_roS (hP.sub (ws' := ([] : va_W)) [] rfl) (hK.sub (tys' := []) [] rfl)) rfl rfl hl.1 rfl (lv_room (Nat.le_of_ble_eq_true rfl)) d_Frame_formNumber_29 ⟨Nat.le_of_ble_eq_true rfl, Nat.le_of_ble_eq_true rfl⟩) ?_
              refine lv_iload_n hx hb d_Frame_formNumber_32 rfl (lv_at hl 2 rfl) ?_
              refine lv_iload hx hb d_Frame_formNumber_33 (lv_at hl 4 rfl) ?_
              refine lv_iload_n hx hb d_Frame_formNumber_35 rfl (lv_at hl 1 rfl) ?_
              obtain ⟨r22, hc23, Hf⟩ := sq_cb1_e Hf
              refine sq_roi (va_runS (As := [.int x3, .int x18, .int r1]) (rest := [.int r20, .ref qp1]) ⟨hx, hb, hml, hown, ht⟩ (kt_Frame_formY l dC dI x3 x18 r1 r22 hc23) (va_cwS 3 ht (sq_gS tb_373 tb_374 tb_9 tb_375) rfl rfl rfl (by decide +kernel) ⟨Nat.le_of_ble_eq_true rfl, Nat.le_of_ble_eq_true rfl⟩) (sq_roS (hP.sub (ws' := ([] : va_W)) [] rfl) (hK.sub (tys' := []) [] rfl)) rfl rfl hl.1 rfl (lv_room (Nat.le_of_ble_eq_true rfl)) d_Frame_formNumber_36 ⟨Nat.le_of_ble_eq_true rfl, Nat.le_of_ble_eq_true rfl⟩) ?_
              obtain ⟨r24, hc25, Hf⟩ := sq_cb1_e Hf
              refine sq_roi (va_runV (As := [.int r20, .int r22]) (rest := []) ⟨hx, hb, hml, hown, ht⟩ (kt_Grid_isDark l dC dI qp1 qp1_words cp1_words vp1_side vp1_words r20 r22 r24 hc25) (cwV 2 ht (sq_gV tb_376 tb_377 tb_378 tb_8 tb_379) rfl rfl rfl (by decide +kernel) ⟨Nat.le_of_ble_eq_true rfl, Nat.le_of_ble_eq_true rfl⟩) (sq_roV (hP.sub (ws' := (ww_Grid_isDark qp1 qp1_words cp1_words vp1_side vp1_words)) [0, 1] rfl) (hK.sub (tys' := [(cp1_words, .long)]) [0] rfl) (va_recv hK hP (ci := 6) (q0 := 0) rfl rfl)) rfl rfl hl.1 rfl (lv_room (Nat.le_of_ble_eq_true rfl)) d_Frame_formNumber_39 ⟨Nat.le_of_ble_eq_true rfl, Nat.le_of_ble_eq_true rfl⟩) ?_
              obtain ⟨k27, hk27, Hf⟩ := sq_jn_e Hf
              have Jk27 : ∀ (x26 : Int32), k27 x26 = some r0 → ∀ ls : Array Slot, lv_has ls 5 [(0, .ref qp1), (1, .int r1), (2, .int x3), (3, .int x26), (4, .int x18)] → W p l e (headSpec w_Frame_formNumber rm_Frame_formNumber).room s m (([.ref qp1] : List Value).toArray) below meth c s.heap [] 0 0 (MQ below (qc_Frame_formNumber r0) (([.ref qp1] : List Value).toArray) s 0 0 (fun _ => False)) (F0 m 52 ls []) := by
                intro x26 Hf ls hl
                rw [hk27] at Hf
                obtain ⟨x28, ex28, Hf⟩ := sq_bd_e Hf
                refine lv_iinc (v := x28) (lv' := [(4, .int x28), (0, .ref qp1), (1, .int r1), (2, .int x3), (3, .int x26)]) hx hb d_Frame_formNumber_52 hl (k := 4) rfl (by rw [ex28]; rfl) (by decide) rfl (fun ls hl => ?_)
                refine lv_goto (tgt := 17) hx hb d_Frame_formNumber_55 (by decide) ?_
                exact ih3 x26 x28 Hf _ (lv_sub hl [1, 2, 3, 4, 0] rfl)
              refine lv_if_eq (tgt := 52) hx hb d_Frame_formNumber_42 (by decide) (fun c29 => ?_) (fun c29 => ?_)
              · replace Hf := sq_ite_t Hf c29
                exact Jk27 x17 Hf _ (lv_sub hl [0, 1, 2, 3, 4] rfl)
              · replace Hf := sq_ite_f Hf c29
                refine lv_iload_n hx hb d_Frame_formNumber_45 rfl (lv_at hl 3 rfl) ?_
                refine lv_iconst (v := (1 : Int32)) hx hb d_Frame_formNumber_46 (by decide) ?_
                refine lv_iload hx hb d_Frame_formNumber_47 (lv_at hl 4 rfl) ?_
                refine lv_ishl hx hb d_Frame_formNumber_49 ?_
                refine lv_ior hx hb d_Frame_formNumber_50 ?_
                obtain ⟨x30, ex30, Hf⟩ := sq_bd_e Hf
                refine sq_top ex30 ?_
                refine lv_istore_n (lv' := [(3, .int x30), (0, .ref qp1), (1, .int r1), (2, .int x3), (4, .int x18)]) hx hb d_Frame_formNumber_51 rfl hl (by decide) rfl (fun ls hl => ?_)
                exact Jk27 x30 Hf _ (lv_sub hl [1, 2, 3, 0, 4] rfl)
        exact L3 n0 (0 : Int32) (0 : Int32) Hf _ (lv_sub hl [2, 3, 4, 1, 0] rfl)
  exact L1 n0 (0 : Int32) Hf _ (lv_sub hl [2, 1, 0] rfl)

def fn_Frame_fix (p1 : Int32) (p2 : Int32) (p3 : Int32) (vt_dark_side : Int32) (vt_fixed_side : Int32) (vt_dark_words : Nat → Int64) (vt_fixed_words : Nat → Int64) : Option ((Nat → Int64) × (Nat → Int64)) :=
  sq_cb1 (fn_Grid_set p1 p2 (1 : Int32) vt_fixed_side vt_fixed_words) fun b1 => sq_cb1 (fn_Grid_set p1 p2 p3 vt_dark_side vt_dark_words) fun b3 => some (b3, b1)
abbrev ww_Frame_fix (qt qt_dark qt_fixed qt_dark_words qt_fixed_words qt_maskRows : Nat) (ct_dark_words ct_fixed_words : ClassId) (vt_side : Int32) (vt_next : Int32) (vt_x : Int32) (vt_y : Int32) (vt_dark_side : Int32) (vt_fixed_side : Int32) (vt_dark_words : Nat → Int64) (vt_fixed_words : Nat → Int64) : va_W := [(qt, .inr (7, [.ref qt_fixed, .ref qt_dark, .ref qt_maskRows, .int vt_side, .int vt_next, .int vt_x, .int vt_y])), (qt_dark, .inr (6, [.ref qt_dark_words, .int vt_dark_side])), (qt_fixed, .inr (6, [.ref qt_fixed_words, .int vt_fixed_side])), (qt_dark_words, .inl (ct_dark_words, 531, .inr (.inl vt_dark_words))), (qt_fixed_words, .inl (ct_fixed_words, 531, .inr (.inl vt_fixed_words)))]

def rm_Frame_fix : Room := { frames := 2, cells := 0, slots := 0, locals := 48 }
abbrev qc_Frame_fix (dC : Nat → ClassId) (dI : Nat → Nat → Nat) (A : Nat → Prop) (qt qt_dark qt_fixed qt_dark_words qt_fixed_words qt_maskRows : Nat) (ct_dark_words ct_fixed_words : ClassId) (vt_side : Int32) (vt_next : Int32) (vt_x : Int32) (vt_y : Int32) (vt_dark_side : Int32) (vt_fixed_side : Int32) (vt_dark_words : Nat → Int64) (vt_fixed_words : Nat → Int64) : Array Value → State → Outcome → State → Prop := va_Qv (fun (_ : Unit) => True) (fun _ t => va_P (dC, dI) cl_All (ww_Frame_fix qt qt_dark qt_fixed qt_dark_words qt_fixed_words qt_maskRows ct_dark_words ct_fixed_words vt_side vt_next vt_x vt_y vt_dark_side vt_fixed_side vt_dark_words vt_fixed_words) t.heap ∧ va_D A (ww_Frame_fix qt qt_dark qt_fixed qt_dark_words qt_fixed_words qt_maskRows ct_dark_words ct_fixed_words vt_side vt_next vt_x vt_y vt_dark_side vt_fixed_side vt_dark_words vt_fixed_words)) A

set_option maxHeartbeats 4000000 in
set_option maxRecDepth 100000 in
theorem kt_Frame_fix (l : Launch) (dC : Nat → ClassId) (dI : Nat → Nat → Nat) (qt qt_dark qt_fixed qt_dark_words qt_fixed_words qt_maskRows : Nat) (ct_dark_words ct_fixed_words : ClassId) (vt_side : Int32) (vt_next : Int32) (vt_x : Int32) (vt_y : Int32) (vt_dark_side : Int32) (vt_fixed_side : Int32) (vt_dark_words : Nat → Int64) (vt_fixed_words : Nat → Int64) (p1 : Int32) (p2 : Int32) (p3 : Int32) (sz : Nat) (nvt_dark_words : Nat → Int64) (nvt_fixed_words : Nat → Int64) (Hf : fn_Frame_fix p1 p2 p3 vt_dark_side vt_fixed_side vt_dark_words vt_fixed_words = some (nvt_dark_words, nvt_fixed_words)) : Met l y_Frame_fix w_Frame_fix rm_Frame_fix (va_Pc [.ref qt, .int p1, .int p2, .int p3] (fun U => U.heap.size = sz ∧ va_P (dC, dI) cl_All (ww_Frame_fix qt qt_dark qt_fixed qt_dark_words qt_fixed_words qt_maskRows ct_dark_words ct_fixed_words vt_side vt_next vt_x vt_y vt_dark_side vt_fixed_side vt_dark_words vt_fixed_words) U.heap ∧ va_K (dC, dI) cl_All [(ct_dark_words, .long), (ct_fixed_words, .long)] U ∧ va_D (fun _ => True) (ww_Frame_fix qt qt_dark qt_fixed qt_dark_words qt_fixed_words qt_maskRows ct_dark_words ct_fixed_words vt_side vt_next vt_x vt_y vt_dark_side vt_fixed_side vt_dark_words vt_fixed_words))) (qc_Frame_fix dC dI (va_A (ww_Frame_fix qt qt_dark qt_fixed qt_dark_words qt_fixed_words qt_maskRows ct_dark_words ct_fixed_words vt_side vt_next vt_x vt_y vt_dark_side vt_fixed_side vt_dark_words vt_fixed_words) sz) qt qt_dark qt_fixed qt_dark_words qt_fixed_words qt_maskRows ct_dark_words ct_fixed_words vt_side vt_next vt_x vt_y vt_dark_side vt_fixed_side nvt_dark_words nvt_fixed_words) 0 0 (va_A (ww_Frame_fix qt qt_dark qt_fixed qt_dark_words qt_fixed_words qt_maskRows ct_dark_words ct_fixed_words vt_side vt_next vt_x vt_y vt_dark_side vt_fixed_side vt_dark_words vt_fixed_words) sz) := by
  refine Met.ofW (cc := prog_6_method_3_code) (maxL := 4) (ret := none) (by decide) rfl ?_
  intro p e s m args below meth c s₁ B hml hv
  obtain ⟨rfl, hsz, hP, hK, hD0⟩ := hv
  have hx := B.exec; have hb := B.bytes; have hr := B.returns; have hlocks := B.notSynchronized
  have ht : ∀ w ∈ lw_g, w.before _ s = true := fun w h => atoms_spec (ws := w_Frame_fix) B.pre w (List.mem_cons_of_mem _ h)
  have hown : s.vm.findClass "SquareSymbols$Frame" = some m.cls := findClass_of_methodNamed B.named
  subst hsz
  have hD := hD0.self (sz := s.heap.size)
  generalize hAe : va_A (ww_Frame_fix qt qt_dark qt_fixed qt_dark_words qt_fixed_words qt_maskRows ct_dark_words ct_fixed_words vt_side vt_next vt_x vt_y vt_dark_side vt_fixed_side vt_dark_words vt_fixed_words) s.heap.size = A at hD ⊢
  have hA : ∀ q : Nat, s.heap.size ≤ q → A q := fun q h => by rw [← hAe]; exact Or.inr h
  have hS : va_S A s.heap s.heap [] := va_S.rf
  have hl := lv_entry ([.ref qt, .int p1, .int p2, .int p3]) (n := 4) (Nat.le_of_ble_eq_true rfl)
  rw [lg_entry_eq]
  generalize (lg_sl ([.ref qt, .int p1, .int p2, .int p3]) ++ List.replicate (4 - (lg_sl ([.ref qt, .int p1, .int p2, .int p3])).length) Slot.unset).toArray = ls at hl ⊢
  have hl : lv_has ls 4 [(0, .ref qt), (1, .int p1), (2, .int p2), (3, .int p3)] := hl
  refine lv_aload_n hx hb d_Frame_fix_0 rfl (lv_at hl 0 rfl) ?_
  refine va_get (D := (dC, dI)) (ci := 7) (v := .ref qt_fixed) (C := R_Frame) (T := F_Frame) (N := 7) hx hb ht i_Frame hown hK hP 0 rfl rfl 0 (by decide) (ht _ tb_225) (fun _ h9 => h9) rfl d_Frame_fix_1 ?_
  refine lv_iload_n hx hb d_Frame_fix_4 rfl (lv_at hl 1 rfl) ?_
  refine lv_iload_n hx hb d_Frame_fix_5 rfl (lv_at hl 2 rfl) ?_
  refine lv_iconst (v := (1 : Int32)) hx hb d_Frame_fix_6 (by decide) ?_
  obtain ⟨b1, hc2, Hf⟩ := sq_cb1_e Hf
  refine sq_rwv (wn := (ww_Frame_fix qt qt_dark qt_fixed qt_dark_words qt_fixed_words qt_maskRows ct_dark_words ct_fixed_words vt_side vt_next vt_x vt_y vt_dark_side vt_fixed_side vt_dark_words b1)) (va_runV (As := [.int p1, .int p2, .int (1 : Int32)]) (rest := []) ⟨hx, hb, hml, hown, ht⟩ (kt_Grid_set l dC dI qt_fixed qt_fixed_words ct_fixed_words vt_fixed_side vt_fixed_words p1 p2 (1 : Int32) s.heap.size b1 hc2) (cwV 3 ht (sq_gV tb_449 tb_450 tb_451 tb_8 tb_452) rfl rfl rfl (by decide +kernel) ⟨Nat.le_of_ble_eq_true rfl, Nat.le_of_ble_eq_true rfl⟩) (sq_rwV (hP.sub (ws' := (ww_Grid_set qt_fixed qt_fixed_words ct_fixed_words vt_fixed_side vt_fixed_words)) [2, 4] rfl) (hK.sub (tys' := [(ct_fixed_words, .long)]) [1] rfl) (hD.sub (ws' := (ww_Grid_set qt_fixed qt_fixed_words ct_fixed_words vt_fixed_side vt_fixed_words)) [2, 4] (by decide) rfl) (va_recv hK hP (ci := 6) (q0 := 2) rfl rfl)) rfl rfl hl.1 rfl (lv_room (Nat.le_of_ble_eq_true rfl)) d_Frame_fix_7 ⟨Nat.le_of_ble_eq_true rfl, Nat.le_of_ble_eq_true rfl⟩) hP hD hS hA [2, 4] [0, 1, 3] [0, 1, 3, 2, 4] rfl rfl (by decide) (by decide) rfl (by decide) (fun H locs hP hD hS => ?_)
  refine lv_aload_n hx hb d_Frame_fix_10 rfl (lv_at hl 0 rfl) ?_
  refine va_get (D := (dC, dI)) (ci := 7) (v := .ref qt_dark) (C := R_Frame) (T := F_Frame) (N := 7) hx hb ht i_Frame hown hK hP 0 rfl rfl 1 (by decide) (ht _ tb_226) (fun _ h9 => h9) rfl d_Frame_fix_11 ?_
  refine lv_iload_n hx hb d_Frame_fix_14 rfl (lv_at hl 1 rfl) ?_
  refine lv_iload_n hx hb d_Frame_fix_15 rfl (lv_at hl 2 rfl) ?_
  refine lv_iload_n hx hb d_Frame_fix_16 rfl (lv_at hl 3 rfl) ?_
  obtain ⟨b3, hc4, Hf⟩ := sq_cb1_e Hf
  refine sq_rwv (wn := (ww_Frame_fix qt qt_dark qt_fixed qt_dark_words qt_fixed_words qt_maskRows ct_dark_words ct_fixed_words vt_side vt_next vt_x vt_y vt_dark_side vt_fixed_side b3 b1)) (va_runV (As := [.int p1, .int p2, .int p3]) (rest := []) ⟨hx, hb, hml, hown, ht⟩ (kt_Grid_set l dC dI qt_dark qt_dark_words ct_dark_words vt_dark_side vt_dark_words p1 p2 p3 H.size b3 hc4) (cwV 3 ht (sq_gV tb_449 tb_450 tb_451 tb_8 tb_452) rfl rfl rfl (by decide +kernel) ⟨Nat.le_of_ble_eq_true rfl, Nat.le_of_ble_eq_true rfl⟩) (sq_rwV (hP.sub (ws' := (ww_Grid_set qt_dark qt_dark_words ct_dark_words vt_dark_side vt_dark_words)) [1, 3] rfl) (hK.sub (tys' := [(ct_dark_words, .long)]) [0] rfl) (hD.sub (ws' := (ww_Grid_set qt_dark qt_dark_words ct_dark_words vt_dark_side vt_dark_words)) [1, 3] (by decide) rfl) (va_recv hK hP (ci := 6) (q0 := 1) rfl rfl)) rfl rfl hl.1 rfl (lv_room (Nat.le_of_ble_eq_true rfl)) d_Frame_fix_17 ⟨Nat.le_of_ble_eq_true rfl, Nat.le_of_ble_eq_true rfl⟩) hP hD hS hA [1, 3] [0, 2, 4] [0, 3, 1, 4, 2] rfl rfl (by decide) (by decide) rfl (by decide) (fun H locs hP hD hS => ?_)
  obtain ⟨rfl, rfl⟩ := sq_so2 Hf
  exact W.vret hx hb hr (fun t ht hW => ⟨⟨(), rfl, trivial, by rw [ht]; exact hP, hD⟩, hS.F ht⟩) hS.2.2 d_Frame_fix_20

def fn_Frame_layRings_L2 (p1 : Int32) (p2 : Int32) (p3 : Int32) (p4 : Int32) (vt_dark_side : Int32) (vt_fixed_side : Int32) (x2 : Int32) (k9 : (Nat → Int64) → (Nat → Int64) → Option ((Nat → Int64) × (Nat → Int64))) : Nat → Int32 → (Nat → Int64) → (Nat → Int64) → Option ((Nat → Int64) × (Nat → Int64))
  | 0, _, _, _ => none
  | m2 + 1, x11, b12, b13 => if p3 < x11 then (k9 b12 b13) else (sq_bd (sq_abs x11) fun x15 => sq_bd (sq_abs x2) fun x16 => sq_bd (sq_max x15 x16) fun x17 => sq_jn (fun (x18 : Int32) => sq_cb2 (fn_Frame_fix (p1 + x11) (p2 + x2) x18 vt_dark_side vt_fixed_side b12 b13) fun b20 b21 => sq_bd (x11 + (1 : Int32)) fun x23 => fn_Frame_layRings_L2 p1 p2 p3 p4 vt_dark_side vt_fixed_side x2 k9 m2 x23 b20 b21) fun k19 => if ((p4 >>> (x17 &&& 31)) &&& (1 : Int32)) = (1 : Int32) then (k19 (1 : Int32)) else (k19 (0 : Int32)))
theorem fn_Frame_layRings_L2_s (p1 : Int32) (p2 : Int32) (p3 : Int32) (p4 : Int32) (vt_dark_side : Int32) (vt_fixed_side : Int32) (x2 : Int32) (k9 : (Nat → Int64) → (Nat → Int64) → Option ((Nat → Int64) × (Nat → Int64))) (m2 : Nat) (x11 : Int32) (b12 : Nat → Int64) (b13 : Nat → Int64) : fn_Frame_layRings_L2 p1 p2 p3 p4 vt_dark_side vt_fixed_side x2 k9 (m2 + 1) x11 b12 b13 = if p3 < x11 then (k9 b12 b13) else (sq_bd (sq_abs x11) fun x15 => sq_bd (sq_abs x2) fun x16 => sq_bd (sq_max x15 x16) fun x17 => sq_jn (fun (x18 : Int32) => sq_cb2 (fn_Frame_fix (p1 + x11) (p2 + x2) x18 vt_dark_side vt_fixed_side b12 b13) fun b20 b21 => sq_bd (x11 + (1 : Int32)) fun x23 => fn_Frame_layRings_L2 p1 p2 p3 p4 vt_dark_side vt_fixed_side x2 k9 m2 x23 b20 b21) fun k19 => if ((p4 >>> (x17 &&& 31)) &&& (1 : Int32)) = (1 : Int32) then (k19 (1 : Int32)) else (k19 (0 : Int32))) := rfl
def fn_Frame_layRings_L1 (p1 : Int32) (p2 : Int32) (p3 : Int32) (p4 : Int32) (n0 : Nat) (vt_dark_side : Int32) (vt_fixed_side : Int32) : Nat → Int32 → (Nat → Int64) → (Nat → Int64) → Option ((Nat → Int64) × (Nat → Int64))
  | 0, _, _, _ => none
  | m1 + 1, x2, b3, b4 => if p3 < x2 then (some (b3, b4)) else (sq_bd (-p3) fun x6 => sq_jn (fun (b7 : Nat → Int64) (b8 : Nat → Int64) => sq_bd (x2 + (1 : Int32)) fun x10 => fn_Frame_layRings_L1 p1 p2 p3 p4 n0 vt_dark_side vt_fixed_side m1 x10 b7 b8) fun k9 => fn_Frame_layRings_L2 p1 p2 p3 p4 vt_dark_side vt_fixed_side x2 k9 n0 x6 b3 b4)
theorem fn_Frame_layRings_L1_s (p1 : Int32) (p2 : Int32) (p3 : Int32) (p4 : Int32) (n0 : Nat) (vt_dark_side : Int32) (vt_fixed_side : Int32) (m1 : Nat) (x2 : Int32) (b3 : Nat → Int64) (b4 : Nat → Int64) : fn_Frame_layRings_L1 p1 p2 p3 p4 n0 vt_dark_side vt_fixed_side (m1 + 1) x2 b3 b4 = if p3 < x2 then (some (b3, b4)) else (sq_bd (-p3) fun x6 => sq_jn (fun (b7 : Nat → Int64) (b8 : Nat → Int64) => sq_bd (x2 + (1 : Int32)) fun x10 => fn_Frame_layRings_L1 p1 p2 p3 p4 n0 vt_dark_side vt_fixed_side m1 x10 b7 b8) fun k9 => fn_Frame_layRings_L2 p1 p2 p3 p4 vt_dark_side vt_fixed_side x2 k9 n0 x6 b3 b4) := rfl
def fn_Frame_layRings (n0 : Nat) (p1 : Int32) (p2 : Int32) (p3 : Int32) (p4 : Int32) (vt_dark_side : Int32) (vt_fixed_side : Int32) (vt_dark_words : Nat → Int64) (vt_fixed_words : Nat → Int64) : Option ((Nat → Int64) × (Nat → Int64)) :=
  sq_bd (-p3) fun x1 => fn_Frame_layRings_L1 p1 p2 p3 p4 n0 vt_dark_side vt_fixed_side n0 x1 vt_dark_words vt_fixed_words
abbrev ww_Frame_layRings (qt qt_dark qt_fixed qt_dark_words qt_fixed_words qt_maskRows : Nat) (ct_dark_words ct_fixed_words : ClassId) (vt_side : Int32) (vt_next : Int32) (vt_x : Int32) (vt_y : Int32) (vt_dark_side : Int32) (vt_fixed_side : Int32) (vt_dark_words : Nat → Int64) (vt_fixed_words : Nat → Int64) : va_W := [(qt, .inr (7, [.ref qt_fixed, .ref qt_dark, .ref qt_maskRows, .int vt_side, .int vt_next, .int vt_x, .int vt_y])), (qt_dark, .inr (6, [.ref qt_dark_words, .int vt_dark_side])), (qt_fixed, .inr (6, [.ref qt_fixed_words, .int vt_fixed_side])), (qt_dark_words, .inl (ct_dark_words, 531, .inr (.inl vt_dark_words))), (qt_fixed_words, .inl (ct_fixed_words, 531, .inr (.inl vt_fixed_words)))]

def rm_Frame_layRings : Room := { frames := 3, cells := 0, slots := 0, locals := 71 }
abbrev qc_Frame_layRings (dC : Nat → ClassId) (dI : Nat → Nat → Nat) (A : Nat → Prop) (qt qt_dark qt_fixed qt_dark_words qt_fixed_words qt_maskRows : Nat) (ct_dark_words ct_fixed_words : ClassId) (vt_side : Int32) (vt_next : Int32) (vt_x : Int32) (vt_y : Int32) (vt_dark_side : Int32) (vt_fixed_side : Int32) (vt_dark_words : Nat → Int64) (vt_fixed_words : Nat → Int64) : Array Value → State → Outcome → State → Prop := va_Qv (fun (_ : Unit) => True) (fun _ t => va_P (dC, dI) cl_All (ww_Frame_layRings qt qt_dark qt_fixed qt_dark_words qt_fixed_words qt_maskRows ct_dark_words ct_fixed_words vt_side vt_next vt_x vt_y vt_dark_side vt_fixed_side vt_dark_words vt_fixed_words) t.heap ∧ va_D A (ww_Frame_layRings qt qt_dark qt_fixed qt_dark_words qt_fixed_words qt_maskRows ct_dark_words ct_fixed_words vt_side vt_next vt_x vt_y vt_dark_side vt_fixed_side vt_dark_words vt_fixed_words)) A

set_option maxHeartbeats 4000000 in
set_option maxRecDepth 100000 in
theorem kt_Frame_layRings (l : Launch) (dC : Nat → ClassId) (dI : Nat → Nat → Nat) (qt qt_dark qt_fixed qt_dark_words qt_fixed_words qt_maskRows : Nat) (ct_dark_words ct_fixed_words : ClassId) (vt_side : Int32) (vt_next : Int32) (vt_x : Int32) (vt_y : Int32) (vt_dark_side : Int32) (vt_fixed_side : Int32) (vt_dark_words : Nat → Int64) (vt_fixed_words : Nat → Int64) (p1 : Int32) (p2 : Int32) (p3 : Int32) (p4 : Int32) (sz : Nat) (n0 : Nat) (nvt_dark_words : Nat → Int64) (nvt_fixed_words : Nat → Int64) (Hf : fn_Frame_layRings n0 p1 p2 p3 p4 vt_dark_side vt_fixed_side vt_dark_words vt_fixed_words = some (nvt_dark_words, nvt_fixed_words)) : Met l y_Frame_layRings w_Frame_layRings rm_Frame_layRings (va_Pc [.ref qt, .int p1, .int p2, .int p3, .int p4] (fun U => U.heap.size = sz ∧ va_P (dC, dI) cl_All (ww_Frame_layRings qt qt_dark qt_fixed qt_dark_words qt_fixed_words qt_maskRows ct_dark_words ct_fixed_words vt_side vt_next vt_x vt_y vt_dark_side vt_fixed_side vt_dark_words vt_fixed_words) U.heap ∧ va_K (dC, dI) cl_All [(ct_dark_words, .long), (ct_fixed_words, .long)] U ∧ va_D (fun _ => True) (ww_Frame_layRings qt qt_dark qt_fixed qt_dark_words qt_fixed_words qt_maskRows ct_dark_words ct_fixed_words vt_side vt_next vt_x vt_y vt_dark_side vt_fixed_side vt_dark_words vt_fixed_words))) (qc_Frame_layRings dC dI (va_A (ww_Frame_layRings qt qt_dark qt_fixed qt_dark_words qt_fixed_words qt_maskRows ct_dark_words ct_fixed_words vt_side vt_next vt_x vt_y vt_dark_side vt_fixed_side vt_dark_words vt_fixed_words) sz) qt qt_dark qt_fixed qt_dark_words qt_fixed_words qt_maskRows ct_dark_words ct_fixed_words vt_side vt_next vt_x vt_y vt_dark_side vt_fixed_side nvt_dark_words nvt_fixed_words) 0 0 (va_A (ww_Frame_layRings qt qt_dark qt_fixed qt_dark_words qt_fixed_words qt_maskRows ct_dark_words ct_fixed_words vt_side vt_next vt_x vt_y vt_dark_side vt_fixed_side vt_dark_words vt_fixed_words) sz) := by
  refine Met.ofW (cc := prog_6_method_4_code) (maxL := 8) (ret := none) (by decide) rfl ?_
  intro p e s m args below meth c s₁ B hml hv
  obtain ⟨rfl, hsz, hP, hK, hD0⟩ := hv
  have hx := B.exec; have hb := B.bytes; have hr := B.returns; have hlocks := B.notSynchronized
  have ht : ∀ w ∈ lw_g, w.before _ s = true := fun w h => atoms_spec (ws := w_Frame_layRings) B.pre w (List.mem_cons_of_mem _ h)
  have hown : s.vm.findClass "SquareSymbols$Frame" = some m.cls := findClass_of_methodNamed B.named
  subst hsz
  have hD := hD0.self (sz := s.heap.size)
  generalize hAe : va_A (ww_Frame_layRings qt qt_dark qt_fixed qt_dark_words qt_fixed_words qt_maskRows ct_dark_words ct_fixed_words vt_side vt_next vt_x vt_y vt_dark_side vt_fixed_side vt_dark_words vt_fixed_words) s.heap.size = A at hD ⊢
  have hA : ∀ q : Nat, s.heap.size ≤ q → A q := fun q h => by rw [← hAe]; exact Or.inr h
  have hS : va_S A s.heap s.heap [] := va_S.rf
  have hl := lv_entry ([.ref qt, .int p1, .int p2, .int p3, .int p4]) (n := 8) (Nat.le_of_ble_eq_true rfl)
  rw [lg_entry_eq]
  generalize (lg_sl ([.ref qt, .int p1, .int p2, .int p3, .int p4]) ++ List.replicate (8 - (lg_sl ([.ref qt, .int p1, .int p2, .int p3, .int p4])).length) Slot.unset).toArray = ls at hl ⊢
  have hl : lv_has ls 8 [(0, .ref qt), (1, .int p1), (2, .int p2), (3, .int p3), (4, .int p4)] := hl
  refine lv_iload_n hx hb d_Frame_layRings_0 rfl (lv_at hl 3 rfl) ?_
  refine lv_ineg hx hb d_Frame_layRings_1 ?_
  obtain ⟨x1, ex1, Hf⟩ := sq_bd_e Hf
  refine sq_top ex1 ?_
  refine lv_istore (lv' := [(5, .int x1), (0, .ref qt), (1, .int p1), (2, .int p2), (3, .int p3), (4, .int p4)]) hx hb d_Frame_layRings_2 hl (by decide) rfl (fun ls hl => ?_)
  have L1 : ∀ (m1 : Nat), ∀ (x2 : Int32) (b3 : Nat → Int64) (b4 : Nat → Int64), fn_Frame_layRings_L1 p1 p2 p3 p4 n0 vt_dark_side vt_fixed_side m1 x2 b3 b4 = some (nvt_dark_words, nvt_fixed_words) → ∀ (H : Heap) (locs : List Loc), va_P (dC, dI) cl_All (ww_Frame_layRings qt qt_dark qt_fixed qt_dark_words qt_fixed_words qt_maskRows ct_dark_words ct_fixed_words vt_side vt_next vt_x vt_y vt_dark_side vt_fixed_side b3 b4) H → va_D A (ww_Frame_layRings qt qt_dark qt_fixed qt_dark_words qt_fixed_words qt_maskRows ct_dark_words ct_fixed_words vt_side vt_next vt_x vt_y vt_dark_side vt_fixed_side b3 b4) → va_S A s.heap H locs → ∀ ls : Array Slot, lv_has ls 8 [(0, .ref qt), (1, .int p1), (2, .int p2), (3, .int p3), (4, .int p4), (5, .int x2)] → W p l e (headSpec w_Frame_layRings rm_Frame_layRings).room s m (([.ref qt, .int p1, .int p2, .int p3, .int p4] : List Value).toArray) below meth c H locs 0 0 (MQ below (qc_Frame_layRings dC dI A qt qt_dark qt_fixed qt_dark_words qt_fixed_words qt_maskRows ct_dark_words ct_fixed_words vt_side vt_next vt_x vt_y vt_dark_side vt_fixed_side nvt_dark_words nvt_fixed_words) (([.ref qt, .int p1, .int p2, .int p3, .int p4] : List Value).toArray) s 0 0 A) (F0 m 4 ls []) := by
    intro m1
    induction m1 with
    | zero => intro x2 b3 b4 Hf; exact sq_none Hf
    | succ m1 ih1 =>
      intro x2 b3 b4 Hf H locs  hP hD hS ls hl
      replace Hf := (fn_Frame_layRings_L1_s p1 p2 p3 p4 n0 vt_dark_side vt_fixed_side m1 x2 b3 b4).symm.trans Hf
      refine lv_iload hx hb d_Frame_layRings_4 (lv_at hl 5 rfl) ?_
      refine lv_iload_n hx hb d_Frame_layRings_6 rfl (lv_at hl 3 rfl) ?_
      refine lv_icmp_gt (tgt := 75) hx hb d_Frame_layRings_7 (by decide) (fun c5 => ?_) (fun c5 => ?_)
      · replace Hf := sq_ite_t Hf c5
        obtain ⟨rfl, rfl⟩ := sq_so2 Hf
        exact W.vret hx hb hr (fun t ht hW => ⟨⟨(), rfl, trivial, by rw [ht]; exact hP, hD⟩, hS.F ht⟩) hS.2.2 d_Frame_layRings_75
      · replace Hf := sq_ite_f Hf c5
        refine lv_iload_n hx hb d_Frame_layRings_10 rfl (lv_at hl 3 rfl) ?_
        refine lv_ineg hx hb d_Frame_layRings_11 ?_
        obtain ⟨x6, ex6, Hf⟩ := sq_bd_e Hf
        refine sq_top ex6 ?_
        refine lv_istore (lv' := [(6, .int x6), (0, .ref qt), (1, .int p1), (2, .int p2), (3, .int p3), (4, .int p4), (5, .int x2)]) hx hb d_Frame_layRings_12 hl (by decide) rfl (fun ls hl => ?_)
        obtain ⟨k9, hk9, Hf⟩ := sq_jn_e Hf
        have Jk9 : ∀ (b7 : Nat → Int64) (b8 : Nat → Int64), k9 b7 b8 = some (nvt_dark_words, nvt_fixed_words) → ∀ (H : Heap) (locs : List Loc), va_P (dC, dI) cl_All (ww_Frame_layRings qt qt_dark qt_fixed qt_dark_words qt_fixed_words qt_maskRows ct_dark_words ct_fixed_words vt_side vt_next vt_x vt_y vt_dark_side vt_fixed_side b7 b8) H → va_D A (ww_Frame_layRings qt qt_dark qt_fixed qt_dark_words qt_fixed_words qt_maskRows ct_dark_words ct_fixed_words vt_side vt_next vt_x vt_y vt_dark_side vt_fixed_side b7 b8) → va_S A s.heap H locs → ∀ ls : Array Slot, lv_has ls 8 [(0, .ref qt), (1, .int p1), (2, .int p2), (3, .int p3), (4, .int p4), (5, .int x2)] → W p l e (headSpec w_Frame_layRings rm_Frame_layRings).room s m (([.ref qt, .int p1, .int p2, .int p3, .int p4] : List Value).toArray) below meth c H locs 0 0 (MQ below (qc_Frame_layRings dC dI A qt qt_dark qt_fixed qt_dark_words qt_fixed_words qt_maskRows ct_dark_words ct_fixed_words vt_side vt_next vt_x vt_y vt_dark_side vt_fixed_side nvt_dark_words nvt_fixed_words) (([.ref qt, .int p1, .int p2, .int p3, .int p4] : List Value).toArray) s 0 0 A) (F0 m 69 ls []) := by
          intro b7 b8 Hf H locs  hP hD hS ls hl
          rw [hk9] at Hf
          obtain ⟨x10, ex10, Hf⟩ := sq_bd_e Hf
          refine lv_iinc (v := x10) (lv' := [(5, .int x10), (0, .ref qt), (1, .int p1), (2, .int p2), (3, .int p3), (4, .int p4)]) hx hb d_Frame_layRings_69 hl (k := 5) rfl (by rw [ex10]; rfl) (by decide) rfl (fun ls hl => ?_)
          refine lv_goto (tgt := 4) hx hb d_Frame_layRings_72 (by decide) ?_
          exact ih1 x10 b7 b8 Hf _ _  hP hD hS _ (lv_sub hl [1, 2, 3, 4, 5, 0] rfl)
        have L2 : ∀ (m2 : Nat), ∀ (x11 : Int32) (b12 : Nat → Int64) (b13 : Nat → Int64), fn_Frame_layRings_L2 p1 p2 p3 p4 vt_dark_side vt_fixed_side x2 k9 m2 x11 b12 b13 = some (nvt_dark_words, nvt_fixed_words) → ∀ (H : Heap) (locs : List Loc), va_P (dC, dI) cl_All (ww_Frame_layRings qt qt_dark qt_fixed qt_dark_words qt_fixed_words qt_maskRows ct_dark_words ct_fixed_words vt_side vt_next vt_x vt_y vt_dark_side vt_fixed_side b12 b13) H → va_D A (ww_Frame_layRings qt qt_dark qt_fixed qt_dark_words qt_fixed_words qt_maskRows ct_dark_words ct_fixed_words vt_side vt_next vt_x vt_y vt_dark_side vt_fixed_side b12 b13) → va_S A s.heap H locs → ∀ ls : Array Slot, lv_has ls 8 [(0, .ref qt), (1, .int p1), (2, .int p2), (3, .int p3), (4, .int p4), (5, .int x2), (6, .int x11)] → W p l e (headSpec w_Frame_layRings rm_Frame_layRings).room s m (([.ref qt, .int p1, .int p2, .int p3, .int p4] : List Value).toArray) below meth c H locs 0 0 (MQ below (qc_Frame_layRings dC dI A qt qt_dark qt_fixed qt_dark_words qt_fixed_words qt_maskRows ct_dark_words ct_fixed_words vt_side vt_next vt_x vt_y vt_dark_side vt_fixed_side nvt_dark_words nvt_fixed_words) (([.ref qt, .int p1, .int p2, .int p3, .int p4] : List Value).toArray) s 0 0 A) (F0 m 14 ls []) := by
          intro m2
          induction m2 with
          | zero => intro x11 b12 b13 Hf; exact sq_none Hf
          | succ m2 ih2 =>
            intro x11 b12 b13 Hf H locs  hP hD hS ls hl
            replace Hf := (fn_Frame_layRings_L2_s p1 p2 p3 p4 vt_dark_side vt_fixed_side x2 k9 m2 x11 b12 b13).symm.trans Hf
            refine lv_iload hx hb d_Frame_layRings_14 (lv_at hl 6 rfl) ?_
            refine lv_iload_n hx hb d_Frame_layRings_16 rfl (lv_at hl 3 rfl) ?_
            refine lv_icmp_gt (tgt := 69) hx hb d_Frame_layRings_17 (by decide) (fun c14 => ?_) (fun c14 => ?_)
            · replace Hf := sq_ite_t Hf c14
              exact Jk9 b12 b13 Hf _ _  hP hD hS _ (lv_sub hl [0, 1, 2, 3, 4, 5] rfl)
            · replace Hf := sq_ite_f Hf c14
              refine lv_iload hx hb d_Frame_layRings_20 (lv_at hl 6 rfl) ?_
              refine va_mabs hx hb (by rw [hml]; exact hl.1.symm) hown (ht _ tb_458) (ht _ tb_459) (ht _ tb_17) (ht _ tb_460) (Nat.le_of_ble_eq_true rfl) (Nat.le_of_ble_eq_true rfl) (Nat.zero_le _) (Nat.zero_le _) d_Frame_layRings_22 ?_
              obtain ⟨x15, ex15, Hf⟩ := sq_bd_e Hf
              refine sq_top ex15 ?_
              refine lv_iload hx hb d_Frame_layRings_25 (lv_at hl 5 rfl) ?_
              refine va_mabs hx hb (by rw [hml]; exact hl.1.symm) hown (ht _ tb_458) (ht _ tb_459) (ht _ tb_17) (ht _ tb_460) (Nat.le_of_ble_eq_true rfl) (Nat.le_of_ble_eq_true rfl) (Nat.zero_le _) (Nat.zero_le _) d_Frame_layRings_27 ?_
              obtain ⟨x16, ex16, Hf⟩ := sq_bd_e Hf
              refine sq_top ex16 ?_
              refine va_mmax hx hb (by rw [hml]; exact hl.1.symm) hown (ht _ tb_461) (ht _ tb_416) (ht _ tb_17) (ht _ tb_417) (Nat.le_of_ble_eq_true rfl) (Nat.le_of_ble_eq_true rfl) (Nat.zero_le _) (Nat.zero_le _) d_Frame_layRings_30 ?_
              obtain ⟨x17, ex17, Hf⟩ := sq_bd_e Hf
              refine sq_top ex17 ?_
              refine lv_istore (lv' := [(7, .int x17), (0, .ref qt), (1, .int p1), (2, .int p2), (3, .int p3), (4, .int p4), (5, .int x2), (6, .int x11)]) hx hb d_Frame_layRings_33 hl (by decide) rfl (fun ls hl => ?_)
              refine lv_aload_n hx hb d_Frame_layRings_35 rfl (lv_at hl 1 rfl) ?_
              refine lv_iload_n hx hb d_Frame_layRings_36 rfl (lv_at hl 2 rfl) ?_
              refine lv_iload hx hb d_Frame_layRings_37 (lv_at hl 7 rfl) ?_
              refine lv_iadd hx hb d_Frame_layRings_39 ?_
              refine lv_iload_n hx hb d_Frame_layRings_40 rfl (lv_at hl 3 rfl) ?_
              refine lv_iload hx hb d_Frame_layRings_41 (lv_at hl 6 rfl) ?_
              refine lv_iadd hx hb d_Frame_layRings_43 ?_
              refine lv_iload hx hb d_Frame_layRings_44 (lv_at hl 5 rfl) ?_
              refine lv_iload hx hb d_Frame_layRings_46 (lv_at hl 0 rfl) ?_
              refine lv_ishr hx hb d_Frame_layRings_48 ?_
              refine lv_iconst (v := (1 : Int32)) hx hb d_Frame_layRings_49 (by decide) ?_
              refine lv_iand hx hb d_Frame_layRings_50 ?_
              refine lv_iconst (v := (1 : Int32)) hx hb d_Frame_layRings_51 (by decide) ?_
              obtain ⟨k19, hk19, Hf⟩ := sq_jn_e Hf
              have Jk19 : ∀ (x18 : Int32), k19 x18 = some (nvt_dark_words, nvt_fixed_words) → ∀ (H : Heap) (locs : List Loc), va_P (dC, dI) cl_All (ww_Frame_layRings qt qt_dark qt_fixed qt_dark_words qt_fixed_words qt_maskRows ct_dark_words ct_fixed_words vt_side vt_next vt_x vt_y vt_dark_side vt_fixed_side b12 b13) H → va_D A (ww_Frame_layRings qt qt_dark qt_fixed qt_dark_words qt_fixed_words qt_maskRows ct_dark_words ct_fixed_words vt_side vt_next vt_x vt_y vt_dark_side vt_fixed_side b12 b13) → va_S A s.heap H locs → ∀ ls : Array Slot, lv_has ls 8 [(0, .ref qt), (1, .int p1), (2, .int p2), (3, .int p3), (4, .int p4), (5, .int x2), (6, .int x11)] → W p l e (headSpec w_Frame_layRings rm_Frame_layRings).room s m (([.ref qt, .int p1, .int p2, .int p3, .int p4] : List Value).toArray) below meth c H locs 0 0 (MQ below (qc_Frame_layRings dC dI A qt qt_dark qt_fixed qt_dark_words qt_fixed_words qt_maskRows ct_dark_words ct_fixed_words vt_side vt_next vt_x vt_y vt_dark_side vt_fixed_side nvt_dark_words nvt_fixed_words) (([.ref qt, .int p1, .int p2, .int p3, .int p4] : List Value).toArray) s 0 0 A) (F0 m 60 ls [.int x18, .int (p2 + x2), .int (p1 + x11), .ref qt]) := by
                intro x18 Hf H locs  hP hD hS ls hl
                rw [hk19] at Hf
                obtain ⟨b20, b21, hc22, Hf⟩ := sq_cb2_e Hf
                refine sq_rwv (wn := (ww_Frame_layRings qt qt_dark qt_fixed qt_dark_words qt_fixed_words qt_maskRows ct_dark_words ct_fixed_words vt_side vt_next vt_x vt_y vt_dark_side vt_fixed_side b20 b21)) (va_runV (As := [.int (p1 + x11), .int (p2 + x2), .int x18]) (rest := []) ⟨hx, hb, hml, hown, ht⟩ (kt_Frame_fix l dC dI qt qt_dark qt_fixed qt_dark_words qt_fixed_words qt_maskRows ct_dark_words ct_fixed_words vt_side vt_next vt_x vt_y vt_dark_side vt_fixed_side b12 b13 (p1 + x11) (p2 + x2) x18 H.size b20 b21 hc22) (cwV 3 ht (sq_gV tb_445 tb_447 sl_2 tb_9 tb_448) rfl rfl rfl (by decide +kernel) ⟨Nat.le_of_ble_eq_true rfl, Nat.le_of_ble_eq_true rfl⟩) (sq_rwV (hP.sub (ws' := (ww_Frame_fix qt qt_dark qt_fixed qt_dark_words qt_fixed_words qt_maskRows ct_dark_words ct_fixed_words vt_side vt_next vt_x vt_y vt_dark_side vt_fixed_side b12 b13)) [0, 1, 2, 3, 4] rfl) (hK.sub (tys' := [(ct_dark_words, .long), (ct_fixed_words, .long)]) [0, 1] rfl) (hD.sub (ws' := (ww_Frame_fix qt qt_dark qt_fixed qt_dark_words qt_fixed_words qt_maskRows ct_dark_words ct_fixed_words vt_side vt_next vt_x vt_y vt_dark_side vt_fixed_side b12 b13)) [0, 1, 2, 3, 4] (by decide) rfl) (va_recv hK hP (ci := 7) (q0 := 0) rfl rfl)) rfl rfl hl.1 rfl (lv_room (Nat.le_of_ble_eq_true rfl)) d_Frame_layRings_60 ⟨Nat.le_of_ble_eq_true rfl, Nat.le_of_ble_eq_true rfl⟩) hP hD hS hA [0, 1, 2, 3, 4] [] [0, 1, 2, 3, 4] rfl rfl (by decide) (by decide) rfl (by decide) (fun H locs hP hD hS => ?_)
                obtain ⟨x23, ex23, Hf⟩ := sq_bd_e Hf
                refine lv_iinc (v := x23) (lv' := [(6, .int x23), (0, .ref qt), (1, .int p1), (2, .int p2), (3, .int p3), (4, .int p4), (5, .int x2)]) hx hb d_Frame_layRings_63 hl (k := 6) rfl (by rw [ex23]; rfl) (by decide) rfl (fun ls hl => ?_)
                refine lv_goto (tgt := 14) hx hb d_Frame_layRings_66 (by decide) ?_
                exact ih2 x23 b20 b21 Hf _ _  hP hD hS _ (lv_sub hl [1, 2, 3, 4, 5, 6, 0] rfl)
              refine lv_icmp_ne (tgt := 59) hx hb d_Frame_layRings_52 (by decide) (fun c24 => ?_) (fun c24 => ?_)
              · replace Hf := sq_ite_f Hf c24
                refine lv_iconst (v := (0 : Int32)) hx hb d_Frame_layRings_59 (by decide) ?_
                exact Jk19 (0 : Int32) Hf _ _  hP hD hS _ (lv_sub hl [1, 2, 3, 4, 5, 6, 7] rfl)
              · replace Hf := sq_ite_t Hf c24
                refine lv_iconst (v := (1 : Int32)) hx hb d_Frame_layRings_55 (by decide) ?_
                refine lv_goto (tgt := 60) hx hb d_Frame_layRings_56 (by decide) ?_
                exact Jk19 (1 : Int32) Hf _ _  hP hD hS _ (lv_sub hl [1, 2, 3, 4, 5, 6, 7] rfl)
        exact L2 n0 x6 b3 b4 Hf _ _  hP hD hS _ (lv_sub hl [1, 2, 3, 4, 5, 6, 0] rfl)
  exact L1 n0 x1 vt_dark_words vt_fixed_words Hf _ _  hP hD hS _ (lv_sub hl [1, 2, 3, 4, 5, 0] rfl)

def fn_Frame_layAlignments_L2 (n0 : Nat) (vt_side : Int32) (vt_dark_side : Int32) (vt_fixed_side : Int32) (x1 : Int32) (x2 : Int32) (x3 : Int32) (x5 : Int32) (k11 : (Nat → Int64) → (Nat → Int64) → Option ((Nat → Int64) × (Nat → Int64))) : Nat → Int32 → (Nat → Int64) → (Nat → Int64) → Option ((Nat → Int64) × (Nat → Int64))
  | 0, _, _, _ => none
  | m2 + 1, x13, b14, b15 => if x1 ≤ x13 then (k11 b14 b15) else (sq_jn (fun (x17 : Int32) => sq_jn (fun (b19 : Nat → Int64) (b20 : Nat → Int64) => sq_bd (x13 + (1 : Int32)) fun x22 => fn_Frame_layAlignments_L2 n0 vt_side vt_dark_side vt_fixed_side x1 x2 x3 x5 k11 m2 x22 b19 b20) fun k21 => if x17 = 0 then (sq_jn (fun (x24 : Int32) => sq_jn (fun (x26 : Int32) => sq_cb2 (fn_Frame_layRings n0 x24 x26 (2 : Int32) (5 : Int32) vt_dark_side vt_fixed_side b14 b15) fun b28 b29 => k21 b28 b29) fun k27 => if x13 = 0 then (k27 (6 : Int32)) else (k27 ((vt_side - (7 : Int32)) - ((x2 - x13) * x3)))) fun k25 => if x5 = 0 then (k25 (6 : Int32)) else (k25 ((vt_side - (7 : Int32)) - ((x2 - x5) * x3)))) else (k21 b14 b15)) fun k18 => sq_jn (fun (_ : Unit) => k18 (1 : Int32)) fun k33 => sq_jn (fun (_ : Unit) => sq_jn (fun (_ : Unit) => k18 (0 : Int32)) fun k35 => if x5 = x2 then (if x13 = 0 then (k33 ()) else (k35 ())) else (k35 ())) fun k34 => if x5 = 0 then (if x13 = 0 then (k33 ()) else (if x13 = x2 then (k33 ()) else (k34 ()))) else (k34 ()))
theorem fn_Frame_layAlignments_L2_s (n0 : Nat) (vt_side : Int32) (vt_dark_side : Int32) (vt_fixed_side : Int32) (x1 : Int32) (x2 : Int32) (x3 : Int32) (x5 : Int32) (k11 : (Nat → Int64) → (Nat → Int64) → Option ((Nat → Int64) × (Nat → Int64))) (m2 : Nat) (x13 : Int32) (b14 : Nat → Int64) (b15 : Nat → Int64) : fn_Frame_layAlignments_L2 n0 vt_side vt_dark_side vt_fixed_side x1 x2 x3 x5 k11 (m2 + 1) x13 b14 b15 = if x1 ≤ x13 then (k11 b14 b15) else (sq_jn (fun (x17 : Int32) => sq_jn (fun (b19 : Nat → Int64) (b20 : Nat → Int64) => sq_bd (x13 + (1 : Int32)) fun x22 => fn_Frame_layAlignments_L2 n0 vt_side vt_dark_side vt_fixed_side x1 x2 x3 x5 k11 m2 x22 b19 b20) fun k21 => if x17 = 0 then (sq_jn (fun (x24 : Int32) => sq_jn (fun (x26 : Int32) => sq_cb2 (fn_Frame_layRings n0 x24 x26 (2 : Int32) (5 : Int32) vt_dark_side vt_fixed_side b14 b15) fun b28 b29 => k21 b28 b29) fun k27 => if x13 = 0 then (k27 (6 : Int32)) else (k27 ((vt_side - (7 : Int32)) - ((x2 - x13) * x3)))) fun k25 => if x5 = 0 then (k25 (6 : Int32)) else (k25 ((vt_side - (7 : Int32)) - ((x2 - x5) * x3)))) else (k21 b14 b15)) fun k18 => sq_jn (fun (_ : Unit) => k18 (1 : Int32)) fun k33 => sq_jn (fun (_ : Unit) => sq_jn (fun (_ : Unit) => k18 (0 : Int32)) fun k35 => if x5 = x2 then (if x13 = 0 then (k33 ()) else (k35 ())) else (k35 ())) fun k34 => if x5 = 0 then (if x13 = 0 then (k33 ()) else (if x13 = x2 then (k33 ()) else (k34 ()))) else (k34 ())) := rfl
def fn_Frame_layAlignments_L1 (n0 : Nat) (vt_side : Int32) (vt_dark_side : Int32) (vt_fixed_side : Int32) (x1 : Int32) (x2 : Int32) (x3 : Int32) : Nat → Int32 → (Nat → Int64) → (Nat → Int64) → Option ((Nat → Int64) × (Nat → Int64))
  | 0, _, _, _ => none
  | m1 + 1, x5, b6, b7 => if x1 ≤ x5 then (some (b6, b7)) else (sq_jn (fun (b9 : Nat → Int64) (b10 : Nat → Int64) => sq_bd (x5 + (1 : Int32)) fun x12 => fn_Frame_layAlignments_L1 n0 vt_side vt_dark_side vt_fixed_side x1 x2 x3 m1 x12 b9 b10) fun k11 => fn_Frame_layAlignments_L2 n0 vt_side vt_dark_side vt_fixed_side x1 x2 x3 x5 k11 n0 (0 : Int32) b6 b7)
theorem fn_Frame_layAlignments_L1_s (n0 : Nat) (vt_side : Int32) (vt_dark_side : Int32) (vt_fixed_side : Int32) (x1 : Int32) (x2 : Int32) (x3 : Int32) (m1 : Nat) (x5 : Int32) (b6 : Nat → Int64) (b7 : Nat → Int64) : fn_Frame_layAlignments_L1 n0 vt_side vt_dark_side vt_fixed_side x1 x2 x3 (m1 + 1) x5 b6 b7 = if x1 ≤ x5 then (some (b6, b7)) else (sq_jn (fun (b9 : Nat → Int64) (b10 : Nat → Int64) => sq_bd (x5 + (1 : Int32)) fun x12 => fn_Frame_layAlignments_L1 n0 vt_side vt_dark_side vt_fixed_side x1 x2 x3 m1 x12 b9 b10) fun k11 => fn_Frame_layAlignments_L2 n0 vt_side vt_dark_side vt_fixed_side x1 x2 x3 x5 k11 n0 (0 : Int32) b6 b7) := rfl
def fn_Frame_layAlignments (n0 : Nat) (p1 : Int32) (vt_side : Int32) (vt_dark_side : Int32) (vt_fixed_side : Int32) (vt_dark_words : Nat → Int64) (vt_fixed_words : Nat → Int64) : Option ((Nat → Int64) × (Nat → Int64)) :=
  sq_bd ((p1 / (7 : Int32)) + (2 : Int32)) fun x1 => sq_bd (x1 - (1 : Int32)) fun x2 => sq_jn (fun (x3 : Int32) => fn_Frame_layAlignments_L1 n0 vt_side vt_dark_side vt_fixed_side x1 x2 x3 n0 (0 : Int32) vt_dark_words vt_fixed_words) fun k4 => if p1 = (32 : Int32) then (k4 (26 : Int32)) else (sq_bd ((2 : Int32) * x2) fun x42 => sq_bd (sq_max (1 : Int32) x42) fun x43 => sq_gz x43 <| k4 ((((((4 : Int32) * p1) + ((2 : Int32) * x1)) + (1 : Int32)) / x43) * (2 : Int32)))
abbrev ww_Frame_layAlignments (qt qt_dark qt_fixed qt_dark_words qt_fixed_words qt_maskRows : Nat) (ct_dark_words ct_fixed_words : ClassId) (vt_side : Int32) (vt_next : Int32) (vt_x : Int32) (vt_y : Int32) (vt_dark_side : Int32) (vt_fixed_side : Int32) (vt_dark_words : Nat → Int64) (vt_fixed_words : Nat → Int64) : va_W := [(qt, .inr (7, [.ref qt_fixed, .ref qt_dark, .ref qt_maskRows, .int vt_side, .int vt_next, .int vt_x, .int vt_y])), (qt_dark, .inr (6, [.ref qt_dark_words, .int vt_dark_side])), (qt_fixed, .inr (6, [.ref qt_fixed_words, .int vt_fixed_side])), (qt_dark_words, .inl (ct_dark_words, 531, .inr (.inl vt_dark_words))), (qt_fixed_words, .inl (ct_fixed_words, 531, .inr (.inl vt_fixed_words)))]

def rm_Frame_layAlignments : Room := { frames := 4, cells := 0, slots := 0, locals := 98 }
abbrev qc_Frame_layAlignments (dC : Nat → ClassId) (dI : Nat → Nat → Nat) (A : Nat → Prop) (qt qt_dark qt_fixed qt_dark_words qt_fixed_words qt_maskRows : Nat) (ct_dark_words ct_fixed_words : ClassId) (vt_side : Int32) (vt_next : Int32) (vt_x : Int32) (vt_y : Int32) (vt_dark_side : Int32) (vt_fixed_side : Int32) (vt_dark_words : Nat → Int64) (vt_fixed_words : Nat → Int64) : Array Value → State → Outcome → State → Prop := va_Qv (fun (_ : Unit) => True) (fun _ t => va_P (dC, dI) cl_All (ww_Frame_layAlignments qt qt_dark qt_fixed qt_dark_words qt_fixed_words qt_maskRows ct_dark_words ct_fixed_words vt_side vt_next vt_x vt_y vt_dark_side vt_fixed_side vt_dark_words vt_fixed_words) t.heap ∧ va_D A (ww_Frame_layAlignments qt qt_dark qt_fixed qt_dark_words qt_fixed_words qt_maskRows ct_dark_words ct_fixed_words vt_side vt_next vt_x vt_y vt_dark_side vt_fixed_side vt_dark_words vt_fixed_words)) A

set_option maxHeartbeats 4000000 in
set_option maxRecDepth 100000 in
theorem kt_Frame_layAlignments (l : Launch) (dC : Nat → ClassId) (dI : Nat → Nat → Nat) (qt qt_dark qt_fixed qt_dark_words qt_fixed_words qt_maskRows : Nat) (ct_dark_words ct_fixed_words : ClassId) (vt_side : Int32) (vt_next : Int32) (vt_x : Int32) (vt_y : Int32) (vt_dark_side : Int32) (vt_fixed_side : Int32) (vt_dark_words : Nat → Int64) (vt_fixed_words : Nat → Int64) (p1 : Int32) (sz : Nat) (n0 : Nat) (nvt_dark_words : Nat → Int64) (nvt_fixed_words : Nat → Int64) (Hf : fn_Frame_layAlignments n0 p1 vt_side vt_dark_side vt_fixed_side vt_dark_words vt_fixed_words = some (nvt_dark_words, nvt_fixed_words)) : Met l y_Frame_layAlignments w_Frame_layAlignments rm_Frame_layAlignments (va_Pc [.ref qt, .int p1] (fun U => U.heap.size = sz ∧ va_P (dC, dI) cl_All (ww_Frame_layAlignments qt qt_dark qt_fixed qt_dark_words qt_fixed_words qt_maskRows ct_dark_words ct_fixed_words vt_side vt_next vt_x vt_y vt_dark_side vt_fixed_side vt_dark_words vt_fixed_words) U.heap ∧ va_K (dC, dI) cl_All [(ct_dark_words, .long), (ct_fixed_words, .long)] U ∧ va_D (fun _ => True) (ww_Frame_layAlignments qt qt_dark qt_fixed qt_dark_words qt_fixed_words qt_maskRows ct_dark_words ct_fixed_words vt_side vt_next vt_x vt_y vt_dark_side vt_fixed_side vt_dark_words vt_fixed_words))) (qc_Frame_layAlignments dC dI (va_A (ww_Frame_layAlignments qt qt_dark qt_fixed qt_dark_words qt_fixed_words qt_maskRows ct_dark_words ct_fixed_words vt_side vt_next vt_x vt_y vt_dark_side vt_fixed_side vt_dark_words vt_fixed_words) sz) qt qt_dark qt_fixed qt_dark_words qt_fixed_words qt_maskRows ct_dark_words ct_fixed_words vt_side vt_next vt_x vt_y vt_dark_side vt_fixed_side nvt_dark_words nvt_fixed_words) 0 0 (va_A (ww_Frame_layAlignments qt qt_dark qt_fixed qt_dark_words qt_fixed_words qt_maskRows ct_dark_words ct_fixed_words vt_side vt_next vt_x vt_y vt_dark_side vt_fixed_side vt_dark_words vt_fixed_words) sz) := by
  refine Met.ofW (cc := prog_6_method_5_code) (maxL := 10) (ret := none) (by decide) rfl ?_
  intro p e s m args below meth c s₁ B hml hv
  obtain ⟨rfl, hsz, hP, hK, hD0⟩ := hv
  have hx := B.exec; have hb := B.bytes; have hr := B.returns; have hlocks := B.notSynchronized
  have ht : ∀ w ∈ lw_g, w.before _ s = true := fun w h => atoms_spec (ws := w_Frame_layAlignments) B.pre w (List.mem_cons_of_mem _ h)
  have hown : s.vm.findClass "SquareSymbols$Frame" = some m.cls := findClass_of_methodNamed B.named
  subst hsz
  have hD := hD0.self (sz := s.heap.size)
  generalize hAe : va_A (ww_Frame_layAlignments qt qt_dark qt_fixed qt_dark_words qt_fixed_words qt_maskRows ct_dark_words ct_fixed_words vt_side vt_next vt_x vt_y vt_dark_side vt_fixed_side vt_dark_words vt_fixed_words) s.heap.size = A at hD ⊢
  have hA : ∀ q : Nat, s.heap.size ≤ q → A q := fun q h => by rw [← hAe]; exact Or.inr h
  have hS : va_S A s.heap s.heap [] := va_S.rf
  have hl := lv_entry ([.ref qt, .int p1]) (n := 10) (Nat.le_of_ble_eq_true rfl)
  rw [lg_entry_eq]
  generalize (lg_sl ([.ref qt, .int p1]) ++ List.replicate (10 - (lg_sl ([.ref qt, .int p1])).length) Slot.unset).toArray = ls at hl ⊢
  have hl : lv_has ls 10 [(0, .ref qt), (1, .int p1)] := hl
  refine lv_iload_n hx hb d_Frame_layAlignments_0 rfl (lv_at hl 1 rfl) ?_
  refine lv_bipush (v := (7 : Int32)) hx hb d_Frame_layAlignments_1 (by decide) ?_
  refine lv_idiv hx hb d_Frame_layAlignments_3 (by decide) ?_
  refine lv_iconst (v := (2 : Int32)) hx hb d_Frame_layAlignments_4 (by decide) ?_
  refine lv_iadd hx hb d_Frame_layAlignments_5 ?_
  obtain ⟨x1, ex1, Hf⟩ := sq_bd_e Hf
  refine sq_top ex1 ?_
  refine lv_istore_n (lv' := [(2, .int x1), (0, .ref qt), (1, .int p1)]) hx hb d_Frame_layAlignments_6 rfl hl (by decide) rfl (fun ls hl => ?_)
  refine lv_iload_n hx hb d_Frame_layAlignments_7 rfl (lv_at hl 0 rfl) ?_
  refine lv_iconst (v := (1 : Int32)) hx hb d_Frame_layAlignments_8 (by decide) ?_
  refine lv_isub hx hb d_Frame_layAlignments_9 ?_
  obtain ⟨x2, ex2, Hf⟩ := sq_bd_e Hf
  refine sq_top ex2 ?_
  refine lv_istore_n (lv' := [(3, .int x2), (2, .int x1), (0, .ref qt), (1, .int p1)]) hx hb d_Frame_layAlignments_10 rfl hl (by decide) rfl (fun ls hl => ?_)
  refine lv_iload_n hx hb d_Frame_layAlignments_11 rfl (lv_at hl 3 rfl) ?_
  refine lv_bipush (v := (32 : Int32)) hx hb d_Frame_layAlignments_12 (by decide) ?_
  obtain ⟨k4, hk4, Hf⟩ := sq_jn_e Hf
  have Jk4 : ∀ (x3 : Int32), k4 x3 = some (nvt_dark_words, nvt_fixed_words) → ∀ (H : Heap) (locs : List Loc), va_P (dC, dI) cl_All (ww_Frame_layAlignments qt qt_dark qt_fixed qt_dark_words qt_fixed_words qt_maskRows ct_dark_words ct_fixed_words vt_side vt_next vt_x vt_y vt_dark_side vt_fixed_side vt_dark_words vt_fixed_words) H → va_D A (ww_Frame_layAlignments qt qt_dark qt_fixed qt_dark_words qt_fixed_words qt_maskRows ct_dark_words ct_fixed_words vt_side vt_next vt_x vt_y vt_dark_side vt_fixed_side vt_dark_words vt_fixed_words) → va_S A s.heap H locs → ∀ ls : Array Slot, lv_has ls 10 [(0, .ref qt), (2, .int x1), (3, .int x2)] → W p l e (headSpec w_Frame_layAlignments rm_Frame_layAlignments).room s m (([.ref qt, .int p1] : List Value).toArray) below meth c H locs 0 0 (MQ below (qc_Frame_layAlignments dC dI A qt qt_dark qt_fixed qt_dark_words qt_fixed_words qt_maskRows ct_dark_words ct_fixed_words vt_side vt_next vt_x vt_y vt_dark_side vt_fixed_side nvt_dark_words nvt_fixed_words) (([.ref qt, .int p1] : List Value).toArray) s 0 0 A) (F0 m 41 ls [.int x3]) := by
    intro x3 Hf H locs  hP hD hS ls hl
    rw [hk4] at Hf
    refine lv_istore (lv' := [(4, .int x3), (0, .ref qt), (2, .int x1), (3, .int x2)]) hx hb d_Frame_layAlignments_41 hl (by decide) rfl (fun ls hl => ?_)
    refine lv_iconst (v := (0 : Int32)) hx hb d_Frame_layAlignments_43 (by decide) ?_
    refine lv_istore (lv' := [(5, .int (0 : Int32)), (4, .int x3), (0, .ref qt), (2, .int x1), (3, .int x2)]) hx hb d_Frame_layAlignments_44 hl (by decide) rfl (fun ls hl => ?_)
    have L1 : ∀ (m1 : Nat), ∀ (x5 : Int32) (b6 : Nat → Int64) (b7 : Nat → Int64), fn_Frame_layAlignments_L1 n0 vt_side vt_dark_side vt_fixed_side x1 x2 x3 m1 x5 b6 b7 = some (nvt_dark_words, nvt_fixed_words) → ∀ (H : Heap) (locs : List Loc), va_P (dC, dI) cl_All (ww_Frame_layAlignments qt qt_dark qt_fixed qt_dark_words qt_fixed_words qt_maskRows ct_dark_words ct_fixed_words vt_side vt_next vt_x vt_y vt_dark_side vt_fixed_side b6 b7) H → va_D A (ww_Frame_layAlignments qt qt_dark qt_fixed qt_dark_words qt_fixed_words qt_maskRows ct_dark_words ct_fixed_words vt_side vt_next vt_x vt_y vt_dark_side vt_fixed_side b6 b7) → va_S A s.heap H locs → ∀ ls : Array Slot, lv_has ls 10 [(0, .ref qt), (2, .int x1), (3, .int x2), (4, .int x3), (5, .int x5)] → W p l e (headSpec w_Frame_layAlignments rm_Frame_layAlignments).room s m (([.ref qt, .int p1] : List Value).toArray) below meth c H locs 0 0 (MQ below (qc_Frame_layAlignments dC dI A qt qt_dark qt_fixed qt_dark_words qt_fixed_words qt_maskRows ct_dark_words ct_fixed_words vt_side vt_next vt_x vt_y vt_dark_side vt_fixed_side nvt_dark_words nvt_fixed_words) (([.ref qt, .int p1] : List Value).toArray) s 0 0 A) (F0 m 46 ls []) := by
      intro m1
      induction m1 with
      | zero => intro x5 b6 b7 Hf; exact sq_none Hf
      | succ m1 ih1 =>
        intro x5 b6 b7 Hf H locs  hP hD hS ls hl
        replace Hf := (fn_Frame_layAlignments_L1_s n0 vt_side vt_dark_side vt_fixed_side x1 x2 x3 m1 x5 b6 b7).symm.trans Hf
        refine lv_iload hx hb d_Frame_layAlignments_46 (lv_at hl 4 rfl) ?_
        refine lv_iload_n hx hb d_Frame_layAlignments_48 rfl (lv_at hl 1 rfl) ?_
        refine lv_icmp_ge (tgt := 176) hx hb d_Frame_layAlignments_49 (by decide) (fun c8 => ?_) (fun c8 => ?_)
        · replace Hf := sq_ite_t Hf c8
          obtain ⟨rfl, rfl⟩ := sq_so2 Hf
          exact W.vret hx hb hr (fun t ht hW => ⟨⟨(), rfl, trivial, by rw [ht]; exact hP, hD⟩, hS.F ht⟩) hS.2.2 d_Frame_layAlignments_176
        · replace Hf := sq_ite_f Hf c8
          refine lv_iconst (v := (0 : Int32)) hx hb d_Frame_layAlignments_52 (by decide) ?_
          refine lv_istore (lv' := [(6, .int (0 : Int32)), (0, .ref qt), (2, .int x1), (3, .int x2), (4, .int x3), (5, .int x5)]) hx hb d_Frame_layAlignments_53 hl (by decide) rfl (fun ls hl => ?_)
          obtain ⟨k11, hk11, Hf⟩ := sq_jn_e Hf
          have Jk11 : ∀ (b9 : Nat → Int64) (b10 : Nat → Int64), k11 b9 b10 = some (nvt_dark_words, nvt_fixed_words) → ∀ (H : Heap) (locs : List Loc), va_P (dC, dI) cl_All (ww_Frame_layAlignments qt qt_dark qt_fixed qt_dark_words qt_fixed_words qt_maskRows ct_dark_words ct_fixed_words vt_side vt_next vt_x vt_y vt_dark_side vt_fixed_side b9 b10) H → va_D A (ww_Frame_layAlignments qt qt_dark qt_fixed qt_dark_words qt_fixed_words qt_maskRows ct_dark_words ct_fixed_words vt_side vt_next vt_x vt_y vt_dark_side vt_fixed_side b9 b10) → va_S A s.heap H locs → ∀ ls : Array Slot, lv_has ls 10 [(0, .ref qt), (2, .int x1), (3, .int x2), (4, .int x3), (5, .int x5)] → W p l e (headSpec w_Frame_layAlignments rm_Frame_layAlignments).room s m (([.ref qt, .int p1] : List Value).toArray) below meth c H locs 0 0 (MQ below (qc_Frame_layAlignments dC dI A qt qt_dark qt_fixed qt_dark_words qt_fixed_words qt_maskRows ct_dark_words ct_fixed_words vt_side vt_next vt_x vt_y vt_dark_side vt_fixed_side nvt_dark_words nvt_fixed_words) (([.ref qt, .int p1] : List Value).toArray) s 0 0 A) (F0 m 170 ls []) := by
            intro b9 b10 Hf H locs  hP hD hS ls hl
            rw [hk11] at Hf
            obtain ⟨x12, ex12, Hf⟩ := sq_bd_e Hf
            refine lv_iinc (v := x12) (lv' := [(5, .int x12), (0, .ref qt), (2, .int x1), (3, .int x2), (4, .int x3)]) hx hb d_Frame_layAlignments_170 hl (k := 4) rfl (by rw [ex12]; rfl) (by decide) rfl (fun ls hl => ?_)
            refine lv_goto (tgt := 46) hx hb d_Frame_layAlignments_173 (by decide) ?_
            exact ih1 x12 b9 b10 Hf _ _  hP hD hS _ (lv_sub hl [1, 2, 3, 4, 0] rfl)
          have L2 : ∀ (m2 : Nat), ∀ (x13 : Int32) (b14 : Nat → Int64) (b15 : Nat → Int64), fn_Frame_layAlignments_L2 n0 vt_side vt_dark_side vt_fixed_side x1 x2 x3 x5 k11 m2 x13 b14 b15 = some (nvt_dark_words, nvt_fixed_words) → ∀ (H : Heap) (locs : List Loc), va_P (dC, dI) cl_All (ww_Frame_layAlignments qt qt_dark qt_fixed qt_dark_words qt_fixed_words qt_maskRows ct_dark_words ct_fixed_words vt_side vt_next vt_x vt_y vt_dark_side vt_fixed_side b14 b15) H → va_D A (ww_Frame_layAlignments qt qt_dark qt_fixed qt_dark_words qt_fixed_words qt_maskRows ct_dark_words ct_fixed_words vt_side vt_next vt_x vt_y vt_dark_side vt_fixed_side b14 b15) → va_S A s.heap H locs → ∀ ls : Array Slot, lv_has ls 10 [(0, .ref qt), (2, .int x1), (3, .int x2), (4, .int x3), (5, .int x5), (6, .int x13)] → W p l e (headSpec w_Frame_layAlignments rm_Frame_layAlignments).room s m (([.ref qt, .int p1] : List Value).toArray) below meth c H locs 0 0 (MQ below (qc_Frame_layAlignments dC dI A qt qt_dark qt_fixed qt_dark_words qt_fixed_words qt_maskRows ct_dark_words ct_fixed_words vt_side vt_next vt_x vt_y vt_dark_side vt_fixed_side nvt_dark_words nvt_fixed_words) (([.ref qt, .int p1] : List Value).toArray) s 0 0 A) (F0 m 55 ls []) := by
            intro m2
            induction m2 with
            | zero => intro x13 b14 b15 Hf; exact sq_none Hf
            | succ m2 ih2 =>
              intro x13 b14 b15 Hf H locs  hP hD hS ls hl
              replace Hf := (fn_Frame_layAlignments_L2_s n0 vt_side vt_dark_side vt_fixed_side x1 x2 x3 x5 k11 m2 x13 b14 b15).symm.trans Hf
              refine lv_iload hx hb d_Frame_layAlignments_55 (lv_at hl 5 rfl) ?_
              refine lv_iload_n hx hb d_Frame_layAlignments_57 rfl (lv_at hl 1 rfl) ?_
              refine lv_icmp_ge (tgt := 170) hx hb d_Frame_layAlignments_58 (by decide) (fun c16 => ?_) (fun c16 => ?_)
              · replace Hf := sq_ite_t Hf c16
                exact Jk11 b14 b15 Hf _ _  hP hD hS _ (lv_sub hl [0, 1, 2, 3, 4] rfl)
              · replace Hf := sq_ite_f Hf c16
                refine lv_iload hx hb d_Frame_layAlignments_61 (lv_at hl 4 rfl) ?_
                obtain ⟨k18, hk18, Hf⟩ := sq_jn_e Hf
                have Jk18 : ∀ (x17 : Int32), k18 x17 = some (nvt_dark_words, nvt_fixed_words) → ∀ (H : Heap) (locs : List Loc), va_P (dC, dI) cl_All (ww_Frame_layAlignments qt qt_dark qt_fixed qt_dark_words qt_fixed_words qt_maskRows ct_dark_words ct_fixed_words vt_side vt_next vt_x vt_y vt_dark_side vt_fixed_side b14 b15) H → va_D A (ww_Frame_layAlignments qt qt_dark qt_fixed qt_dark_words qt_fixed_words qt_maskRows ct_dark_words ct_fixed_words vt_side vt_next vt_x vt_y vt_dark_side vt_fixed_side b14 b15) → va_S A s.heap H locs → ∀ ls : Array Slot, lv_has ls 10 [(0, .ref qt), (2, .int x1), (3, .int x2), (4, .int x3), (5, .int x5), (6, .int x13)] → W p l e (headSpec w_Frame_layAlignments rm_Frame_layAlignments).room s m (([.ref qt, .int p1] : List Value).toArray) below meth c H locs 0 0 (MQ below (qc_Frame_layAlignments dC dI A qt qt_dark qt_fixed qt_dark_words qt_fixed_words qt_maskRows ct_dark_words ct_fixed_words vt_side vt_next vt_x vt_y vt_dark_side vt_fixed_side nvt_dark_words nvt_fixed_words) (([.ref qt, .int p1] : List Value).toArray) s 0 0 A) (F0 m 93 ls [.int x17]) := by
                  intro x17 Hf H locs  hP hD hS ls hl
                  rw [hk18] at Hf
                  refine lv_istore (lv' := [(7, .int x17), (0, .ref qt), (2, .int x1), (3, .int x2), (4, .int x3), (5, .int x5), (6, .int x13)]) hx hb d_Frame_layAlignments_93 hl (by decide) rfl (fun ls hl => ?_)
                  refine lv_iload hx hb d_Frame_layAlignments_95 (lv_at hl 0 rfl) ?_
                  obtain ⟨k21, hk21, Hf⟩ := sq_jn_e Hf
                  have Jk21 : ∀ (b19 : Nat → Int64) (b20 : Nat → Int64), k21 b19 b20 = some (nvt_dark_words, nvt_fixed_words) → ∀ (H : Heap) (locs : List Loc), va_P (dC, dI) cl_All (ww_Frame_layAlignments qt qt_dark qt_fixed qt_dark_words qt_fixed_words qt_maskRows ct_dark_words ct_fixed_words vt_side vt_next vt_x vt_y vt_dark_side vt_fixed_side b19 b20) H → va_D A (ww_Frame_layAlignments qt qt_dark qt_fixed qt_dark_words qt_fixed_words qt_maskRows ct_dark_words ct_fixed_words vt_side vt_next vt_x vt_y vt_dark_side vt_fixed_side b19 b20) → va_S A s.heap H locs → ∀ ls : Array Slot, lv_has ls 10 [(0, .ref qt), (2, .int x1), (3, .int x2), (4, .int x3), (5, .int x5), (6, .int x13)] → W p l e (headSpec w_Frame_layAlignments rm_Frame_layAlignments).room s m (([.ref qt, .int p1] : List Value).toArray) below meth c H locs 0 0 (MQ below (qc_Frame_layAlignments dC dI A qt qt_dark qt_fixed qt_dark_words qt_fixed_words qt_maskRows ct_dark_words ct_fixed_words vt_side vt_next vt_x vt_y vt_dark_side vt_fixed_side nvt_dark_words nvt_fixed_words) (([.ref qt, .int p1] : List Value).toArray) s 0 0 A) (F0 m 164 ls []) := by
                    intro b19 b20 Hf H locs  hP hD hS ls hl
                    rw [hk21] at Hf
                    obtain ⟨x22, ex22, Hf⟩ := sq_bd_e Hf
                    refine lv_iinc (v := x22) (lv' := [(6, .int x22), (0, .ref qt), (2, .int x1), (3, .int x2), (4, .int x3), (5, .int x5)]) hx hb d_Frame_layAlignments_164 hl (k := 5) rfl (by rw [ex22]; rfl) (by decide) rfl (fun ls hl => ?_)
                    refine lv_goto (tgt := 55) hx hb d_Frame_layAlignments_167 (by decide) ?_
                    exact ih2 x22 b19 b20 Hf _ _  hP hD hS _ (lv_sub hl [1, 2, 3, 4, 5, 0] rfl)
                  refine lv_if_ne (tgt := 164) hx hb d_Frame_layAlignments_97 (by decide) (fun c23 => ?_) (fun c23 => ?_)
                  · replace Hf := sq_ite_f Hf c23
                    exact Jk21 b14 b15 Hf _ _  hP hD hS _ (lv_sub hl [1, 2, 3, 4, 5, 6] rfl)
                  · replace Hf := sq_ite_t Hf c23
                    refine lv_iload hx hb d_Frame_layAlignments_100 (lv_at hl 5 rfl) ?_
                    obtain ⟨k25, hk25, Hf⟩ := sq_jn_e Hf
                    have Jk25 : ∀ (x24 : Int32), k25 x24 = some (nvt_dark_words, nvt_fixed_words) → ∀ (H : Heap) (locs : List Loc), va_P (dC, dI) cl_All (ww_Frame_layAlignments qt qt_dark qt_fixed qt_dark_words qt_fixed_words qt_maskRows ct_dark_words ct_fixed_words vt_side vt_next vt_x vt_y vt_dark_side vt_fixed_side b14 b15) H → va_D A (ww_Frame_layAlignments qt qt_dark qt_fixed qt_dark_words qt_fixed_words qt_maskRows ct_dark_words ct_fixed_words vt_side vt_next vt_x vt_y vt_dark_side vt_fixed_side b14 b15) → va_S A s.heap H locs → ∀ ls : Array Slot, lv_has ls 10 [(0, .ref qt), (2, .int x1), (3, .int x2), (4, .int x3), (5, .int x5), (6, .int x13)] → W p l e (headSpec w_Frame_layAlignments rm_Frame_layAlignments).room s m (([.ref qt, .int p1] : List Value).toArray) below meth c H locs 0 0 (MQ below (qc_Frame_layAlignments dC dI A qt qt_dark qt_fixed qt_dark_words qt_fixed_words qt_maskRows ct_dark_words ct_fixed_words vt_side vt_next vt_x vt_y vt_dark_side vt_fixed_side nvt_dark_words nvt_fixed_words) (([.ref qt, .int p1] : List Value).toArray) s 0 0 A) (F0 m 125 ls [.int x24]) := by
                      intro x24 Hf H locs  hP hD hS ls hl
                      rw [hk25] at Hf
                      refine lv_istore (lv' := [(8, .int x24), (0, .ref qt), (2, .int x1), (3, .int x2), (4, .int x3), (5, .int x5), (6, .int x13)]) hx hb d_Frame_layAlignments_125 hl (by decide) rfl (fun ls hl => ?_)
                      refine lv_iload hx hb d_Frame_layAlignments_127 (lv_at hl 6 rfl) ?_
                      obtain ⟨k27, hk27, Hf⟩ := sq_jn_e Hf
                      have Jk27 : ∀ (x26 : Int32), k27 x26 = some (nvt_dark_words, nvt_fixed_words) → ∀ (H : Heap) (locs : List Loc), va_P (dC, dI) cl_All (ww_Frame_layAlignments qt qt_dark qt_fixed qt_dark_words qt_fixed_words qt_maskRows ct_dark_words ct_fixed_words vt_side vt_next vt_x vt_y vt_dark_side vt_fixed_side b14 b15) H → va_D A (ww_Frame_layAlignments qt qt_dark qt_fixed qt_dark_words qt_fixed_words qt_maskRows ct_dark_words ct_fixed_words vt_side vt_next vt_x vt_y vt_dark_side vt_fixed_side b14 b15) → va_S A s.heap H locs → ∀ ls : Array Slot, lv_has ls 10 [(0, .ref qt), (2, .int x1), (3, .int x2), (4, .int x3), (5, .int x5), (6, .int x13), (8, .int x24)] → W p l e (headSpec w_Frame_layAlignments rm_Frame_layAlignments).room s m (([.ref qt, .int p1] : List Value).toArray) below meth c H locs 0 0 (MQ below (qc_Frame_layAlignments dC dI A qt qt_dark qt_fixed qt_dark_words qt_fixed_words qt_maskRows ct_dark_words ct_fixed_words vt_side vt_next vt_x vt_y vt_dark_side vt_fixed_side nvt_dark_words nvt_fixed_words) (([.ref qt, .int p1] : List Value).toArray) s 0 0 A) (F0 m 152 ls [.int x26]) := by
                        intro x26 Hf H locs  hP hD hS ls hl
                        rw [hk27] at Hf
                        refine lv_istore (lv' := [(9, .int x26), (0, .ref qt), (2, .int x1), (3, .int x2), (4, .int x3), (5, .int x5), (6, .int x13), (8, .int x24)]) hx hb d_Frame_layAlignments_152 hl (by decide) rfl (fun ls hl => ?_)
                        refine lv_aload_n hx hb d_Frame_layAlignments_154 rfl (lv_at hl 1 rfl) ?_
                        refine lv_iload hx hb d_Frame_layAlignments_155 (lv_at hl 7 rfl) ?_
                        refine lv_iload hx hb d_Frame_layAlignments_157 (lv_at hl 0 rfl) ?_
                        refine lv_iconst (v := (2 : Int32)) hx hb d_Frame_layAlignments_159 (by decide) ?_
                        refine lv_iconst (v := (5 : Int32)) hx hb d_Frame_layAlignments_160 (by decide) ?_
                        obtain ⟨b28, b29, hc30, Hf⟩ := sq_cb2_e Hf
                        refine sq_rwv (wn := (ww_Frame_layAlignments qt qt_dark qt_fixed qt_dark_words qt_fixed_words qt_maskRows ct_dark_words ct_fixed_words vt_side vt_next vt_x vt_y vt_dark_side vt_fixed_side b28 b29)) (va_runV (As := [.int x24, .int x26, .int (2 : Int32), .int (5 : Int32)]) (rest := []) ⟨hx, hb, hml, hown, ht⟩ (kt_Frame_layRings l dC dI qt qt_dark qt_fixed qt_dark_words qt_fixed_words qt_maskRows ct_dark_words ct_fixed_words vt_side vt_next vt_x vt_y vt_dark_side vt_fixed_side b14 b15 x24 x26 (2 : Int32) (5 : Int32) H.size n0 b28 b29 hc30) (cwV 4 ht (sq_gV tb_454 tb_456 sl_3 tb_9 tb_457) rfl rfl rfl (by decide +kernel) ⟨Nat.le_of_ble_eq_true rfl, Nat.le_of_ble_eq_true rfl⟩) (sq_rwV (hP.sub (ws' := (ww_Frame_layRings qt qt_dark qt_fixed qt_dark_words qt_fixed_words qt_maskRows ct_dark_words ct_fixed_words vt_side vt_next vt_x vt_y vt_dark_side vt_fixed_side b14 b15)) [0, 1, 2, 3, 4] rfl) (hK.sub (tys' := [(ct_dark_words, .long), (ct_fixed_words, .long)]) [0, 1] rfl) (hD.sub (ws' := (ww_Frame_layRings qt qt_dark qt_fixed qt_dark_words qt_fixed_words qt_maskRows ct_dark_words ct_fixed_words vt_side vt_next vt_x vt_y vt_dark_side vt_fixed_side b14 b15)) [0, 1, 2, 3, 4] (by decide) rfl) (va_recv hK hP (ci := 7) (q0 := 0) rfl rfl)) rfl rfl hl.1 rfl (lv_room (Nat.le_of_ble_eq_true rfl)) d_Frame_layAlignments_161 ⟨Nat.le_of_ble_eq_true rfl, Nat.le_of_ble_eq_true rfl⟩) hP hD hS hA [0, 1, 2, 3, 4] [] [0, 1, 2, 3, 4] rfl rfl (by decide) (by decide) rfl (by decide) (fun H locs hP hD hS => ?_)
                        exact Jk21 b28 b29 Hf _ _  hP hD hS _ (lv_sub hl [1, 2, 3, 4, 5, 6] rfl)
                      refine lv_if_ne (tgt := 137) hx hb d_Frame_layAlignments_129 (by decide) (fun c31 => ?_) (fun c31 => ?_)
                      · replace Hf := sq_ite_f Hf c31
                        refine lv_aload_n hx hb d_Frame_layAlignments_137 rfl (lv_at hl 1 rfl) ?_
                        refine va_get (D := (dC, dI)) (ci := 7) (v := .int vt_side) (C := R_Frame) (T := F_Frame) (N := 7) hx hb ht i_Frame hown hK hP 0 rfl rfl 3 (by decide) (ht _ tb_229) (fun _ h9 => h9) rfl d_Frame_layAlignments_138 ?_
                        refine lv_bipush (v := (7 : Int32)) hx hb d_Frame_layAlignments_141 (by decide) ?_
                        refine lv_isub hx hb d_Frame_layAlignments_143 ?_
                        refine lv_iload_n hx hb d_Frame_layAlignments_144 rfl (lv_at hl 3 rfl) ?_
                        refine lv_iload hx hb d_Frame_layAlignments_145 (lv_at hl 6 rfl) ?_
                        refine lv_isub hx hb d_Frame_layAlignments_147 ?_
                        refine lv_iload hx hb d_Frame_layAlignments_148 (lv_at hl 4 rfl) ?_
                        refine lv_imul hx hb d_Frame_layAlignments_150 ?_
                        refine lv_isub hx hb d_Frame_layAlignments_151 ?_
                        exact Jk27 ((vt_side - (7 : Int32)) - ((x2 - x13) * x3)) Hf _ _  hP hD hS _ (lv_sub hl [1, 2, 3, 4, 5, 6, 0] rfl)
                      · replace Hf := sq_ite_t Hf c31
                        refine lv_bipush (v := (6 : Int32)) hx hb d_Frame_layAlignments_132 (by decide) ?_
                        refine lv_goto (tgt := 152) hx hb d_Frame_layAlignments_134 (by decide) ?_
                        exact Jk27 (6 : Int32) Hf _ _  hP hD hS _ (lv_sub hl [1, 2, 3, 4, 5, 6, 0] rfl)
                    refine lv_if_ne (tgt := 110) hx hb d_Frame_layAlignments_102 (by decide) (fun c32 => ?_) (fun c32 => ?_)
                    · replace Hf := sq_ite_f Hf c32
                      refine lv_aload_n hx hb d_Frame_layAlignments_110 rfl (lv_at hl 1 rfl) ?_
                      refine va_get (D := (dC, dI)) (ci := 7) (v := .int vt_side) (C := R_Frame) (T := F_Frame) (N := 7) hx hb ht i_Frame hown hK hP 0 rfl rfl 3 (by decide) (ht _ tb_229) (fun _ h9 => h9) rfl d_Frame_layAlignments_111 ?_
                      refine lv_bipush (v := (7 : Int32)) hx hb d_Frame_layAlignments_114 (by decide) ?_
                      refine lv_isub hx hb d_Frame_layAlignments_116 ?_
                      refine lv_iload_n hx hb d_Frame_layAlignments_117 rfl (lv_at hl 3 rfl) ?_
                      refine lv_iload hx hb d_Frame_layAlignments_118 (lv_at hl 5 rfl) ?_
                      refine lv_isub hx hb d_Frame_layAlignments_120 ?_
                      refine lv_iload hx hb d_Frame_layAlignments_121 (lv_at hl 4 rfl) ?_
                      refine lv_imul hx hb d_Frame_layAlignments_123 ?_
                      refine lv_isub hx hb d_Frame_layAlignments_124 ?_
                      exact Jk25 ((vt_side - (7 : Int32)) - ((x2 - x5) * x3)) Hf _ _  hP hD hS _ (lv_sub hl [1, 2, 3, 4, 5, 6] rfl)
                    · replace Hf := sq_ite_t Hf c32
                      refine lv_bipush (v := (6 : Int32)) hx hb d_Frame_layAlignments_105 (by decide) ?_
                      refine lv_goto (tgt := 125) hx hb d_Frame_layAlignments_107 (by decide) ?_
                      exact Jk25 (6 : Int32) Hf _ _  hP hD hS _ (lv_sub hl [1, 2, 3, 4, 5, 6] rfl)
                obtain ⟨k33, hk33, Hf⟩ := sq_jn_e Hf
                have Jk33 : ∀ (_u : Unit), k33 _u = some (nvt_dark_words, nvt_fixed_words) → ∀ (H : Heap) (locs : List Loc), va_P (dC, dI) cl_All (ww_Frame_layAlignments qt qt_dark qt_fixed qt_dark_words qt_fixed_words qt_maskRows ct_dark_words ct_fixed_words vt_side vt_next vt_x vt_y vt_dark_side vt_fixed_side b14 b15) H → va_D A (ww_Frame_layAlignments qt qt_dark qt_fixed qt_dark_words qt_fixed_words qt_maskRows ct_dark_words ct_fixed_words vt_side vt_next vt_x vt_y vt_dark_side vt_fixed_side b14 b15) → va_S A s.heap H locs → ∀ ls : Array Slot, lv_has ls 10 [(0, .ref qt), (2, .int x1), (3, .int x2), (4, .int x3), (5, .int x5), (6, .int x13)] → W p l e (headSpec w_Frame_layAlignments rm_Frame_layAlignments).room s m (([.ref qt, .int p1] : List Value).toArray) below meth c H locs 0 0 (MQ below (qc_Frame_layAlignments dC dI A qt qt_dark qt_fixed qt_dark_words qt_fixed_words qt_maskRows ct_dark_words ct_fixed_words vt_side vt_next vt_x vt_y vt_dark_side vt_fixed_side nvt_dark_words nvt_fixed_words) (([.ref qt, .int p1] : List Value).toArray) s 0 0 A) (F0 m 88 ls []) := by
                  intro _u Hf H locs  hP hD hS ls hl
                  rw [hk33] at Hf
                  refine lv_iconst (v := (1 : Int32)) hx hb d_Frame_layAlignments_88 (by decide) ?_
                  refine lv_goto (tgt := 93) hx hb d_Frame_layAlignments_89 (by decide) ?_
                  exact Jk18 (1 : Int32) Hf _ _  hP hD hS _ (lv_sub hl [0, 1, 2, 3, 4, 5] rfl)
                obtain ⟨k34, hk34, Hf⟩ := sq_jn_e Hf
                have Jk34 : ∀ (_u : Unit), k34 _u = some (nvt_dark_words, nvt_fixed_words) → ∀ (H : Heap) (locs : List Loc), va_P (dC, dI) cl_All (ww_Frame_layAlignments qt qt_dark qt_fixed qt_dark_words qt_fixed_words qt_maskRows ct_dark_words ct_fixed_words vt_side vt_next vt_x vt_y vt_dark_side vt_fixed_side b14 b15) H → va_D A (ww_Frame_layAlignments qt qt_dark qt_fixed qt_dark_words qt_fixed_words qt_maskRows ct_dark_words ct_fixed_words vt_side vt_next vt_x vt_y vt_dark_side vt_fixed_side b14 b15) → va_S A s.heap H locs → ∀ ls : Array Slot, lv_has ls 10 [(0, .ref qt), (2, .int x1), (3, .int x2), (4, .int x3), (5, .int x5), (6, .int x13)] → W p l e (headSpec w_Frame_layAlignments rm_Frame_layAlignments).room s m (([.ref qt, .int p1] : List Value).toArray) below meth c H locs 0 0 (MQ below (qc_Frame_layAlignments dC dI A qt qt_dark qt_fixed qt_dark_words qt_fixed_words qt_maskRows ct_dark_words ct_fixed_words vt_side vt_next vt_x vt_y vt_dark_side vt_fixed_side nvt_dark_words nvt_fixed_words) (([.ref qt, .int p1] : List Value).toArray) s 0 0 A) (F0 m 77 ls []) := by
                  intro _u Hf H locs  hP hD hS ls hl
                  rw [hk34] at Hf
                  refine lv_iload hx hb d_Frame_layAlignments_77 (lv_at hl 4 rfl) ?_
                  refine lv_iload_n hx hb d_Frame_layAlignments_79 rfl (lv_at hl 2 rfl) ?_
                  obtain ⟨k35, hk35, Hf⟩ := sq_jn_e Hf
                  have Jk35 : ∀ (_u : Unit), k35 _u = some (nvt_dark_words, nvt_fixed_words) → ∀ (H : Heap) (locs : List Loc), va_P (dC, dI) cl_All (ww_Frame_layAlignments qt qt_dark qt_fixed qt_dark_words qt_fixed_words qt_maskRows ct_dark_words ct_fixed_words vt_side vt_next vt_x vt_y vt_dark_side vt_fixed_side b14 b15) H → va_D A (ww_Frame_layAlignments qt qt_dark qt_fixed qt_dark_words qt_fixed_words qt_maskRows ct_dark_words ct_fixed_words vt_side vt_next vt_x vt_y vt_dark_side vt_fixed_side b14 b15) → va_S A s.heap H locs → ∀ ls : Array Slot, lv_has ls 10 [(0, .ref qt), (2, .int x1), (3, .int x2), (4, .int x3), (5, .int x5), (6, .int x13)] → W p l e (headSpec w_Frame_layAlignments rm_Frame_layAlignments).room s m (([.ref qt, .int p1] : List Value).toArray) below meth c H locs 0 0 (MQ below (qc_Frame_layAlignments dC dI A qt qt_dark qt_fixed qt_dark_words qt_fixed_words qt_maskRows ct_dark_words ct_fixed_words vt_side vt_next vt_x vt_y vt_dark_side vt_fixed_side nvt_dark_words nvt_fixed_words) (([.ref qt, .int p1] : List Value).toArray) s 0 0 A) (F0 m 92 ls []) := by
                    intro _u Hf H locs  hP hD hS ls hl
                    rw [hk35] at Hf
                    refine lv_iconst (v := (0 : Int32)) hx hb d_Frame_layAlignments_92 (by decide) ?_
                    exact Jk18 (0 : Int32) Hf _ _  hP hD hS _ (lv_sub hl [0, 1, 2, 3, 4, 5] rfl)
                  refine lv_icmp_ne (tgt := 92) hx hb d_Frame_layAlignments_80 (by decide) (fun c36 => ?_) (fun c36 => ?_)
                  · replace Hf := sq_ite_f Hf c36
                    exact Jk35 () Hf _ _  hP hD hS _ (lv_sub hl [0, 1, 2, 3, 4, 5] rfl)
                  · replace Hf := sq_ite_t Hf c36
                    refine lv_iload hx hb d_Frame_layAlignments_83 (lv_at hl 5 rfl) ?_
                    refine lv_if_ne (tgt := 92) hx hb d_Frame_layAlignments_85 (by decide) (fun c37 => ?_) (fun c37 => ?_)
                    · replace Hf := sq_ite_f Hf c37
                      exact Jk35 () Hf _ _  hP hD hS _ (lv_sub hl [0, 1, 2, 3, 4, 5] rfl)
                    · replace Hf := sq_ite_t Hf c37
                      exact Jk33 () Hf _ _  hP hD hS _ (lv_sub hl [0, 1, 2, 3, 4, 5] rfl)
                refine lv_if_ne (tgt := 77) hx hb d_Frame_layAlignments_63 (by decide) (fun c38 => ?_) (fun c38 => ?_)
                · replace Hf := sq_ite_f Hf c38
                  exact Jk34 () Hf _ _  hP hD hS _ (lv_sub hl [0, 1, 2, 3, 4, 5] rfl)
                · replace Hf := sq_ite_t Hf c38
                  refine lv_iload hx hb d_Frame_layAlignments_66 (lv_at hl 5 rfl) ?_
                  refine lv_if_eq (tgt := 88) hx hb d_Frame_layAlignments_68 (by decide) (fun c39 => ?_) (fun c39 => ?_)
                  · replace Hf := sq_ite_t Hf c39
                    exact Jk33 () Hf _ _  hP hD hS _ (lv_sub hl [0, 1, 2, 3, 4, 5] rfl)
                  · replace Hf := sq_ite_f Hf c39
                    refine lv_iload hx hb d_Frame_layAlignments_71 (lv_at hl 5 rfl) ?_
                    refine lv_iload_n hx hb d_Frame_layAlignments_73 rfl (lv_at hl 2 rfl) ?_
                    refine lv_icmp_eq (tgt := 88) hx hb d_Frame_layAlignments_74 (by decide) (fun c40 => ?_) (fun c40 => ?_)
                    · replace Hf := sq_ite_t Hf c40
                      exact Jk33 () Hf _ _  hP hD hS _ (lv_sub hl [0, 1, 2, 3, 4, 5] rfl)
                    · replace Hf := sq_ite_f Hf c40
                      exact Jk34 () Hf _ _  hP hD hS _ (lv_sub hl [0, 1, 2, 3, 4, 5] rfl)
          exact L2 n0 (0 : Int32) b6 b7 Hf _ _  hP hD hS _ (lv_sub hl [1, 2, 3, 4, 5, 0] rfl)
    exact L1 n0 (0 : Int32) vt_dark_words vt_fixed_words Hf _ _  hP hD hS _ (lv_sub hl [2, 3, 4, 1, 0] rfl)
  refine lv_icmp_ne (tgt := 22) hx hb d_Frame_layAlignments_14 (by decide) (fun c41 => ?_) (fun c41 => ?_)
  · replace Hf := sq_ite_f Hf c41
    refine lv_iconst (v := (4 : Int32)) hx hb d_Frame_layAlignments_22 (by decide) ?_
    refine lv_iload_n hx hb d_Frame_layAlignments_23 rfl (lv_at hl 3 rfl) ?_
    refine lv_imul hx hb d_Frame_layAlignments_24 ?_
    refine lv_iconst (v := (2 : Int32)) hx hb d_Frame_layAlignments_25 (by decide) ?_
    refine lv_iload_n hx hb d_Frame_layAlignments_26 rfl (lv_at hl 1 rfl) ?_
    refine lv_imul hx hb d_Frame_layAlignments_27 ?_
    refine lv_iadd hx hb d_Frame_layAlignments_28 ?_
    refine lv_iconst (v := (1 : Int32)) hx hb d_Frame_layAlignments_29 (by decide) ?_
    refine lv_iadd hx hb d_Frame_layAlignments_30 ?_
    refine lv_iconst (v := (1 : Int32)) hx hb d_Frame_layAlignments_31 (by decide) ?_
    refine lv_iconst (v := (2 : Int32)) hx hb d_Frame_layAlignments_32 (by decide) ?_
    refine lv_iload_n hx hb d_Frame_layAlignments_33 rfl (lv_at hl 0 rfl) ?_
    refine lv_imul hx hb d_Frame_layAlignments_34 ?_
    obtain ⟨x42, ex42, Hf⟩ := sq_bd_e Hf
    refine sq_top ex42 ?_
    refine va_mmax hx hb (by rw [hml]; exact hl.1.symm) hown (ht _ tb_461) (ht _ tb_416) (ht _ tb_17) (ht _ tb_417) (Nat.le_of_ble_eq_true rfl) (Nat.le_of_ble_eq_true rfl) (Nat.zero_le _) (Nat.zero_le _) d_Frame_layAlignments_35 ?_
    obtain ⟨x43, ex43, Hf⟩ := sq_bd_e Hf
    refine sq_top ex43 ?_
    obtain ⟨hz44, Hf⟩ := sq_gz_e Hf
    refine lv_idiv hx hb d_Frame_layAlignments_38 hz44 ?_
    refine lv_iconst (v := (2 : Int32)) hx hb d_Frame_layAlignments_39 (by decide) ?_
    refine lv_imul hx hb d_Frame_layAlignments_40 ?_
    exact Jk4 ((((((4 : Int32) * p1) + ((2 : Int32) * x1)) + (1 : Int32)) / x43) * (2 : Int32)) Hf _ _  hP hD hS _ (lv_sub hl [2, 1, 0] rfl)
  · replace Hf := sq_ite_t Hf c41
    refine lv_bipush (v := (26 : Int32)) hx hb d_Frame_layAlignments_17 (by decide) ?_
    refine lv_goto (tgt := 41) hx hb d_Frame_layAlignments_19 (by decide) ?_
    exact Jk4 (26 : Int32) Hf _ _  hP hD hS _ (lv_sub hl [2, 1, 0] rfl)

def fn_Frame_layVersion_L1 (vt_side : Int32) (vt_dark_side : Int32) (vt_fixed_side : Int32) (r1 : Int32) : Nat → Int32 → (Nat → Int64) → (Nat → Int64) → Option ((Nat → Int64) × (Nat → Int64))
  | 0, _, _, _ => none
  | m1 + 1, x3, b4, b5 => if (18 : Int32) ≤ x3 then (some (b4, b5)) else (sq_jn (fun (x7 : Int32) => sq_bd (sq_rem x3 (3 : Int32)) fun x9 => sq_cb2 (fn_Frame_fix ((vt_side - (11 : Int32)) + x9) (x3 / (3 : Int32)) x7 vt_dark_side vt_fixed_side b4 b5) fun b10 b11 => sq_bd (sq_rem x3 (3 : Int32)) fun x13 => sq_cb2 (fn_Frame_fix (x3 / (3 : Int32)) ((vt_side - (11 : Int32)) + x13) x7 vt_dark_side vt_fixed_side b10 b11) fun b14 b15 => sq_bd (x3 + (1 : Int32)) fun x17 => fn_Frame_layVersion_L1 vt_side vt_dark_side vt_fixed_side r1 m1 x17 b14 b15) fun k8 => if ((r1 >>> (x3 &&& 31)) &&& (1 : Int32)) = (1 : Int32) then (k8 (1 : Int32)) else (k8 (0 : Int32)))
theorem fn_Frame_layVersion_L1_s (vt_side : Int32) (vt_dark_side : Int32) (vt_fixed_side : Int32) (r1 : Int32) (m1 : Nat) (x3 : Int32) (b4 : Nat → Int64) (b5 : Nat → Int64) : fn_Frame_layVersion_L1 vt_side vt_dark_side vt_fixed_side r1 (m1 + 1) x3 b4 b5 = if (18 : Int32) ≤ x3 then (some (b4, b5)) else (sq_jn (fun (x7 : Int32) => sq_bd (sq_rem x3 (3 : Int32)) fun x9 => sq_cb2 (fn_Frame_fix ((vt_side - (11 : Int32)) + x9) (x3 / (3 : Int32)) x7 vt_dark_side vt_fixed_side b4 b5) fun b10 b11 => sq_bd (sq_rem x3 (3 : Int32)) fun x13 => sq_cb2 (fn_Frame_fix (x3 / (3 : Int32)) ((vt_side - (11 : Int32)) + x13) x7 vt_dark_side vt_fixed_side b10 b11) fun b14 b15 => sq_bd (x3 + (1 : Int32)) fun x17 => fn_Frame_layVersion_L1 vt_side vt_dark_side vt_fixed_side r1 m1 x17 b14 b15) fun k8 => if ((r1 >>> (x3 &&& 31)) &&& (1 : Int32)) = (1 : Int32) then (k8 (1 : Int32)) else (k8 (0 : Int32))) := rfl
def fn_Frame_layVersion (n0 : Nat) (p1 : Int32) (vt_side : Int32) (vt_dark_side : Int32) (vt_fixed_side : Int32) (vt_dark_words : Nat → Int64) (vt_fixed_words : Nat → Int64) : Option ((Nat → Int64) × (Nat → Int64)) :=
  sq_cb1 (fn_Frame_withRest n0 p1 (12 : Int32) (7973 : Int32)) fun r1 => fn_Frame_layVersion_L1 vt_side vt_dark_side vt_fixed_side r1 n0 (0 : Int32) vt_dark_words vt_fixed_words
abbrev ww_Frame_layVersion (qt qt_dark qt_fixed qt_dark_words qt_fixed_words qt_maskRows : Nat) (ct_dark_words ct_fixed_words : ClassId) (vt_side : Int32) (vt_next : Int32) (vt_x : Int32) (vt_y : Int32) (vt_dark_side : Int32) (vt_fixed_side : Int32) (vt_dark_words : Nat → Int64) (vt_fixed_words : Nat → Int64) : va_W := [(qt, .inr (7, [.ref qt_fixed, .ref qt_dark, .ref qt_maskRows, .int vt_side, .int vt_next, .int vt_x, .int vt_y])), (qt_dark, .inr (6, [.ref qt_dark_words, .int vt_dark_side])), (qt_fixed, .inr (6, [.ref qt_fixed_words, .int vt_fixed_side])), (qt_dark_words, .inl (ct_dark_words, 531, .inr (.inl vt_dark_words))), (qt_fixed_words, .inl (ct_fixed_words, 531, .inr (.inl vt_fixed_words)))]

def rm_Frame_layVersion : Room := { frames := 3, cells := 0, slots := 0, locals := 71 }
abbrev qc_Frame_layVersion (dC : Nat → ClassId) (dI : Nat → Nat → Nat) (A : Nat → Prop) (qt qt_dark qt_fixed qt_dark_words qt_fixed_words qt_maskRows : Nat) (ct_dark_words ct_fixed_words : ClassId) (vt_side : Int32) (vt_next : Int32) (vt_x : Int32) (vt_y : Int32) (vt_dark_side : Int32) (vt_fixed_side : Int32) (vt_dark_words : Nat → Int64) (vt_fixed_words : Nat → Int64) : Array Value → State → Outcome → State → Prop := va_Qv (fun (_ : Unit) => True) (fun _ t => va_P (dC, dI) cl_All (ww_Frame_layVersion qt qt_dark qt_fixed qt_dark_words qt_fixed_words qt_maskRows ct_dark_words ct_fixed_words vt_side vt_next vt_x vt_y vt_dark_side vt_fixed_side vt_dark_words vt_fixed_words) t.heap ∧ va_D A (ww_Frame_layVersion qt qt_dark qt_fixed qt_dark_words qt_fixed_words qt_maskRows ct_dark_words ct_fixed_words vt_side vt_next vt_x vt_y vt_dark_side vt_fixed_side vt_dark_words vt_fixed_words)) A

set_option maxHeartbeats 4000000 in
set_option maxRecDepth 100000 in
theorem kt_Frame_layVersion (l : Launch) (dC : Nat → ClassId) (dI : Nat → Nat → Nat) (qt qt_dark qt_fixed qt_dark_words qt_fixed_words qt_maskRows : Nat) (ct_dark_words ct_fixed_words : ClassId) (vt_side : Int32) (vt_next : Int32) (vt_x : Int32) (vt_y : Int32) (vt_dark_side : Int32) (vt_fixed_side : Int32) (vt_dark_words : Nat → Int64) (vt_fixed_words : Nat → Int64) (p1 : Int32) (sz : Nat) (n0 : Nat) (nvt_dark_words : Nat → Int64) (nvt_fixed_words : Nat → Int64) (Hf : fn_Frame_layVersion n0 p1 vt_side vt_dark_side vt_fixed_side vt_dark_words vt_fixed_words = some (nvt_dark_words, nvt_fixed_words)) : Met l y_Frame_layVersion w_Frame_layVersion rm_Frame_layVersion (va_Pc [.ref qt, .int p1] (fun U => U.heap.size = sz ∧ va_P (dC, dI) cl_All (ww_Frame_layVersion qt qt_dark qt_fixed qt_dark_words qt_fixed_words qt_maskRows ct_dark_words ct_fixed_words vt_side vt_next vt_x vt_y vt_dark_side vt_fixed_side vt_dark_words vt_fixed_words) U.heap ∧ va_K (dC, dI) cl_All [(ct_dark_words, .long), (ct_fixed_words, .long)] U ∧ va_D (fun _ => True) (ww_Frame_layVersion qt qt_dark qt_fixed qt_dark_words qt_fixed_words qt_maskRows ct_dark_words ct_fixed_words vt_side vt_next vt_x vt_y vt_dark_side vt_fixed_side vt_dark_words vt_fixed_words))) (qc_Frame_layVersion dC dI (va_A (ww_Frame_layVersion qt qt_dark qt_fixed qt_dark_words qt_fixed_words qt_maskRows ct_dark_words ct_fixed_words vt_side vt_next vt_x vt_y vt_dark_side vt_fixed_side vt_dark_words vt_fixed_words) sz) qt qt_dark qt_fixed qt_dark_words qt_fixed_words qt_maskRows ct_dark_words ct_fixed_words vt_side vt_next vt_x vt_y vt_dark_side vt_fixed_side nvt_dark_words nvt_fixed_words) 0 0 (va_A (ww_Frame_layVersion qt qt_dark qt_fixed qt_dark_words qt_fixed_words qt_maskRows ct_dark_words ct_fixed_words vt_side vt_next vt_x vt_y vt_dark_side vt_fixed_side vt_dark_words vt_fixed_words) sz) := by
  refine Met.ofW (cc := prog_6_method_6_code) (maxL := 5) (ret := none) (by decide) rfl ?_
  intro p e s m args below meth c s₁ B hml hv
  obtain ⟨rfl, hsz, hP, hK, hD0⟩ := hv
  have hx := B.exec; have hb := B.bytes; have hr := B.returns; have hlocks := B.notSynchronized
  have ht : ∀ w ∈ lw_g, w.before _ s = true := fun w h => atoms_spec (ws := w_Frame_layVersion) B.pre w (List.mem_cons_of_mem _ h)
  have hown : s.vm.findClass "SquareSymbols$Frame" = some m.cls := findClass_of_methodNamed B.named
  subst hsz
  have hD := hD0.self (sz := s.heap.size)
  generalize hAe : va_A (ww_Frame_layVersion qt qt_dark qt_fixed qt_dark_words qt_fixed_words qt_maskRows ct_dark_words ct_fixed_words vt_side vt_next vt_x vt_y vt_dark_side vt_fixed_side vt_dark_words vt_fixed_words) s.heap.size = A at hD ⊢
  have hA : ∀ q : Nat, s.heap.size ≤ q → A q := fun q h => by rw [← hAe]; exact Or.inr h
  have hS : va_S A s.heap s.heap [] := va_S.rf
  have hl := lv_entry ([.ref qt, .int p1]) (n := 5) (Nat.le_of_ble_eq_true rfl)
  rw [lg_entry_eq]
  generalize (lg_sl ([.ref qt, .int p1]) ++ List.replicate (5 - (lg_sl ([.ref qt, .int p1])).length) Slot.unset).toArray = ls at hl ⊢
  have hl : lv_has ls 5 [(0, .ref qt), (1, .int p1)] := hl
  refine lv_iload_n hx hb d_Frame_layVersion_0 rfl (lv_at hl 1 rfl) ?_
  refine lv_bipush (v := (12 : Int32)) hx hb d_Frame_layVersion_1 (by decide) ?_
  refine lv_sipush (v := (7973 : Int32)) hx hb d_Frame_layVersion_3 (by decide) ?_
  obtain ⟨r1, hc2, Hf⟩ := sq_cb1_e Hf
  refine sq_roi (va_runS (As := [.int p1, .int (12 : Int32), .int (7973 : Int32)]) (rest := []) ⟨hx, hb, hml, hown, ht⟩ (kt_Frame_withRest l dC dI p1 (12 : Int32) (7973 : Int32) n0 r1 hc2) (va_cwS 3 ht (sq_gS tb_387 tb_388 tb_9 tb_389) rfl rfl rfl (by decide +kernel) ⟨Nat.le_of_ble_eq_true rfl, Nat.le_of_ble_eq_true rfl⟩) (sq_roS (hP.sub (ws' := ([] : va_W)) [] rfl) (hK.sub (tys' := []) [] rfl)) rfl rfl hl.1 rfl (lv_room (Nat.le_of_ble_eq_true rfl)) d_Frame_layVersion_6 ⟨Nat.le_of_ble_eq_true rfl, Nat.le_of_ble_eq_true rfl⟩) ?_
  refine lv_istore_n (lv' := [(2, .int r1), (0, .ref qt), (1, .int p1)]) hx hb d_Frame_layVersion_9 rfl hl (by decide) rfl (fun ls hl => ?_)
  refine lv_iconst (v := (0 : Int32)) hx hb d_Frame_layVersion_10 (by decide) ?_
  refine lv_istore_n (lv' := [(3, .int (0 : Int32)), (2, .int r1), (0, .ref qt), (1, .int p1)]) hx hb d_Frame_layVersion_11 rfl hl (by decide) rfl (fun ls hl => ?_)
  have L1 : ∀ (m1 : Nat), ∀ (x3 : Int32) (b4 : Nat → Int64) (b5 : Nat → Int64), fn_Frame_layVersion_L1 vt_side vt_dark_side vt_fixed_side r1 m1 x3 b4 b5 = some (nvt_dark_words, nvt_fixed_words) → ∀ (H : Heap) (locs : List Loc), va_P (dC, dI) cl_All (ww_Frame_layVersion qt qt_dark qt_fixed qt_dark_words qt_fixed_words qt_maskRows ct_dark_words ct_fixed_words vt_side vt_next vt_x vt_y vt_dark_side vt_fixed_side b4 b5) H → va_D A (ww_Frame_layVersion qt qt_dark qt_fixed qt_dark_words qt_fixed_words qt_maskRows ct_dark_words ct_fixed_words vt_side vt_next vt_x vt_y vt_dark_side vt_fixed_side b4 b5) → va_S A s.heap H locs → ∀ ls : Array Slot, lv_has ls 5 [(0, .ref qt), (2, .int r1), (3, .int x3)] → W p l e (headSpec w_Frame_layVersion rm_Frame_layVersion).room s m (([.ref qt, .int p1] : List Value).toArray) below meth c H locs 0 0 (MQ below (qc_Frame_layVersion dC dI A qt qt_dark qt_fixed qt_dark_words qt_fixed_words qt_maskRows ct_dark_words ct_fixed_words vt_side vt_next vt_x vt_y vt_dark_side vt_fixed_side nvt_dark_words nvt_fixed_words) (([.ref qt, .int p1] : List Value).toArray) s 0 0 A) (F0 m 12 ls []) := by
    intro m1
    induction m1 with
    | zero => intro x3 b4 b5 Hf; exact sq_none Hf
    | succ m1 ih1 =>
      intro x3 b4 b5 Hf H locs  hP hD hS ls hl
      replace Hf := (fn_Frame_layVersion_L1_s vt_side vt_dark_side vt_fixed_side r1 m1 x3 b4 b5).symm.trans Hf
      refine lv_iload_n hx hb d_Frame_layVersion_12 rfl (lv_at hl 2 rfl) ?_
      refine lv_bipush (v := (18 : Int32)) hx hb d_Frame_layVersion_13 (by decide) ?_
      refine lv_icmp_ge (tgt := 80) hx hb d_Frame_layVersion_15 (by decide) (fun c6 => ?_) (fun c6 => ?_)
      · replace Hf := sq_ite_t Hf c6
        obtain ⟨rfl, rfl⟩ := sq_so2 Hf
        exact W.vret hx hb hr (fun t ht hW => ⟨⟨(), rfl, trivial, by rw [ht]; exact hP, hD⟩, hS.F ht⟩) hS.2.2 d_Frame_layVersion_80
      · replace Hf := sq_ite_f Hf c6
        refine lv_iload_n hx hb d_Frame_layVersion_18 rfl (lv_at hl 1 rfl) ?_
        refine lv_iload_n hx hb d_Frame_layVersion_19 rfl (lv_at hl 2 rfl) ?_
        refine lv_ishr hx hb d_Frame_layVersion_20 ?_
        refine lv_iconst (v := (1 : Int32)) hx hb d_Frame_layVersion_21 (by decide) ?_
        refine lv_iand hx hb d_Frame_layVersion_22 ?_
        refine lv_iconst (v := (1 : Int32)) hx hb d_Frame_layVersion_23 (by decide) ?_
        obtain ⟨k8, hk8, Hf⟩ := sq_jn_e Hf
        have Jk8 : ∀ (x7 : Int32), k8 x7 = some (nvt_dark_words, nvt_fixed_words) → ∀ (H : Heap) (locs : List Loc), va_P (dC, dI) cl_All (ww_Frame_layVersion qt qt_dark qt_fixed qt_dark_words qt_fixed_words qt_maskRows ct_dark_words ct_fixed_words vt_side vt_next vt_x vt_y vt_dark_side vt_fixed_side b4 b5) H → va_D A (ww_Frame_layVersion qt qt_dark qt_fixed qt_dark_words qt_fixed_words qt_maskRows ct_dark_words ct_fixed_words vt_side vt_next vt_x vt_y vt_dark_side vt_fixed_side b4 b5) → va_S A s.heap H locs → ∀ ls : Array Slot, lv_has ls 5 [(0, .ref qt), (2, .int r1), (3, .int x3)] → W p l e (headSpec w_Frame_layVersion rm_Frame_layVersion).room s m (([.ref qt, .int p1] : List Value).toArray) below meth c H locs 0 0 (MQ below (qc_Frame_layVersion dC dI A qt qt_dark qt_fixed qt_dark_words qt_fixed_words qt_maskRows ct_dark_words ct_fixed_words vt_side vt_next vt_x vt_y vt_dark_side vt_fixed_side nvt_dark_words nvt_fixed_words) (([.ref qt, .int p1] : List Value).toArray) s 0 0 A) (F0 m 32 ls [.int x7]) := by
          intro x7 Hf H locs  hP hD hS ls hl
          rw [hk8] at Hf
          refine lv_istore (lv' := [(4, .int x7), (0, .ref qt), (2, .int r1), (3, .int x3)]) hx hb d_Frame_layVersion_32 hl (by decide) rfl (fun ls hl => ?_)
          refine lv_aload_n hx hb d_Frame_layVersion_34 rfl (lv_at hl 1 rfl) ?_
          refine lv_aload_n hx hb d_Frame_layVersion_35 rfl (lv_at hl 1 rfl) ?_
          refine va_get (D := (dC, dI)) (ci := 7) (v := .int vt_side) (C := R_Frame) (T := F_Frame) (N := 7) hx hb ht i_Frame hown hK hP 0 rfl rfl 3 (by decide) (ht _ tb_229) (fun _ h9 => h9) rfl d_Frame_layVersion_36 ?_
          refine lv_bipush (v := (11 : Int32)) hx hb d_Frame_layVersion_39 (by decide) ?_
          refine lv_isub hx hb d_Frame_layVersion_41 ?_
          refine lv_iload_n hx hb d_Frame_layVersion_42 rfl (lv_at hl 3 rfl) ?_
          refine lv_iconst (v := (3 : Int32)) hx hb d_Frame_layVersion_43 (by decide) ?_
          refine lv_irem hx hb d_Frame_layVersion_44 (by decide) ?_
          obtain ⟨x9, ex9, Hf⟩ := sq_bd_e Hf
          refine sq_top ex9 ?_
          refine lv_iadd hx hb d_Frame_layVersion_45 ?_
          refine lv_iload_n hx hb d_Frame_layVersion_46 rfl (lv_at hl 3 rfl) ?_
          refine lv_iconst (v := (3 : Int32)) hx hb d_Frame_layVersion_47 (by decide) ?_
          refine lv_idiv hx hb d_Frame_layVersion_48 (by decide) ?_
          refine lv_iload hx hb d_Frame_layVersion_49 (lv_at hl 0 rfl) ?_
          obtain ⟨b10, b11, hc12, Hf⟩ := sq_cb2_e Hf
          refine sq_rwv (wn := (ww_Frame_layVersion qt qt_dark qt_fixed qt_dark_words qt_fixed_words qt_maskRows ct_dark_words ct_fixed_words vt_side vt_next vt_x vt_y vt_dark_side vt_fixed_side b10 b11)) (va_runV (As := [.int ((vt_side - (11 : Int32)) + x9), .int (x3 / (3 : Int32)), .int x7]) (rest := []) ⟨hx, hb, hml, hown, ht⟩ (kt_Frame_fix l dC dI qt qt_dark qt_fixed qt_dark_words qt_fixed_words qt_maskRows ct_dark_words ct_fixed_words vt_side vt_next vt_x vt_y vt_dark_side vt_fixed_side b4 b5 ((vt_side - (11 : Int32)) + x9) (x3 / (3 : Int32)) x7 H.size b10 b11 hc12) (cwV 3 ht (sq_gV tb_445 tb_447 sl_2 tb_9 tb_448) rfl rfl rfl (by decide +kernel) ⟨Nat.le_of_ble_eq_true rfl, Nat.le_of_ble_eq_true rfl⟩) (sq_rwV (hP.sub (ws' := (ww_Frame_fix qt qt_dark qt_fixed qt_dark_words qt_fixed_words qt_maskRows ct_dark_words ct_fixed_words vt_side vt_next vt_x vt_y vt_dark_side vt_fixed_side b4 b5)) [0, 1, 2, 3, 4] rfl) (hK.sub (tys' := [(ct_dark_words, .long), (ct_fixed_words, .long)]) [0, 1] rfl) (hD.sub (ws' := (ww_Frame_fix qt qt_dark qt_fixed qt_dark_words qt_fixed_words qt_maskRows ct_dark_words ct_fixed_words vt_side vt_next vt_x vt_y vt_dark_side vt_fixed_side b4 b5)) [0, 1, 2, 3, 4] (by decide) rfl) (va_recv hK hP (ci := 7) (q0 := 0) rfl rfl)) rfl rfl hl.1 rfl (lv_room (Nat.le_of_ble_eq_true rfl)) d_Frame_layVersion_51 ⟨Nat.le_of_ble_eq_true rfl, Nat.le_of_ble_eq_true rfl⟩) hP hD hS hA [0, 1, 2, 3, 4] [] [0, 1, 2, 3, 4] rfl rfl (by decide) (by decide) rfl (by decide) (fun H locs hP hD hS => ?_)
          refine lv_aload_n hx hb d_Frame_layVersion_54 rfl (lv_at hl 1 rfl) ?_
          refine lv_iload_n hx hb d_Frame_layVersion_55 rfl (lv_at hl 3 rfl) ?_
          refine lv_iconst (v := (3 : Int32)) hx hb d_Frame_layVersion_56 (by decide) ?_
          refine lv_idiv hx hb d_Frame_layVersion_57 (by decide) ?_
          refine lv_aload_n hx hb d_Frame_layVersion_58 rfl (lv_at hl 1 rfl) ?_
          refine va_get (D := (dC, dI)) (ci := 7) (v := .int vt_side) (C := R_Frame) (T := F_Frame) (N := 7) hx hb ht i_Frame hown hK hP 0 rfl rfl 3 (by decide) (ht _ tb_229) (fun _ h9 => h9) rfl d_Frame_layVersion_59 ?_
          refine lv_bipush (v := (11 : Int32)) hx hb d_Frame_layVersion_62 (by decide) ?_
          refine lv_isub hx hb d_Frame_layVersion_64 ?_
          refine lv_iload_n hx hb d_Frame_layVersion_65 rfl (lv_at hl 3 rfl) ?_
          refine lv_iconst (v := (3 : Int32)) hx hb d_Frame_layVersion_66 (by decide) ?_
          refine lv_irem hx hb d_Frame_layVersion_67 (by decide) ?_
          obtain ⟨x13, ex13, Hf⟩ := sq_bd_e Hf
          refine sq_top ex13 ?_
          refine lv_iadd hx hb d_Frame_layVersion_68 ?_
          refine lv_iload hx hb d_Frame_layVersion_69 (lv_at hl 0 rfl) ?_
          obtain ⟨b14, b15, hc16, Hf⟩ := sq_cb2_e Hf
          refine sq_rwv (wn := (ww_Frame_layVersion qt qt_dark qt_fixed qt_dark_words qt_fixed_words qt_maskRows ct_dark_words ct_fixed_words vt_side vt_next vt_x vt_y vt_dark_side vt_fixed_side b14 b15)) (va_runV (As := [.int (x3 / (3 : Int32)), .int ((vt_side - (11 : Int32)) + x13), .int x7]) (rest := []) ⟨hx, hb, hml, hown, ht⟩ (kt_Frame_fix l dC dI qt qt_dark qt_fixed qt_dark_words qt_fixed_words qt_maskRows ct_dark_words ct_fixed_words vt_side vt_next vt_x vt_y vt_dark_side vt_fixed_side b10 b11 (x3 / (3 : Int32)) ((vt_side - (11 : Int32)) + x13) x7 H.size b14 b15 hc16) (cwV 3 ht (sq_gV tb_445 tb_447 sl_2 tb_9 tb_448) rfl rfl rfl (by decide +kernel) ⟨Nat.le_of_ble_eq_true rfl, Nat.le_of_ble_eq_true rfl⟩) (sq_rwV (hP.sub (ws' := (ww_Frame_fix qt qt_dark qt_fixed qt_dark_words qt_fixed_words qt_maskRows ct_dark_words ct_fixed_words vt_side vt_next vt_x vt_y vt_dark_side vt_fixed_side b10 b11)) [0, 1, 2, 3, 4] rfl) (hK.sub (tys' := [(ct_dark_words, .long), (ct_fixed_words, .long)]) [0, 1] rfl) (hD.sub (ws' := (ww_Frame_fix qt qt_dark qt_fixed qt_dark_words qt_fixed_words qt_maskRows ct_dark_words ct_fixed_words vt_side vt_next vt_x vt_y vt_dark_side vt_fixed_side b10 b11)) [0, 1, 2, 3, 4] (by decide) rfl) (va_recv hK hP (ci := 7) (q0 := 0) rfl rfl)) rfl rfl hl.1 rfl (lv_room (Nat.le_of_ble_eq_true rfl)) d_Frame_layVersion_71 ⟨Nat.le_of_ble_eq_true rfl, Nat.le_of_ble_eq_true rfl⟩) hP hD hS hA [0, 1, 2, 3, 4] [] [0, 1, 2, 3, 4] rfl rfl (by decide) (by decide) rfl (by decide) (fun H locs hP hD hS => ?_)
          obtain ⟨x17, ex17, Hf⟩ := sq_bd_e Hf
          refine lv_iinc (v := x17) (lv' := [(3, .int x17), (4, .int x7), (0, .ref qt), (2, .int r1)]) hx hb d_Frame_layVersion_74 hl (k := 3) rfl (by rw [ex17]; rfl) (by decide) rfl (fun ls hl => ?_)
          refine lv_goto (tgt := 12) hx hb d_Frame_layVersion_77 (by decide) ?_
          exact ih1 x17 b14 b15 Hf _ _  hP hD hS _ (lv_sub hl [2, 3, 0] rfl)
        refine lv_icmp_ne (tgt := 31) hx hb d_Frame_layVersion_24 (by decide) (fun c18 => ?_) (fun c18 => ?_)
        · replace Hf := sq_ite_f Hf c18
          refine lv_iconst (v := (0 : Int32)) hx hb d_Frame_layVersion_31 (by decide) ?_
          exact Jk8 (0 : Int32) Hf _ _  hP hD hS _ (lv_sub hl [0, 1, 2] rfl)
        · replace Hf := sq_ite_t Hf c18
          refine lv_iconst (v := (1 : Int32)) hx hb d_Frame_layVersion_27 (by decide) ?_
          refine lv_goto (tgt := 32) hx hb d_Frame_layVersion_28 (by decide) ?_
          exact Jk8 (1 : Int32) Hf _ _  hP hD hS _ (lv_sub hl [0, 1, 2] rfl)
  exact L1 n0 (0 : Int32) vt_dark_words vt_fixed_words Hf _ _  hP hD hS _ (lv_sub hl [2, 1, 0] rfl)

def fn_Frame_lay_L1 (r1 : Int32) (y3 : Int32) (y6 : Int32) (k29 : (Nat → Int64) → (Nat → Int64) → Option (Int32 × Int32 × Int32 × (Nat → Int64) × (Nat → Int64))) : Nat → Int32 → (Nat → Int64) → (Nat → Int64) → Option (Int32 × Int32 × Int32 × (Nat → Int64) × (Nat → Int64))
  | 0, _, _, _ => none
  | m1 + 1, x34, b35, b36 => if (15 : Int32) ≤ x34 then (k29 b35 b36) else (sq_cb1 (fn_Frame_formX (0 : Int32) x34 r1) fun r38 => sq_cb1 (fn_Frame_formY (0 : Int32) x34 r1) fun r40 => sq_cb2 (fn_Frame_fix r38 r40 (0 : Int32) y6 y3 b35 b36) fun b42 b43 => sq_cb1 (fn_Frame_formX (1 : Int32) x34 r1) fun r45 => sq_cb1 (fn_Frame_formY (1 : Int32) x34 r1) fun r47 => sq_cb2 (fn_Frame_fix r45 r47 (0 : Int32) y6 y3 b42 b43) fun b49 b50 => sq_bd (x34 + (1 : Int32)) fun x52 => fn_Frame_lay_L1 r1 y3 y6 k29 m1 x52 b49 b50)
theorem fn_Frame_lay_L1_s (r1 : Int32) (y3 : Int32) (y6 : Int32) (k29 : (Nat → Int64) → (Nat → Int64) → Option (Int32 × Int32 × Int32 × (Nat → Int64) × (Nat → Int64))) (m1 : Nat) (x34 : Int32) (b35 : Nat → Int64) (b36 : Nat → Int64) : fn_Frame_lay_L1 r1 y3 y6 k29 (m1 + 1) x34 b35 b36 = if (15 : Int32) ≤ x34 then (k29 b35 b36) else (sq_cb1 (fn_Frame_formX (0 : Int32) x34 r1) fun r38 => sq_cb1 (fn_Frame_formY (0 : Int32) x34 r1) fun r40 => sq_cb2 (fn_Frame_fix r38 r40 (0 : Int32) y6 y3 b35 b36) fun b42 b43 => sq_cb1 (fn_Frame_formX (1 : Int32) x34 r1) fun r45 => sq_cb1 (fn_Frame_formY (1 : Int32) x34 r1) fun r47 => sq_cb2 (fn_Frame_fix r45 r47 (0 : Int32) y6 y3 b42 b43) fun b49 b50 => sq_bd (x34 + (1 : Int32)) fun x52 => fn_Frame_lay_L1 r1 y3 y6 k29 m1 x52 b49 b50) := rfl
def fn_Frame_lay_L2 (r1 : Int32) (y3 : Int32) (y6 : Int32) (k11 : (Nat → Int64) → (Nat → Int64) → Option (Int32 × Int32 × Int32 × (Nat → Int64) × (Nat → Int64))) : Nat → Int32 → (Nat → Int64) → (Nat → Int64) → Option (Int32 × Int32 × Int32 × (Nat → Int64) × (Nat → Int64))
  | 0, _, _, _ => none
  | m2 + 1, x57, b58, b59 => if r1 ≤ x57 then (k11 b58 b59) else (sq_bd (sq_rem x57 (2 : Int32)) fun x61 => sq_jn (fun (x62 : Int32) => sq_cb2 (fn_Frame_fix x57 (6 : Int32) x62 y6 y3 b58 b59) fun b64 b65 => sq_bd (sq_rem x57 (2 : Int32)) fun x67 => sq_jn (fun (x68 : Int32) => sq_cb2 (fn_Frame_fix (6 : Int32) x57 x68 y6 y3 b64 b65) fun b70 b71 => sq_bd (x57 + (1 : Int32)) fun x73 => fn_Frame_lay_L2 r1 y3 y6 k11 m2 x73 b70 b71) fun k69 => if x67 = 0 then (k69 (1 : Int32)) else (k69 (0 : Int32))) fun k63 => if x61 = 0 then (k63 (1 : Int32)) else (k63 (0 : Int32)))
theorem fn_Frame_lay_L2_s (r1 : Int32) (y3 : Int32) (y6 : Int32) (k11 : (Nat → Int64) → (Nat → Int64) → Option (Int32 × Int32 × Int32 × (Nat → Int64) × (Nat → Int64))) (m2 : Nat) (x57 : Int32) (b58 : Nat → Int64) (b59 : Nat → Int64) : fn_Frame_lay_L2 r1 y3 y6 k11 (m2 + 1) x57 b58 b59 = if r1 ≤ x57 then (k11 b58 b59) else (sq_bd (sq_rem x57 (2 : Int32)) fun x61 => sq_jn (fun (x62 : Int32) => sq_cb2 (fn_Frame_fix x57 (6 : Int32) x62 y6 y3 b58 b59) fun b64 b65 => sq_bd (sq_rem x57 (2 : Int32)) fun x67 => sq_jn (fun (x68 : Int32) => sq_cb2 (fn_Frame_fix (6 : Int32) x57 x68 y6 y3 b64 b65) fun b70 b71 => sq_bd (x57 + (1 : Int32)) fun x73 => fn_Frame_lay_L2 r1 y3 y6 k11 m2 x73 b70 b71) fun k69 => if x67 = 0 then (k69 (1 : Int32)) else (k69 (0 : Int32))) fun k63 => if x61 = 0 then (k63 (1 : Int32)) else (k63 (0 : Int32))) := rfl
def fn_Frame_lay (n0 : Nat) (p1 : Int32) (vt_side : Int32) (vt_dark_side : Int32) (vt_fixed_side : Int32) (vt_dark_words : Nat → Int64) (vt_fixed_words : Nat → Int64) : Option (Int32 × Int32 × Int32 × (Nat → Int64) × (Nat → Int64)) :=
  sq_cb1 (fn_Version_side p1) fun r1 => sq_cb2 (fn_Grid_clear n0 r1 vt_fixed_side vt_fixed_words) fun y3 b4 => sq_cb2 (fn_Grid_clear n0 r1 vt_dark_side vt_dark_words) fun y6 b7 => sq_jn (fun (b9 : Nat → Int64) (b10 : Nat → Int64) => sq_cb2 (fn_Frame_layRings n0 (3 : Int32) (3 : Int32) (4 : Int32) (11 : Int32) y6 y3 b9 b10) fun b12 b13 => sq_cb2 (fn_Frame_layRings n0 (r1 - (4 : Int32)) (3 : Int32) (4 : Int32) (11 : Int32) y6 y3 b12 b13) fun b15 b16 => sq_cb2 (fn_Frame_layRings n0 (3 : Int32) (r1 - (4 : Int32)) (4 : Int32) (11 : Int32) y6 y3 b15 b16) fun b18 b19 => sq_jn (fun (b21 : Nat → Int64) (b22 : Nat → Int64) => sq_cb2 (fn_Frame_fix (8 : Int32) (r1 - (8 : Int32)) (1 : Int32) y6 y3 b21 b22) fun b24 b25 => sq_jn (fun (b27 : Nat → Int64) (b28 : Nat → Int64) => if p1 ≤ (6 : Int32) then (some (r1, y6, y3, b27, b28)) else (sq_cb2 (fn_Frame_layVersion n0 p1 r1 y6 y3 b27 b28) fun b31 b32 => some (r1, y6, y3, b31, b32))) fun k29 => fn_Frame_lay_L1 r1 y3 y6 k29 n0 (0 : Int32) b24 b25) fun k23 => if p1 ≤ (1 : Int32) then (k23 b18 b19) else (sq_cb2 (fn_Frame_layAlignments n0 p1 r1 y6 y3 b18 b19) fun b54 b55 => k23 b54 b55)) fun k11 => fn_Frame_lay_L2 r1 y3 y6 k11 n0 (0 : Int32) b7 b4
abbrev ww_Frame_lay (qt qt_dark qt_fixed qt_dark_words qt_fixed_words qt_maskRows : Nat) (ct_dark_words ct_fixed_words : ClassId) (vt_side : Int32) (vt_next : Int32) (vt_x : Int32) (vt_y : Int32) (vt_dark_side : Int32) (vt_fixed_side : Int32) (vt_dark_words : Nat → Int64) (vt_fixed_words : Nat → Int64) : va_W := [(qt, .inr (7, [.ref qt_fixed, .ref qt_dark, .ref qt_maskRows, .int vt_side, .int vt_next, .int vt_x, .int vt_y])), (qt_dark, .inr (6, [.ref qt_dark_words, .int vt_dark_side])), (qt_fixed, .inr (6, [.ref qt_fixed_words, .int vt_fixed_side])), (qt_dark_words, .inl (ct_dark_words, 531, .inr (.inl vt_dark_words))), (qt_fixed_words, .inl (ct_fixed_words, 531, .inr (.inl vt_fixed_words)))]

def rm_Frame_lay : Room := { frames := 5, cells := 0, slots := 0, locals := 127 }
abbrev qc_Frame_lay (dC : Nat → ClassId) (dI : Nat → Nat → Nat) (A : Nat → Prop) (qt qt_dark qt_fixed qt_dark_words qt_fixed_words qt_maskRows : Nat) (ct_dark_words ct_fixed_words : ClassId) (vt_side : Int32) (vt_next : Int32) (vt_x : Int32) (vt_y : Int32) (vt_dark_side : Int32) (vt_fixed_side : Int32) (vt_dark_words : Nat → Int64) (vt_fixed_words : Nat → Int64) : Array Value → State → Outcome → State → Prop := va_Qv (fun (_ : Unit) => True) (fun _ t => va_P (dC, dI) cl_All (ww_Frame_lay qt qt_dark qt_fixed qt_dark_words qt_fixed_words qt_maskRows ct_dark_words ct_fixed_words vt_side vt_next vt_x vt_y vt_dark_side vt_fixed_side vt_dark_words vt_fixed_words) t.heap ∧ va_D A (ww_Frame_lay qt qt_dark qt_fixed qt_dark_words qt_fixed_words qt_maskRows ct_dark_words ct_fixed_words vt_side vt_next vt_x vt_y vt_dark_side vt_fixed_side vt_dark_words vt_fixed_words)) A

set_option maxHeartbeats 4000000 in
set_option maxRecDepth 100000 in
theorem kt_Frame_lay (l : Launch) (dC : Nat → ClassId) (dI : Nat → Nat → Nat) (qt qt_dark qt_fixed qt_dark_words qt_fixed_words qt_maskRows : Nat) (ct_dark_words ct_fixed_words : ClassId) (vt_side : Int32) (vt_next : Int32) (vt_x : Int32) (vt_y : Int32) (vt_dark_side : Int32) (vt_fixed_side : Int32) (vt_dark_words : Nat → Int64) (vt_fixed_words : Nat → Int64) (p1 : Int32) (sz : Nat) (n0 : Nat) (nvt_side : Int32) (nvt_dark_side : Int32) (nvt_fixed_side : Int32) (nvt_dark_words : Nat → Int64) (nvt_fixed_words : Nat → Int64) (Hf : fn_Frame_lay n0 p1 vt_side vt_dark_side vt_fixed_side vt_dark_words vt_fixed_words = some (nvt_side, nvt_dark_side, nvt_fixed_side, nvt_dark_words, nvt_fixed_words)) : Met l y_Frame_lay w_Frame_lay rm_Frame_lay (va_Pc [.ref qt, .int p1] (fun U => U.heap.size = sz ∧ va_P (dC, dI) cl_All (ww_Frame_lay qt qt_dark qt_fixed qt_dark_words qt_fixed_words qt_maskRows ct_dark_words ct_fixed_words vt_side vt_next vt_x vt_y vt_dark_side vt_fixed_side vt_dark_words vt_fixed_words) U.heap ∧ va_K (dC, dI) cl_All [(ct_dark_words, .long), (ct_fixed_words, .long)] U ∧ va_D (fun _ => True) (ww_Frame_lay qt qt_dark qt_fixed qt_dark_words qt_fixed_words qt_maskRows ct_dark_words ct_fixed_words vt_side vt_next vt_x vt_y vt_dark_side vt_fixed_side vt_dark_words vt_fixed_words))) (qc_Frame_lay dC dI (va_A (ww_Frame_lay qt qt_dark qt_fixed qt_dark_words qt_fixed_words qt_maskRows ct_dark_words ct_fixed_words vt_side vt_next vt_x vt_y vt_dark_side vt_fixed_side vt_dark_words vt_fixed_words) sz) qt qt_dark qt_fixed qt_dark_words qt_fixed_words qt_maskRows ct_dark_words ct_fixed_words nvt_side vt_next vt_x vt_y nvt_dark_side nvt_fixed_side nvt_dark_words nvt_fixed_words) 0 0 (va_A (ww_Frame_lay qt qt_dark qt_fixed qt_dark_words qt_fixed_words qt_maskRows ct_dark_words ct_fixed_words vt_side vt_next vt_x vt_y vt_dark_side vt_fixed_side vt_dark_words vt_fixed_words) sz) := by
  refine Met.ofW (cc := prog_6_method_2_code) (maxL := 3) (ret := none) (by decide) rfl ?_
  intro p e s m args below meth c s₁ B hml hv
  obtain ⟨rfl, hsz, hP, hK, hD0⟩ := hv
  have hx := B.exec; have hb := B.bytes; have hr := B.returns; have hlocks := B.notSynchronized
  have ht : ∀ w ∈ lw_g, w.before _ s = true := fun w h => atoms_spec (ws := w_Frame_lay) B.pre w (List.mem_cons_of_mem _ h)
  have hown : s.vm.findClass "SquareSymbols$Frame" = some m.cls := findClass_of_methodNamed B.named
  subst hsz
  have hD := hD0.self (sz := s.heap.size)
  generalize hAe : va_A (ww_Frame_lay qt qt_dark qt_fixed qt_dark_words qt_fixed_words qt_maskRows ct_dark_words ct_fixed_words vt_side vt_next vt_x vt_y vt_dark_side vt_fixed_side vt_dark_words vt_fixed_words) s.heap.size = A at hD ⊢
  have hA : ∀ q : Nat, s.heap.size ≤ q → A q := fun q h => by rw [← hAe]; exact Or.inr h
  have hS : va_S A s.heap s.heap [] := va_S.rf
  have hl := lv_entry ([.ref qt, .int p1]) (n := 3) (Nat.le_of_ble_eq_true rfl)
  rw [lg_entry_eq]
  generalize (lg_sl ([.ref qt, .int p1]) ++ List.replicate (3 - (lg_sl ([.ref qt, .int p1])).length) Slot.unset).toArray = ls at hl ⊢
  have hl : lv_has ls 3 [(0, .ref qt), (1, .int p1)] := hl
  refine lv_aload_n hx hb d_Frame_lay_0 rfl (lv_at hl 0 rfl) ?_
  refine lv_iload_n hx hb d_Frame_lay_1 rfl (lv_at hl 1 rfl) ?_
  obtain ⟨r1, hc2, Hf⟩ := sq_cb1_e Hf
  refine sq_roi (va_runS (As := [.int p1]) (rest := [.ref qt]) ⟨hx, hb, hml, hown, ht⟩ (kt_Version_side l dC dI p1 r1 hc2) (va_cwS 1 ht (sq_gS tb_433 tb_434 tb_16 tb_435) rfl rfl rfl (by decide +kernel) ⟨Nat.le_of_ble_eq_true rfl, Nat.le_of_ble_eq_true rfl⟩) (sq_roS (hP.sub (ws' := ([] : va_W)) [] rfl) (hK.sub (tys' := []) [] rfl)) rfl rfl hl.1 rfl (lv_room (Nat.le_of_ble_eq_true rfl)) d_Frame_lay_2 ⟨Nat.le_of_ble_eq_true rfl, Nat.le_of_ble_eq_true rfl⟩) ?_
  refine va_put (D := (dC, dI)) (ci := 7) (v := .int r1) (ty := .int) (C := R_Frame) (T := F_Frame) (N := 7) hx hb ht i_Frame t_Frame t_Frame_ok n_Frame hown hK hP hD hS 0 rfl rfl 3 (by decide) (ht _ tb_229) (fun _ h9 => h9) rfl (by decide +kernel) rfl rfl (Nat.le_of_ble_eq_true rfl) d_Frame_lay_5 (fun H locs hP hD hS => ?_)
  replace hP : va_P (dC, dI) cl_All (ww_Frame_lay qt qt_dark qt_fixed qt_dark_words qt_fixed_words qt_maskRows ct_dark_words ct_fixed_words r1 vt_next vt_x vt_y vt_dark_side vt_fixed_side vt_dark_words vt_fixed_words) H := hP
  replace hD : va_D A (ww_Frame_lay qt qt_dark qt_fixed qt_dark_words qt_fixed_words qt_maskRows ct_dark_words ct_fixed_words r1 vt_next vt_x vt_y vt_dark_side vt_fixed_side vt_dark_words vt_fixed_words) := hD
  refine lv_aload_n hx hb d_Frame_lay_8 rfl (lv_at hl 0 rfl) ?_
  refine va_get (D := (dC, dI)) (ci := 7) (v := .ref qt_fixed) (C := R_Frame) (T := F_Frame) (N := 7) hx hb ht i_Frame hown hK hP 0 rfl rfl 0 (by decide) (ht _ tb_225) (fun _ h9 => h9) rfl d_Frame_lay_9 ?_
  refine lv_aload_n hx hb d_Frame_lay_12 rfl (lv_at hl 0 rfl) ?_
  refine va_get (D := (dC, dI)) (ci := 7) (v := .int r1) (C := R_Frame) (T := F_Frame) (N := 7) hx hb ht i_Frame hown hK hP 0 rfl rfl 3 (by decide) (ht _ tb_229) (fun _ h9 => h9) rfl d_Frame_lay_13 ?_
  obtain ⟨y3, b4, hc5, Hf⟩ := sq_cb2_e Hf
  refine sq_rwv (wn := (ww_Frame_lay qt qt_dark qt_fixed qt_dark_words qt_fixed_words qt_maskRows ct_dark_words ct_fixed_words r1 vt_next vt_x vt_y vt_dark_side y3 vt_dark_words b4)) (va_runV (As := [.int r1]) (rest := []) ⟨hx, hb, hml, hown, ht⟩ (kt_Grid_clear l dC dI qt_fixed qt_fixed_words ct_fixed_words vt_fixed_side vt_fixed_words r1 H.size n0 y3 b4 hc5) (cwV 1 ht (sq_gV tb_436 tb_437 tb_438 tb_8 tb_439) rfl rfl rfl (by decide +kernel) ⟨Nat.le_of_ble_eq_true rfl, Nat.le_of_ble_eq_true rfl⟩) (sq_rwV (hP.sub (ws' := (ww_Grid_clear qt_fixed qt_fixed_words ct_fixed_words vt_fixed_side vt_fixed_words)) [2, 4] rfl) (hK.sub (tys' := [(ct_fixed_words, .long)]) [1] rfl) (hD.sub (ws' := (ww_Grid_clear qt_fixed qt_fixed_words ct_fixed_words vt_fixed_side vt_fixed_words)) [2, 4] (by decide) rfl) (va_recv hK hP (ci := 6) (q0 := 2) rfl rfl)) rfl rfl hl.1 rfl (lv_room (Nat.le_of_ble_eq_true rfl)) d_Frame_lay_16 ⟨Nat.le_of_ble_eq_true rfl, Nat.le_of_ble_eq_true rfl⟩) hP hD hS hA [2, 4] [0, 1, 3] [0, 1, 3, 2, 4] rfl rfl (by decide) (by decide) rfl (by decide) (fun H locs hP hD hS => ?_)
  refine lv_aload_n hx hb d_Frame_lay_19 rfl (lv_at hl 0 rfl) ?_
  refine va_get (D := (dC, dI)) (ci := 7) (v := .ref qt_dark) (C := R_Frame) (T := F_Frame) (N := 7) hx hb ht i_Frame hown hK hP 0 rfl rfl 1 (by decide) (ht _ tb_226) (fun _ h9 => h9) rfl d_Frame_lay_20 ?_
  refine lv_aload_n hx hb d_Frame_lay_23 rfl (lv_at hl 0 rfl) ?_
  refine va_get (D := (dC, dI)) (ci := 7) (v := .int r1) (C := R_Frame) (T := F_Frame) (N := 7) hx hb ht i_Frame hown hK hP 0 rfl rfl 3 (by decide) (ht _ tb_229) (fun _ h9 => h9) rfl d_Frame_lay_24 ?_
  obtain ⟨y6, b7, hc8, Hf⟩ := sq_cb2_e Hf
  refine sq_rwv (wn := (ww_Frame_lay qt qt_dark qt_fixed qt_dark_words qt_fixed_words qt_maskRows ct_dark_words ct_fixed_words r1 vt_next vt_x vt_y y6 y3 b7 b4)) (va_runV (As := [.int r1]) (rest := []) ⟨hx, hb, hml, hown, ht⟩ (kt_Grid_clear l dC dI qt_dark qt_dark_words ct_dark_words vt_dark_side vt_dark_words r1 H.size n0 y6 b7 hc8) (cwV 1 ht (sq_gV tb_436 tb_437 tb_438 tb_8 tb_439) rfl rfl rfl (by decide +kernel) ⟨Nat.le_of_ble_eq_true rfl, Nat.le_of_ble_eq_true rfl⟩) (sq_rwV (hP.sub (ws' := (ww_Grid_clear qt_dark qt_dark_words ct_dark_words vt_dark_side vt_dark_words)) [1, 3] rfl) (hK.sub (tys' := [(ct_dark_words, .long)]) [0] rfl) (hD.sub (ws' := (ww_Grid_clear qt_dark qt_dark_words ct_dark_words vt_dark_side vt_dark_words)) [1, 3] (by decide) rfl) (va_recv hK hP (ci := 6) (q0 := 1) rfl rfl)) rfl rfl hl.1 rfl (lv_room (Nat.le_of_ble_eq_true rfl)) d_Frame_lay_27 ⟨Nat.le_of_ble_eq_true rfl, Nat.le_of_ble_eq_true rfl⟩) hP hD hS hA [1, 3] [0, 2, 4] [0, 3, 1, 4, 2] rfl rfl (by decide) (by decide) rfl (by decide) (fun H locs hP hD hS => ?_)
  refine lv_iconst (v := (0 : Int32)) hx hb d_Frame_lay_30 (by decide) ?_
  refine lv_istore_n (lv' := [(2, .int (0 : Int32)), (0, .ref qt), (1, .int p1)]) hx hb d_Frame_lay_31 rfl hl (by decide) rfl (fun ls hl => ?_)
  obtain ⟨k11, hk11, Hf⟩ := sq_jn_e Hf
  have Jk11 : ∀ (b9 : Nat → Int64) (b10 : Nat → Int64), k11 b9 b10 = some (nvt_side, nvt_dark_side, nvt_fixed_side, nvt_dark_words, nvt_fixed_words) → ∀ (H : Heap) (locs : List Loc), va_P (dC, dI) cl_All (ww_Frame_lay qt qt_dark qt_fixed qt_dark_words qt_fixed_words qt_maskRows ct_dark_words ct_fixed_words r1 vt_next vt_x vt_y y6 y3 b9 b10) H → va_D A (ww_Frame_lay qt qt_dark qt_fixed qt_dark_words qt_fixed_words qt_maskRows ct_dark_words ct_fixed_words r1 vt_next vt_x vt_y y6 y3 b9 b10) → va_S A s.heap H locs → ∀ ls : Array Slot, lv_has ls 3 [(0, .ref qt), (1, .int p1)] → W p l e (headSpec w_Frame_lay rm_Frame_lay).room s m (([.ref qt, .int p1] : List Value).toArray) below meth c H locs 0 0 (MQ below (qc_Frame_lay dC dI A qt qt_dark qt_fixed qt_dark_words qt_fixed_words qt_maskRows ct_dark_words ct_fixed_words nvt_side vt_next vt_x vt_y nvt_dark_side nvt_fixed_side nvt_dark_words nvt_fixed_words) (([.ref qt, .int p1] : List Value).toArray) s 0 0 A) (F0 m 82 ls []) := by
    intro b9 b10 Hf H locs  hP hD hS ls hl
    rw [hk11] at Hf
    refine lv_aload_n hx hb d_Frame_lay_82 rfl (lv_at hl 0 rfl) ?_
    refine lv_iconst (v := (3 : Int32)) hx hb d_Frame_lay_83 (by decide) ?_
    refine lv_iconst (v := (3 : Int32)) hx hb d_Frame_lay_84 (by decide) ?_
    refine lv_iconst (v := (4 : Int32)) hx hb d_Frame_lay_85 (by decide) ?_
    refine lv_bipush (v := (11 : Int32)) hx hb d_Frame_lay_86 (by decide) ?_
    obtain ⟨b12, b13, hc14, Hf⟩ := sq_cb2_e Hf
    refine sq_rwv (wn := (ww_Frame_lay qt qt_dark qt_fixed qt_dark_words qt_fixed_words qt_maskRows ct_dark_words ct_fixed_words r1 vt_next vt_x vt_y y6 y3 b12 b13)) (va_runV (As := [.int (3 : Int32), .int (3 : Int32), .int (4 : Int32), .int (11 : Int32)]) (rest := []) ⟨hx, hb, hml, hown, ht⟩ (kt_Frame_layRings l dC dI qt qt_dark qt_fixed qt_dark_words qt_fixed_words qt_maskRows ct_dark_words ct_fixed_words r1 vt_next vt_x vt_y y6 y3 b9 b10 (3 : Int32) (3 : Int32) (4 : Int32) (11 : Int32) H.size n0 b12 b13 hc14) (cwV 4 ht (sq_gV tb_454 tb_456 sl_3 tb_9 tb_457) rfl rfl rfl (by decide +kernel) ⟨Nat.le_of_ble_eq_true rfl, Nat.le_of_ble_eq_true rfl⟩) (sq_rwV (hP.sub (ws' := (ww_Frame_layRings qt qt_dark qt_fixed qt_dark_words qt_fixed_words qt_maskRows ct_dark_words ct_fixed_words r1 vt_next vt_x vt_y y6 y3 b9 b10)) [0, 1, 2, 3, 4] rfl) (hK.sub (tys' := [(ct_dark_words, .long), (ct_fixed_words, .long)]) [0, 1] rfl) (hD.sub (ws' := (ww_Frame_layRings qt qt_dark qt_fixed qt_dark_words qt_fixed_words qt_maskRows ct_dark_words ct_fixed_words r1 vt_next vt_x vt_y y6 y3 b9 b10)) [0, 1, 2, 3, 4] (by decide) rfl) (va_recv hK hP (ci := 7) (q0 := 0) rfl rfl)) rfl rfl hl.1 rfl (lv_room (Nat.le_of_ble_eq_true rfl)) d_Frame_lay_88 ⟨Nat.le_of_ble_eq_true rfl, Nat.le_of_ble_eq_true rfl⟩) hP hD hS hA [0, 1, 2, 3, 4] [] [0, 1, 2, 3, 4] rfl rfl (by decide) (by decide) rfl (by decide) (fun H locs hP hD hS => ?_)
    refine lv_aload_n hx hb d_Frame_lay_91 rfl (lv_at hl 0 rfl) ?_
    refine lv_aload_n hx hb d_Frame_lay_92 rfl (lv_at hl 0 rfl) ?_
    refine va_get (D := (dC, dI)) (ci := 7) (v := .int r1) (C := R_Frame) (T := F_Frame) (N := 7) hx hb ht i_Frame hown hK hP 0 rfl rfl 3 (by decide) (ht _ tb_229) (fun _ h9 => h9) rfl d_Frame_lay_93 ?_
    refine lv_iconst (v := (4 : Int32)) hx hb d_Frame_lay_96 (by decide) ?_
    refine lv_isub hx hb d_Frame_lay_97 ?_
    refine lv_iconst (v := (3 : Int32)) hx hb d_Frame_lay_98 (by decide) ?_
    refine lv_iconst (v := (4 : Int32)) hx hb d_Frame_lay_99 (by decide) ?_
    refine lv_bipush (v := (11 : Int32)) hx hb d_Frame_lay_100 (by decide) ?_
    obtain ⟨b15, b16, hc17, Hf⟩ := sq_cb2_e Hf
    refine sq_rwv (wn := (ww_Frame_lay qt qt_dark qt_fixed qt_dark_words qt_fixed_words qt_maskRows ct_dark_words ct_fixed_words r1 vt_next vt_x vt_y y6 y3 b15 b16)) (va_runV (As := [.int (r1 - (4 : Int32)), .int (3 : Int32), .int (4 : Int32), .int (11 : Int32)]) (rest := []) ⟨hx, hb, hml, hown, ht⟩ (kt_Frame_layRings l dC dI qt qt_dark qt_fixed qt_dark_words qt_fixed_words qt_maskRows ct_dark_words ct_fixed_words r1 vt_next vt_x vt_y y6 y3 b12 b13 (r1 - (4 : Int32)) (3 : Int32) (4 : Int32) (11 : Int32) H.size n0 b15 b16 hc17) (cwV 4 ht (sq_gV tb_454 tb_456 sl_3 tb_9 tb_457) rfl rfl rfl (by decide +kernel) ⟨Nat.le_of_ble_eq_true rfl, Nat.le_of_ble_eq_true rfl⟩) (sq_rwV (hP.sub (ws' := (ww_Frame_layRings qt qt_dark qt_fixed qt_dark_words qt_fixed_words qt_maskRows ct_dark_words ct_fixed_words r1 vt_next vt_x vt_y y6 y3 b12 b13)) [0, 1, 2, 3, 4] rfl) (hK.sub (tys' := [(ct_dark_words, .long), (ct_fixed_words, .long)]) [0, 1] rfl) (hD.sub (ws' := (ww_Frame_layRings qt qt_dark qt_fixed qt_dark_words qt_fixed_words qt_maskRows ct_dark_words ct_fixed_words r1 vt_next vt_x vt_y y6 y3 b12 b13)) [0, 1, 2, 3, 4] (by decide) rfl) (va_recv hK hP (ci := 7) (q0 := 0) rfl rfl)) rfl rfl hl.1 rfl (lv_room (Nat.le_of_ble_eq_true rfl)) d_Frame_lay_102 ⟨Nat.le_of_ble_eq_true rfl, Nat.le_of_ble_eq_true rfl⟩) hP hD hS hA [0, 1, 2, 3, 4] [] [0, 1, 2, 3, 4] rfl rfl (by decide) (by decide) rfl (by decide) (fun H locs hP hD hS => ?_)
    refine lv_aload_n hx hb d_Frame_lay_105 rfl (lv_at hl 0 rfl) ?_
    refine lv_iconst (v := (3 : Int32)) hx hb d_Frame_lay_106 (by decide) ?_
    refine lv_aload_n hx hb d_Frame_lay_107 rfl (lv_at hl 0 rfl) ?_
    refine va_get (D := (dC, dI)) (ci := 7) (v := .int r1) (C := R_Frame) (T := F_Frame) (N := 7) hx hb ht i_Frame hown hK hP 0 rfl rfl 3 (by decide) (ht _ tb_229) (fun _ h9 => h9) rfl d_Frame_lay_108 ?_
    refine lv_iconst (v := (4 : Int32)) hx hb d_Frame_lay_111 (by decide) ?_
    refine lv_isub hx hb d_Frame_lay_112 ?_
    refine lv_iconst (v := (4 : Int32)) hx hb d_Frame_lay_113 (by decide) ?_
    refine lv_bipush (v := (11 : Int32)) hx hb d_Frame_lay_114 (by decide) ?_
    obtain ⟨b18, b19, hc20, Hf⟩ := sq_cb2_e Hf
    refine sq_rwv (wn := (ww_Frame_lay qt qt_dark qt_fixed qt_dark_words qt_fixed_words qt_maskRows ct_dark_words ct_fixed_words r1 vt_next vt_x vt_y y6 y3 b18 b19)) (va_runV (As := [.int (3 : Int32), .int (r1 - (4 : Int32)), .int (4 : Int32), .int (11 : Int32)]) (rest := []) ⟨hx, hb, hml, hown, ht⟩ (kt_Frame_layRings l dC dI qt qt_dark qt_fixed qt_dark_words qt_fixed_words qt_maskRows ct_dark_words ct_fixed_words r1 vt_next vt_x vt_y y6 y3 b15 b16 (3 : Int32) (r1 - (4 : Int32)) (4 : Int32) (11 : Int32) H.size n0 b18 b19 hc20) (cwV 4 ht (sq_gV tb_454 tb_456 sl_3 tb_9 tb_457) rfl rfl rfl (by decide +kernel) ⟨Nat.le_of_ble_eq_true rfl, Nat.le_of_ble_eq_true rfl⟩) (sq_rwV (hP.sub (ws' := (ww_Frame_layRings qt qt_dark qt_fixed qt_dark_words qt_fixed_words qt_maskRows ct_dark_words ct_fixed_words r1 vt_next vt_x vt_y y6 y3 b15 b16)) [0, 1, 2, 3, 4] rfl) (hK.sub (tys' := [(ct_dark_words, .long), (ct_fixed_words, .long)]) [0, 1] rfl) (hD.sub (ws' := (ww_Frame_layRings qt qt_dark qt_fixed qt_dark_words qt_fixed_words qt_maskRows ct_dark_words ct_fixed_words r1 vt_next vt_x vt_y y6 y3 b15 b16)) [0, 1, 2, 3, 4] (by decide) rfl) (va_recv hK hP (ci := 7) (q0 := 0) rfl rfl)) rfl rfl hl.1 rfl (lv_room (Nat.le_of_ble_eq_true rfl)) d_Frame_lay_116 ⟨Nat.le_of_ble_eq_true rfl, Nat.le_of_ble_eq_true rfl⟩) hP hD hS hA [0, 1, 2, 3, 4] [] [0, 1, 2, 3, 4] rfl rfl (by decide) (by decide) rfl (by decide) (fun H locs hP hD hS => ?_)
    refine lv_iload_n hx hb d_Frame_lay_119 rfl (lv_at hl 1 rfl) ?_
    refine lv_iconst (v := (1 : Int32)) hx hb d_Frame_lay_120 (by decide) ?_
    obtain ⟨k23, hk23, Hf⟩ := sq_jn_e Hf
    have Jk23 : ∀ (b21 : Nat → Int64) (b22 : Nat → Int64), k23 b21 b22 = some (nvt_side, nvt_dark_side, nvt_fixed_side, nvt_dark_words, nvt_fixed_words) → ∀ (H : Heap) (locs : List Loc), va_P (dC, dI) cl_All (ww_Frame_lay qt qt_dark qt_fixed qt_dark_words qt_fixed_words qt_maskRows ct_dark_words ct_fixed_words r1 vt_next vt_x vt_y y6 y3 b21 b22) H → va_D A (ww_Frame_lay qt qt_dark qt_fixed qt_dark_words qt_fixed_words qt_maskRows ct_dark_words ct_fixed_words r1 vt_next vt_x vt_y y6 y3 b21 b22) → va_S A s.heap H locs → ∀ ls : Array Slot, lv_has ls 3 [(0, .ref qt), (1, .int p1)] → W p l e (headSpec w_Frame_lay rm_Frame_lay).room s m (([.ref qt, .int p1] : List Value).toArray) below meth c H locs 0 0 (MQ below (qc_Frame_lay dC dI A qt qt_dark qt_fixed qt_dark_words qt_fixed_words qt_maskRows ct_dark_words ct_fixed_words nvt_side vt_next vt_x vt_y nvt_dark_side nvt_fixed_side nvt_dark_words nvt_fixed_words) (([.ref qt, .int p1] : List Value).toArray) s 0 0 A) (F0 m 129 ls []) := by
      intro b21 b22 Hf H locs  hP hD hS ls hl
      rw [hk23] at Hf
      refine lv_aload_n hx hb d_Frame_lay_129 rfl (lv_at hl 0 rfl) ?_
      refine lv_bipush (v := (8 : Int32)) hx hb d_Frame_lay_130 (by decide) ?_
      refine lv_aload_n hx hb d_Frame_lay_132 rfl (lv_at hl 0 rfl) ?_
      refine va_get (D := (dC, dI)) (ci := 7) (v := .int r1) (C := R_Frame) (T := F_Frame) (N := 7) hx hb ht i_Frame hown hK hP 0 rfl rfl 3 (by decide) (ht _ tb_229) (fun _ h9 => h9) rfl d_Frame_lay_133 ?_
      refine lv_bipush (v := (8 : Int32)) hx hb d_Frame_lay_136 (by decide) ?_
      refine lv_isub hx hb d_Frame_lay_138 ?_
      refine lv_iconst (v := (1 : Int32)) hx hb d_Frame_lay_139 (by decide) ?_
      obtain ⟨b24, b25, hc26, Hf⟩ := sq_cb2_e Hf
      refine sq_rwv (wn := (ww_Frame_lay qt qt_dark qt_fixed qt_dark_words qt_fixed_words qt_maskRows ct_dark_words ct_fixed_words r1 vt_next vt_x vt_y y6 y3 b24 b25)) (va_runV (As := [.int (8 : Int32), .int (r1 - (8 : Int32)), .int (1 : Int32)]) (rest := []) ⟨hx, hb, hml, hown, ht⟩ (kt_Frame_fix l dC dI qt qt_dark qt_fixed qt_dark_words qt_fixed_words qt_maskRows ct_dark_words ct_fixed_words r1 vt_next vt_x vt_y y6 y3 b21 b22 (8 : Int32) (r1 - (8 : Int32)) (1 : Int32) H.size b24 b25 hc26) (cwV 3 ht (sq_gV tb_445 tb_447 sl_2 tb_9 tb_448) rfl rfl rfl (by decide +kernel) ⟨Nat.le_of_ble_eq_true rfl, Nat.le_of_ble_eq_true rfl⟩) (sq_rwV (hP.sub (ws' := (ww_Frame_fix qt qt_dark qt_fixed qt_dark_words qt_fixed_words qt_maskRows ct_dark_words ct_fixed_words r1 vt_next vt_x vt_y y6 y3 b21 b22)) [0, 1, 2, 3, 4] rfl) (hK.sub (tys' := [(ct_dark_words, .long), (ct_fixed_words, .long)]) [0, 1] rfl) (hD.sub (ws' := (ww_Frame_fix qt qt_dark qt_fixed qt_dark_words qt_fixed_words qt_maskRows ct_dark_words ct_fixed_words r1 vt_next vt_x vt_y y6 y3 b21 b22)) [0, 1, 2, 3, 4] (by decide) rfl) (va_recv hK hP (ci := 7) (q0 := 0) rfl rfl)) rfl rfl hl.1 rfl (lv_room (Nat.le_of_ble_eq_true rfl)) d_Frame_lay_140 ⟨Nat.le_of_ble_eq_true rfl, Nat.le_of_ble_eq_true rfl⟩) hP hD hS hA [0, 1, 2, 3, 4] [] [0, 1, 2, 3, 4] rfl rfl (by decide) (by decide) rfl (by decide) (fun H locs hP hD hS => ?_)
      refine lv_iconst (v := (0 : Int32)) hx hb d_Frame_lay_143 (by decide) ?_
      refine lv_istore_n (lv' := [(2, .int (0 : Int32)), (0, .ref qt), (1, .int p1)]) hx hb d_Frame_lay_144 rfl hl (by decide) rfl (fun ls hl => ?_)
      obtain ⟨k29, hk29, Hf⟩ := sq_jn_e Hf
      have Jk29 : ∀ (b27 : Nat → Int64) (b28 : Nat → Int64), k29 b27 b28 = some (nvt_side, nvt_dark_side, nvt_fixed_side, nvt_dark_words, nvt_fixed_words) → ∀ (H : Heap) (locs : List Loc), va_P (dC, dI) cl_All (ww_Frame_lay qt qt_dark qt_fixed qt_dark_words qt_fixed_words qt_maskRows ct_dark_words ct_fixed_words r1 vt_next vt_x vt_y y6 y3 b27 b28) H → va_D A (ww_Frame_lay qt qt_dark qt_fixed qt_dark_words qt_fixed_words qt_maskRows ct_dark_words ct_fixed_words r1 vt_next vt_x vt_y y6 y3 b27 b28) → va_S A s.heap H locs → ∀ ls : Array Slot, lv_has ls 3 [(0, .ref qt), (1, .int p1)] → W p l e (headSpec w_Frame_lay rm_Frame_lay).room s m (([.ref qt, .int p1] : List Value).toArray) below meth c H locs 0 0 (MQ below (qc_Frame_lay dC dI A qt qt_dark qt_fixed qt_dark_words qt_fixed_words qt_maskRows ct_dark_words ct_fixed_words nvt_side vt_next vt_x vt_y nvt_dark_side nvt_fixed_side nvt_dark_words nvt_fixed_words) (([.ref qt, .int p1] : List Value).toArray) s 0 0 A) (F0 m 203 ls []) := by
        intro b27 b28 Hf H locs  hP hD hS ls hl
        rw [hk29] at Hf
        refine lv_iload_n hx hb d_Frame_lay_203 rfl (lv_at hl 1 rfl) ?_
        refine lv_bipush (v := (6 : Int32)) hx hb d_Frame_lay_204 (by decide) ?_
        refine lv_icmp_le (tgt := 214) hx hb d_Frame_lay_206 (by decide) (fun c30 => ?_) (fun c30 => ?_)
        · replace Hf := sq_ite_t Hf c30
          obtain ⟨rfl, rfl, rfl, rfl, rfl⟩ := sq_so5 Hf
          exact W.vret hx hb hr (fun t ht hW => ⟨⟨(), rfl, trivial, by rw [ht]; exact hP, hD⟩, hS.F ht⟩) hS.2.2 d_Frame_lay_214
        · replace Hf := sq_ite_f Hf c30
          refine lv_aload_n hx hb d_Frame_lay_209 rfl (lv_at hl 0 rfl) ?_
          refine lv_iload_n hx hb d_Frame_lay_210 rfl (lv_at hl 1 rfl) ?_
          obtain ⟨b31, b32, hc33, Hf⟩ := sq_cb2_e Hf
          refine sq_rwv (wn := (ww_Frame_lay qt qt_dark qt_fixed qt_dark_words qt_fixed_words qt_maskRows ct_dark_words ct_fixed_words r1 vt_next vt_x vt_y y6 y3 b31 b32)) (va_runV (As := [.int p1]) (rest := []) ⟨hx, hb, hml, hown, ht⟩ (kt_Frame_layVersion l dC dI qt qt_dark qt_fixed qt_dark_words qt_fixed_words qt_maskRows ct_dark_words ct_fixed_words r1 vt_next vt_x vt_y y6 y3 b27 b28 p1 H.size n0 b31 b32 hc33) (cwV 1 ht (sq_gV tb_466 tb_468 sl_5 tb_9 tb_469) rfl rfl rfl (by decide +kernel) ⟨Nat.le_of_ble_eq_true rfl, Nat.le_of_ble_eq_true rfl⟩) (sq_rwV (hP.sub (ws' := (ww_Frame_layVersion qt qt_dark qt_fixed qt_dark_words qt_fixed_words qt_maskRows ct_dark_words ct_fixed_words r1 vt_next vt_x vt_y y6 y3 b27 b28)) [0, 1, 2, 3, 4] rfl) (hK.sub (tys' := [(ct_dark_words, .long), (ct_fixed_words, .long)]) [0, 1] rfl) (hD.sub (ws' := (ww_Frame_layVersion qt qt_dark qt_fixed qt_dark_words qt_fixed_words qt_maskRows ct_dark_words ct_fixed_words r1 vt_next vt_x vt_y y6 y3 b27 b28)) [0, 1, 2, 3, 4] (by decide) rfl) (va_recv hK hP (ci := 7) (q0 := 0) rfl rfl)) rfl rfl hl.1 rfl (lv_room (Nat.le_of_ble_eq_true rfl)) d_Frame_lay_211 ⟨Nat.le_of_ble_eq_true rfl, Nat.le_of_ble_eq_true rfl⟩) hP hD hS hA [0, 1, 2, 3, 4] [] [0, 1, 2, 3, 4] rfl rfl (by decide) (by decide) rfl (by decide) (fun H locs hP hD hS => ?_)
          obtain ⟨rfl, rfl, rfl, rfl, rfl⟩ := sq_so5 Hf
          exact W.vret hx hb hr (fun t ht hW => ⟨⟨(), rfl, trivial, by rw [ht]; exact hP, hD⟩, hS.F ht⟩) hS.2.2 d_Frame_lay_214
      have L1 : ∀ (m1 : Nat), ∀ (x34 : Int32) (b35 : Nat → Int64) (b36 : Nat → Int64), fn_Frame_lay_L1 r1 y3 y6 k29 m1 x34 b35 b36 = some (nvt_side, nvt_dark_side, nvt_fixed_side, nvt_dark_words, nvt_fixed_words) → ∀ (H : Heap) (locs : List Loc), va_P (dC, dI) cl_All (ww_Frame_lay qt qt_dark qt_fixed qt_dark_words qt_fixed_words qt_maskRows ct_dark_words ct_fixed_words r1 vt_next vt_x vt_y y6 y3 b35 b36) H → va_D A (ww_Frame_lay qt qt_dark qt_fixed qt_dark_words qt_fixed_words qt_maskRows ct_dark_words ct_fixed_words r1 vt_next vt_x vt_y y6 y3 b35 b36) → va_S A s.heap H locs → ∀ ls : Array Slot, lv_has ls 3 [(0, .ref qt), (1, .int p1), (2, .int x34)] → W p l e (headSpec w_Frame_lay rm_Frame_lay).room s m (([.ref qt, .int p1] : List Value).toArray) below meth c H locs 0 0 (MQ below (qc_Frame_lay dC dI A qt qt_dark qt_fixed qt_dark_words qt_fixed_words qt_maskRows ct_dark_words ct_fixed_words nvt_side vt_next vt_x vt_y nvt_dark_side nvt_fixed_side nvt_dark_words nvt_fixed_words) (([.ref qt, .int p1] : List Value).toArray) s 0 0 A) (F0 m 145 ls []) := by
        intro m1
        induction m1 with
        | zero => intro x34 b35 b36 Hf; exact sq_none Hf
        | succ m1 ih1 =>
          intro x34 b35 b36 Hf H locs  hP hD hS ls hl
          replace Hf := (fn_Frame_lay_L1_s r1 y3 y6 k29 m1 x34 b35 b36).symm.trans Hf
          refine lv_iload_n hx hb d_Frame_lay_145 rfl (lv_at hl 2 rfl) ?_
          refine lv_bipush (v := (15 : Int32)) hx hb d_Frame_lay_146 (by decide) ?_
          refine lv_icmp_ge (tgt := 203) hx hb d_Frame_lay_148 (by decide) (fun c37 => ?_) (fun c37 => ?_)
          · replace Hf := sq_ite_t Hf c37
            exact Jk29 b35 b36 Hf _ _  hP hD hS _ (lv_sub hl [0, 1] rfl)
          · replace Hf := sq_ite_f Hf c37
            refine lv_aload_n hx hb d_Frame_lay_151 rfl (lv_at hl 0 rfl) ?_
            refine lv_iconst (v := (0 : Int32)) hx hb d_Frame_lay_152 (by decide) ?_
            refine lv_iload_n hx hb d_Frame_lay_153 rfl (lv_at hl 2 rfl) ?_
            refine lv_aload_n hx hb d_Frame_lay_154 rfl (lv_at hl 0 rfl) ?_
            refine va_get (D := (dC, dI)) (ci := 7) (v := .int r1) (C := R_Frame) (T := F_Frame) (N := 7) hx hb ht i_Frame hown hK hP 0 rfl rfl 3 (by decide) (ht _ tb_229) (fun _ h9 => h9) rfl d_Frame_lay_155 ?_
            obtain ⟨r38, hc39, Hf⟩ := sq_cb1_e Hf
            refine sq_roi (va_runS (As := [.int (0 : Int32), .int x34, .int r1]) (rest := [.ref qt]) ⟨hx, hb, hml, hown, ht⟩ (kt_Frame_formX l dC dI (0 : Int32) x34 r1 r38 hc39) (va_cwS 3 ht (sq_gS tb_370 tb_371 tb_9 tb_372) rfl rfl rfl (by decide +kernel) ⟨Nat.le_of_ble_eq_true rfl, Nat.le_of_ble_eq_true rfl⟩) (sq_roS (hP.sub (ws' := ([] : va_W)) [] rfl) (hK.sub (tys' := []) [] rfl)) rfl rfl hl.1 rfl (lv_room (Nat.le_of_ble_eq_true rfl)) d_Frame_lay_158 ⟨Nat.le_of_ble_eq_true rfl, Nat.le_of_ble_eq_true rfl⟩) ?_
            refine lv_iconst (v := (0 : Int32)) hx hb d_Frame_lay_161 (by decide) ?_
            refine lv_iload_n hx hb d_Frame_lay_162 rfl (lv_at hl 2 rfl) ?_
            refine lv_aload_n hx hb d_Frame_lay_163 rfl (lv_at hl 0 rfl) ?_
            refine va_get (D := (dC, dI)) (ci := 7) (v := .int r1) (C := R_Frame) (T := F_Frame) (N := 7) hx hb ht i_Frame hown hK hP 0 rfl rfl 3 (by decide) (ht _ tb_229) (fun _ h9 => h9) rfl d_Frame_lay_164 ?_
            obtain ⟨r40, hc41, Hf⟩ := sq_cb1_e Hf
            refine sq_roi (va_runS (As := [.int (0 : Int32), .int x34, .int r1]) (rest := [.int r38, .ref qt]) ⟨hx, hb, hml, hown, ht⟩ (kt_Frame_formY l dC dI (0 : Int32) x34 r1 r40 hc41) (va_cwS 3 ht (sq_gS tb_373 tb_374 tb_9 tb_375) rfl rfl rfl (by decide +kernel) ⟨Nat.le_of_ble_eq_true rfl, Nat.le_of_ble_eq_true rfl⟩) (sq_roS (hP.sub (ws' := ([] : va_W)) [] rfl) (hK.sub (tys' := []) [] rfl)) rfl rfl hl.1 rfl (lv_room (Nat.le_of_ble_eq_true rfl)) d_Frame_lay_167 ⟨Nat.le_of_ble_eq_true rfl, Nat.le_of_ble_eq_true rfl⟩) ?_
            refine lv_iconst (v := (0 : Int32)) hx hb d_Frame_lay_170 (by decide) ?_
            obtain ⟨b42, b43, hc44, Hf⟩ := sq_cb2_e Hf
            refine sq_rwv (wn := (ww_Frame_lay qt qt_dark qt_fixed qt_dark_words qt_fixed_words qt_maskRows ct_dark_words ct_fixed_words r1 vt_next vt_x vt_y y6 y3 b42 b43)) (va_runV (As := [.int r38, .int r40, .int (0 : Int32)]) (rest := []) ⟨hx, hb, hml, hown, ht⟩ (kt_Frame_fix l dC dI qt qt_dark qt_fixed qt_dark_words qt_fixed_words qt_maskRows ct_dark_words ct_fixed_words r1 vt_next vt_x vt_y y6 y3 b35 b36 r38 r40 (0 : Int32) H.size b42 b43 hc44) (cwV 3 ht (sq_gV tb_445 tb_447 sl_2 tb_9 tb_448) rfl rfl rfl (by decide +kernel) ⟨Nat.le_of_ble_eq_true rfl, Nat.le_of_ble_eq_true rfl⟩) (sq_rwV (hP.sub (ws' := (ww_Frame_fix qt qt_dark qt_fixed qt_dark_words qt_fixed_words qt_maskRows ct_dark_words ct_fixed_words r1 vt_next vt_x vt_y y6 y3 b35 b36)) [0, 1, 2, 3, 4] rfl) (hK.sub (tys' := [(ct_dark_words, .long), (ct_fixed_words, .long)]) [0, 1] rfl) (hD.sub (ws' := (ww_Frame_fix qt qt_dark qt_fixed qt_dark_words qt_fixed_words qt_maskRows ct_dark_words ct_fixed_words r1 vt_next vt_x vt_y y6 y3 b35 b36)) [0, 1, 2, 3, 4] (by decide) rfl) (va_recv hK hP (ci := 7) (q0 := 0) rfl rfl)) rfl rfl hl.1 rfl (lv_room (Nat.le_of_ble_eq_true rfl)) d_Frame_lay_171 ⟨Nat.le_of_ble_eq_true rfl, Nat.le_of_ble_eq_true rfl⟩) hP hD hS hA [0, 1, 2, 3, 4] [] [0, 1, 2, 3, 4] rfl rfl (by decide) (by decide) rfl (by decide) (fun H locs hP hD hS => ?_)
            refine lv_aload_n hx hb d_Frame_lay_174 rfl (lv_at hl 0 rfl) ?_
            refine lv_iconst (v := (1 : Int32)) hx hb d_Frame_lay_175 (by decide) ?_
            refine lv_iload_n hx hb d_Frame_lay_176 rfl (lv_at hl 2 rfl) ?_
            refine lv_aload_n hx hb d_Frame_lay_177 rfl (lv_at hl 0 rfl) ?_
            refine va_get (D := (dC, dI)) (ci := 7) (v := .int r1) (C := R_Frame) (T := F_Frame) (N := 7) hx hb ht i_Frame hown hK hP 0 rfl rfl 3 (by decide) (ht _ tb_229) (fun _ h9 => h9) rfl d_Frame_lay_178 ?_
            obtain ⟨r45, hc46, Hf⟩ := sq_cb1_e Hf
            refine sq_roi (va_runS (As := [.int (1 : Int32), .int x34, .int r1]) (rest := [.ref qt]) ⟨hx, hb, hml, hown, ht⟩ (kt_Frame_formX l dC dI (1 : Int32) x34 r1 r45 hc46) (va_cwS 3 ht (sq_gS tb_370 tb_371 tb_9 tb_372) rfl rfl rfl (by decide +kernel) ⟨Nat.le_of_ble_eq_true rfl, Nat.le_of_ble_eq_true rfl⟩) (sq_roS (hP.sub (ws' := ([] : va_W)) [] rfl) (hK.sub (tys' := []) [] rfl)) rfl rfl hl.1 rfl (lv_room (Nat.le_of_ble_eq_true rfl)) d_Frame_lay_181 ⟨Nat.le_of_ble_eq_true rfl, Nat.le_of_ble_eq_true rfl⟩) ?_
            refine lv_iconst (v := (1 : Int32)) hx hb d_Frame_lay_184 (by decide) ?_
            refine lv_iload_n hx hb d_Frame_lay_185 rfl (lv_at hl 2 rfl) ?_
            refine lv_aload_n hx hb d_Frame_lay_186 rfl (lv_at hl 0 rfl) ?_
            refine va_get (D := (dC, dI)) (ci := 7) (v := .int r1) (C := R_Frame) (T := F_Frame) (N := 7) hx hb ht i_Frame hown hK hP 0 rfl rfl 3 (by decide) (ht _ tb_229) (fun _ h9 => h9) rfl d_Frame_lay_187 ?_
            obtain ⟨r47, hc48, Hf⟩ := sq_cb1_e Hf
            refine sq_roi (va_runS (As := [.int (1 : Int32), .int x34, .int r1]) (rest := [.int r45, .ref qt]) ⟨hx, hb, hml, hown, ht⟩ (kt_Frame_formY l dC dI (1 : Int32) x34 r1 r47 hc48) (va_cwS 3 ht (sq_gS tb_373 tb_374 tb_9 tb_375) rfl rfl rfl (by decide +kernel) ⟨Nat.le_of_ble_eq_true rfl, Nat.le_of_ble_eq_true rfl⟩) (sq_roS (hP.sub (ws' := ([] : va_W)) [] rfl) (hK.sub (tys' := []) [] rfl)) rfl rfl hl.1 rfl (lv_room (Nat.le_of_ble_eq_true rfl)) d_Frame_lay_190 ⟨Nat.le_of_ble_eq_true rfl, Nat.le_of_ble_eq_true rfl⟩) ?_
            refine lv_iconst (v := (0 : Int32)) hx hb d_Frame_lay_193 (by decide) ?_
            obtain ⟨b49, b50, hc51, Hf⟩ := sq_cb2_e Hf
            refine sq_rwv (wn := (ww_Frame_lay qt qt_dark qt_fixed qt_dark_words qt_fixed_words qt_maskRows ct_dark_words ct_fixed_words r1 vt_next vt_x vt_y y6 y3 b49 b50)) (va_runV (As := [.int r45, .int r47, .int (0 : Int32)]) (rest := []) ⟨hx, hb, hml, hown, ht⟩ (kt_Frame_fix l dC dI qt qt_dark qt_fixed qt_dark_words qt_fixed_words qt_maskRows ct_dark_words ct_fixed_words r1 vt_next vt_x vt_y y6 y3 b42 b43 r45 r47 (0 : Int32) H.size b49 b50 hc51) (cwV 3 ht (sq_gV tb_445 tb_447 sl_2 tb_9 tb_448) rfl rfl rfl (by decide +kernel) ⟨Nat.le_of_ble_eq_true rfl, Nat.le_of_ble_eq_true rfl⟩) (sq_rwV (hP.sub (ws' := (ww_Frame_fix qt qt_dark qt_fixed qt_dark_words qt_fixed_words qt_maskRows ct_dark_words ct_fixed_words r1 vt_next vt_x vt_y y6 y3 b42 b43)) [0, 1, 2, 3, 4] rfl) (hK.sub (tys' := [(ct_dark_words, .long), (ct_fixed_words, .long)]) [0, 1] rfl) (hD.sub (ws' := (ww_Frame_fix qt qt_dark qt_fixed qt_dark_words qt_fixed_words qt_maskRows ct_dark_words ct_fixed_words r1 vt_next vt_x vt_y y6 y3 b42 b43)) [0, 1, 2, 3, 4] (by decide) rfl) (va_recv hK hP (ci := 7) (q0 := 0) rfl rfl)) rfl rfl hl.1 rfl (lv_room (Nat.le_of_ble_eq_true rfl)) d_Frame_lay_194 ⟨Nat.le_of_ble_eq_true rfl, Nat.le_of_ble_eq_true rfl⟩) hP hD hS hA [0, 1, 2, 3, 4] [] [0, 1, 2, 3, 4] rfl rfl (by decide) (by decide) rfl (by decide) (fun H locs hP hD hS => ?_)
            obtain ⟨x52, ex52, Hf⟩ := sq_bd_e Hf
            refine lv_iinc (v := x52) (lv' := [(2, .int x52), (0, .ref qt), (1, .int p1)]) hx hb d_Frame_lay_197 hl (k := 2) rfl (by rw [ex52]; rfl) (by decide) rfl (fun ls hl => ?_)
            refine lv_goto (tgt := 145) hx hb d_Frame_lay_200 (by decide) ?_
            exact ih1 x52 b49 b50 Hf _ _  hP hD hS _ (lv_sub hl [1, 2, 0] rfl)
      exact L1 n0 (0 : Int32) b24 b25 Hf _ _  hP hD hS _ (lv_sub hl [1, 2, 0] rfl)
    refine lv_icmp_le (tgt := 129) hx hb d_Frame_lay_121 (by decide) (fun c53 => ?_) (fun c53 => ?_)
    · replace Hf := sq_ite_t Hf c53
      exact Jk23 b18 b19 Hf _ _  hP hD hS _ (lv_sub hl [0, 1] rfl)
    · replace Hf := sq_ite_f Hf c53
      refine lv_aload_n hx hb d_Frame_lay_124 rfl (lv_at hl 0 rfl) ?_
      refine lv_iload_n hx hb d_Frame_lay_125 rfl (lv_at hl 1 rfl) ?_
      obtain ⟨b54, b55, hc56, Hf⟩ := sq_cb2_e Hf
      refine sq_rwv (wn := (ww_Frame_lay qt qt_dark qt_fixed qt_dark_words qt_fixed_words qt_maskRows ct_dark_words ct_fixed_words r1 vt_next vt_x vt_y y6 y3 b54 b55)) (va_runV (As := [.int p1]) (rest := []) ⟨hx, hb, hml, hown, ht⟩ (kt_Frame_layAlignments l dC dI qt qt_dark qt_fixed qt_dark_words qt_fixed_words qt_maskRows ct_dark_words ct_fixed_words r1 vt_next vt_x vt_y y6 y3 b18 b19 p1 H.size n0 b54 b55 hc56) (cwV 1 ht (sq_gV tb_462 tb_464 sl_4 tb_9 tb_465) rfl rfl rfl (by decide +kernel) ⟨Nat.le_of_ble_eq_true rfl, Nat.le_of_ble_eq_true rfl⟩) (sq_rwV (hP.sub (ws' := (ww_Frame_layAlignments qt qt_dark qt_fixed qt_dark_words qt_fixed_words qt_maskRows ct_dark_words ct_fixed_words r1 vt_next vt_x vt_y y6 y3 b18 b19)) [0, 1, 2, 3, 4] rfl) (hK.sub (tys' := [(ct_dark_words, .long), (ct_fixed_words, .long)]) [0, 1] rfl) (hD.sub (ws' := (ww_Frame_layAlignments qt qt_dark qt_fixed qt_dark_words qt_fixed_words qt_maskRows ct_dark_words ct_fixed_words r1 vt_next vt_x vt_y y6 y3 b18 b19)) [0, 1, 2, 3, 4] (by decide) rfl) (va_recv hK hP (ci := 7) (q0 := 0) rfl rfl)) rfl rfl hl.1 rfl (lv_room (Nat.le_of_ble_eq_true rfl)) d_Frame_lay_126 ⟨Nat.le_of_ble_eq_true rfl, Nat.le_of_ble_eq_true rfl⟩) hP hD hS hA [0, 1, 2, 3, 4] [] [0, 1, 2, 3, 4] rfl rfl (by decide) (by decide) rfl (by decide) (fun H locs hP hD hS => ?_)
      exact Jk23 b54 b55 Hf _ _  hP hD hS _ (lv_sub hl [0, 1] rfl)
  have L2 : ∀ (m2 : Nat), ∀ (x57 : Int32) (b58 : Nat → Int64) (b59 : Nat → Int64), fn_Frame_lay_L2 r1 y3 y6 k11 m2 x57 b58 b59 = some (nvt_side, nvt_dark_side, nvt_fixed_side, nvt_dark_words, nvt_fixed_words) → ∀ (H : Heap) (locs : List Loc), va_P (dC, dI) cl_All (ww_Frame_lay qt qt_dark qt_fixed qt_dark_words qt_fixed_words qt_maskRows ct_dark_words ct_fixed_words r1 vt_next vt_x vt_y y6 y3 b58 b59) H → va_D A (ww_Frame_lay qt qt_dark qt_fixed qt_dark_words qt_fixed_words qt_maskRows ct_dark_words ct_fixed_words r1 vt_next vt_x vt_y y6 y3 b58 b59) → va_S A s.heap H locs → ∀ ls : Array Slot, lv_has ls 3 [(0, .ref qt), (1, .int p1), (2, .int x57)] → W p l e (headSpec w_Frame_lay rm_Frame_lay).room s m (([.ref qt, .int p1] : List Value).toArray) below meth c H locs 0 0 (MQ below (qc_Frame_lay dC dI A qt qt_dark qt_fixed qt_dark_words qt_fixed_words qt_maskRows ct_dark_words ct_fixed_words nvt_side vt_next vt_x vt_y nvt_dark_side nvt_fixed_side nvt_dark_words nvt_fixed_words) (([.ref qt, .int p1] : List Value).toArray) s 0 0 A) (F0 m 32 ls []) := by
    intro m2
    induction m2 with
    | zero => intro x57 b58 b59 Hf; exact sq_none Hf
    | succ m2 ih2 =>
      intro x57 b58 b59 Hf H locs  hP hD hS ls hl
      replace Hf := (fn_Frame_lay_L2_s r1 y3 y6 k11 m2 x57 b58 b59).symm.trans Hf
      refine lv_iload_n hx hb d_Frame_lay_32 rfl (lv_at hl 2 rfl) ?_
      refine lv_aload_n hx hb d_Frame_lay_33 rfl (lv_at hl 0 rfl) ?_
      refine va_get (D := (dC, dI)) (ci := 7) (v := .int r1) (C := R_Frame) (T := F_Frame) (N := 7) hx hb ht i_Frame hown hK hP 0 rfl rfl 3 (by decide) (ht _ tb_229) (fun _ h9 => h9) rfl d_Frame_lay_34 ?_
      refine lv_icmp_ge (tgt := 82) hx hb d_Frame_lay_37 (by decide) (fun c60 => ?_) (fun c60 => ?_)
      · replace Hf := sq_ite_t Hf c60
        exact Jk11 b58 b59 Hf _ _  hP hD hS _ (lv_sub hl [0, 1] rfl)
      · replace Hf := sq_ite_f Hf c60
        refine lv_aload_n hx hb d_Frame_lay_40 rfl (lv_at hl 0 rfl) ?_
        refine lv_iload_n hx hb d_Frame_lay_41 rfl (lv_at hl 2 rfl) ?_
        refine lv_bipush (v := (6 : Int32)) hx hb d_Frame_lay_42 (by decide) ?_
        refine lv_iload_n hx hb d_Frame_lay_44 rfl (lv_at hl 2 rfl) ?_
        refine lv_iconst (v := (2 : Int32)) hx hb d_Frame_lay_45 (by decide) ?_
        refine lv_irem hx hb d_Frame_lay_46 (by decide) ?_
        obtain ⟨x61, ex61, Hf⟩ := sq_bd_e Hf
        refine sq_top ex61 ?_
        obtain ⟨k63, hk63, Hf⟩ := sq_jn_e Hf
        have Jk63 : ∀ (x62 : Int32), k63 x62 = some (nvt_side, nvt_dark_side, nvt_fixed_side, nvt_dark_words, nvt_fixed_words) → ∀ (H : Heap) (locs : List Loc), va_P (dC, dI) cl_All (ww_Frame_lay qt qt_dark qt_fixed qt_dark_words qt_fixed_words qt_maskRows ct_dark_words ct_fixed_words r1 vt_next vt_x vt_y y6 y3 b58 b59) H → va_D A (ww_Frame_lay qt qt_dark qt_fixed qt_dark_words qt_fixed_words qt_maskRows ct_dark_words ct_fixed_words r1 vt_next vt_x vt_y y6 y3 b58 b59) → va_S A s.heap H locs → ∀ ls : Array Slot, lv_has ls 3 [(0, .ref qt), (1, .int p1), (2, .int x57)] → W p l e (headSpec w_Frame_lay rm_Frame_lay).room s m (([.ref qt, .int p1] : List Value).toArray) below meth c H locs 0 0 (MQ below (qc_Frame_lay dC dI A qt qt_dark qt_fixed qt_dark_words qt_fixed_words qt_maskRows ct_dark_words ct_fixed_words nvt_side vt_next vt_x vt_y nvt_dark_side nvt_fixed_side nvt_dark_words nvt_fixed_words) (([.ref qt, .int p1] : List Value).toArray) s 0 0 A) (F0 m 55 ls [.int x62, .int (6 : Int32), .int x57, .ref qt]) := by
          intro x62 Hf H locs  hP hD hS ls hl
          rw [hk63] at Hf
          obtain ⟨b64, b65, hc66, Hf⟩ := sq_cb2_e Hf
          refine sq_rwv (wn := (ww_Frame_lay qt qt_dark qt_fixed qt_dark_words qt_fixed_words qt_maskRows ct_dark_words ct_fixed_words r1 vt_next vt_x vt_y y6 y3 b64 b65)) (va_runV (As := [.int x57, .int (6 : Int32), .int x62]) (rest := []) ⟨hx, hb, hml, hown, ht⟩ (kt_Frame_fix l dC dI qt qt_dark qt_fixed qt_dark_words qt_fixed_words qt_maskRows ct_dark_words ct_fixed_words r1 vt_next vt_x vt_y y6 y3 b58 b59 x57 (6 : Int32) x62 H.size b64 b65 hc66) (cwV 3 ht (sq_gV tb_445 tb_447 sl_2 tb_9 tb_448) rfl rfl rfl (by decide +kernel) ⟨Nat.le_of_ble_eq_true rfl, Nat.le_of_ble_eq_true rfl⟩) (sq_rwV (hP.sub (ws' := (ww_Frame_fix qt qt_dark qt_fixed qt_dark_words qt_fixed_words qt_maskRows ct_dark_words ct_fixed_words r1 vt_next vt_x vt_y y6 y3 b58 b59)) [0, 1, 2, 3, 4] rfl) (hK.sub (tys' := [(ct_dark_words, .long), (ct_fixed_words, .long)]) [0, 1] rfl) (hD.sub (ws' := (ww_Frame_fix qt qt_dark qt_fixed qt_dark_words qt_fixed_words qt_maskRows ct_dark_words ct_fixed_words r1 vt_next vt_x vt_y y6 y3 b58 b59)) [0, 1, 2, 3, 4] (by decide) rfl) (va_recv hK hP (ci := 7) (q0 := 0) rfl rfl)) rfl rfl hl.1 rfl (lv_room (Nat.le_of_ble_eq_true rfl)) d_Frame_lay_55 ⟨Nat.le_of_ble_eq_true rfl, Nat.le_of_ble_eq_true rfl⟩) hP hD hS hA [0, 1, 2, 3, 4] [] [0, 1, 2, 3, 4] rfl rfl (by decide) (by decide) rfl (by decide) (fun H locs hP hD hS => ?_)
          refine lv_aload_n hx hb d_Frame_lay_58 rfl (lv_at hl 0 rfl) ?_
          refine lv_bipush (v := (6 : Int32)) hx hb d_Frame_lay_59 (by decide) ?_
          refine lv_iload_n hx hb d_Frame_lay_61 rfl (lv_at hl 2 rfl) ?_
          refine lv_iload_n hx hb d_Frame_lay_62 rfl (lv_at hl 2 rfl) ?_
          refine lv_iconst (v := (2 : Int32)) hx hb d_Frame_lay_63 (by decide) ?_
          refine lv_irem hx hb d_Frame_lay_64 (by decide) ?_
          obtain ⟨x67, ex67, Hf⟩ := sq_bd_e Hf
          refine sq_top ex67 ?_
          obtain ⟨k69, hk69, Hf⟩ := sq_jn_e Hf
          have Jk69 : ∀ (x68 : Int32), k69 x68 = some (nvt_side, nvt_dark_side, nvt_fixed_side, nvt_dark_words, nvt_fixed_words) → ∀ (H : Heap) (locs : List Loc), va_P (dC, dI) cl_All (ww_Frame_lay qt qt_dark qt_fixed qt_dark_words qt_fixed_words qt_maskRows ct_dark_words ct_fixed_words r1 vt_next vt_x vt_y y6 y3 b64 b65) H → va_D A (ww_Frame_lay qt qt_dark qt_fixed qt_dark_words qt_fixed_words qt_maskRows ct_dark_words ct_fixed_words r1 vt_next vt_x vt_y y6 y3 b64 b65) → va_S A s.heap H locs → ∀ ls : Array Slot, lv_has ls 3 [(0, .ref qt), (1, .int p1), (2, .int x57)] → W p l e (headSpec w_Frame_lay rm_Frame_lay).room s m (([.ref qt, .int p1] : List Value).toArray) below meth c H locs 0 0 (MQ below (qc_Frame_lay dC dI A qt qt_dark qt_fixed qt_dark_words qt_fixed_words qt_maskRows ct_dark_words ct_fixed_words nvt_side vt_next vt_x vt_y nvt_dark_side nvt_fixed_side nvt_dark_words nvt_fixed_words) (([.ref qt, .int p1] : List Value).toArray) s 0 0 A) (F0 m 73 ls [.int x68, .int x57, .int (6 : Int32), .ref qt]) := by
            intro x68 Hf H locs  hP hD hS ls hl
            rw [hk69] at Hf
            obtain ⟨b70, b71, hc72, Hf⟩ := sq_cb2_e Hf
            refine sq_rwv (wn := (ww_Frame_lay qt qt_dark qt_fixed qt_dark_words qt_fixed_words qt_maskRows ct_dark_words ct_fixed_words r1 vt_next vt_x vt_y y6 y3 b70 b71)) (va_runV (As := [.int (6 : Int32), .int x57, .int x68]) (rest := []) ⟨hx, hb, hml, hown, ht⟩ (kt_Frame_fix l dC dI qt qt_dark qt_fixed qt_dark_words qt_fixed_words qt_maskRows ct_dark_words ct_fixed_words r1 vt_next vt_x vt_y y6 y3 b64 b65 (6 : Int32) x57 x68 H.size b70 b71 hc72) (cwV 3 ht (sq_gV tb_445 tb_447 sl_2 tb_9 tb_448) rfl rfl rfl (by decide +kernel) ⟨Nat.le_of_ble_eq_true rfl, Nat.le_of_ble_eq_true rfl⟩) (sq_rwV (hP.sub (ws' := (ww_Frame_fix qt qt_dark qt_fixed qt_dark_words qt_fixed_words qt_maskRows ct_dark_words ct_fixed_words r1 vt_next vt_x vt_y y6 y3 b64 b65)) [0, 1, 2, 3, 4] rfl) (hK.sub (tys' := [(ct_dark_words, .long), (ct_fixed_words, .long)]) [0, 1] rfl) (hD.sub (ws' := (ww_Frame_fix qt qt_dark qt_fixed qt_dark_words qt_fixed_words qt_maskRows ct_dark_words ct_fixed_words r1 vt_next vt_x vt_y y6 y3 b64 b65)) [0, 1, 2, 3, 4] (by decide) rfl) (va_recv hK hP (ci := 7) (q0 := 0) rfl rfl)) rfl rfl hl.1 rfl (lv_room (Nat.le_of_ble_eq_true rfl)) d_Frame_lay_73 ⟨Nat.le_of_ble_eq_true rfl, Nat.le_of_ble_eq_true rfl⟩) hP hD hS hA [0, 1, 2, 3, 4] [] [0, 1, 2, 3, 4] rfl rfl (by decide) (by decide) rfl (by decide) (fun H locs hP hD hS => ?_)
            obtain ⟨x73, ex73, Hf⟩ := sq_bd_e Hf
            refine lv_iinc (v := x73) (lv' := [(2, .int x73), (0, .ref qt), (1, .int p1)]) hx hb d_Frame_lay_76 hl (k := 2) rfl (by rw [ex73]; rfl) (by decide) rfl (fun ls hl => ?_)
            refine lv_goto (tgt := 32) hx hb d_Frame_lay_79 (by decide) ?_
            exact ih2 x73 b70 b71 Hf _ _  hP hD hS _ (lv_sub hl [1, 2, 0] rfl)
          refine lv_if_ne (tgt := 72) hx hb d_Frame_lay_65 (by decide) (fun c74 => ?_) (fun c74 => ?_)
          · replace Hf := sq_ite_f Hf c74
            refine lv_iconst (v := (0 : Int32)) hx hb d_Frame_lay_72 (by decide) ?_
            exact Jk69 (0 : Int32) Hf _ _  hP hD hS _ (lv_sub hl [0, 1, 2] rfl)
          · replace Hf := sq_ite_t Hf c74
            refine lv_iconst (v := (1 : Int32)) hx hb d_Frame_lay_68 (by decide) ?_
            refine lv_goto (tgt := 73) hx hb d_Frame_lay_69 (by decide) ?_
            exact Jk69 (1 : Int32) Hf _ _  hP hD hS _ (lv_sub hl [0, 1, 2] rfl)
        refine lv_if_ne (tgt := 54) hx hb d_Frame_lay_47 (by decide) (fun c75 => ?_) (fun c75 => ?_)
        · replace Hf := sq_ite_f Hf c75
          refine lv_iconst (v := (0 : Int32)) hx hb d_Frame_lay_54 (by decide) ?_
          exact Jk63 (0 : Int32) Hf _ _  hP hD hS _ (lv_sub hl [0, 1, 2] rfl)
        · replace Hf := sq_ite_t Hf c75
          refine lv_iconst (v := (1 : Int32)) hx hb d_Frame_lay_50 (by decide) ?_
          refine lv_goto (tgt := 55) hx hb d_Frame_lay_51 (by decide) ?_
          exact Jk63 (1 : Int32) Hf _ _  hP hD hS _ (lv_sub hl [0, 1, 2] rfl)
  exact L2 n0 (0 : Int32) b7 b4 Hf _ _  hP hD hS _ (lv_sub hl [1, 2, 0] rfl)

def fn_Frame_isTurned (p1 : Int32) (p2 : Int32) (p3 : Int32) : Option (Int32) :=
  if p1 = (0 : Int32) then (sq_bd (sq_rem (p2 + p3) (2 : Int32)) fun x2 => if x2 = 0 then (some ((1 : Int32))) else (some ((0 : Int32)))) else ( if p1 = (1 : Int32) then (sq_bd (sq_rem p3 (2 : Int32)) fun x5 => if x5 = 0 then (some ((1 : Int32))) else (some ((0 : Int32)))) else ( if p1 = (2 : Int32) then (sq_bd (sq_rem p2 (3 : Int32)) fun x8 => if x8 = 0 then (some ((1 : Int32))) else (some ((0 : Int32)))) else ( if p1 = (3 : Int32) then (sq_bd (sq_rem (p2 + p3) (3 : Int32)) fun x11 => if x11 = 0 then (some ((1 : Int32))) else (some ((0 : Int32)))) else ( if p1 = (4 : Int32) then (sq_bd (sq_rem ((p2 / (3 : Int32)) + (p3 / (2 : Int32))) (2 : Int32)) fun x14 => if x14 = 0 then (some ((1 : Int32))) else (some ((0 : Int32)))) else ( if p1 = (5 : Int32) then (sq_bd (sq_rem (p2 * p3) (2 : Int32)) fun x17 => sq_bd (sq_rem (p2 * p3) (3 : Int32)) fun x18 => if (x17 + x18) = 0 then (some ((1 : Int32))) else (some ((0 : Int32)))) else ( if p1 = (6 : Int32) then (sq_bd (sq_rem (p2 * p3) (2 : Int32)) fun x21 => sq_bd (sq_rem (p2 * p3) (3 : Int32)) fun x22 => sq_bd (sq_rem (x21 + x22) (2 : Int32)) fun x23 => if x23 = 0 then (some ((1 : Int32))) else (some ((0 : Int32)))) else ( sq_bd (sq_rem (p2 + p3) (2 : Int32)) fun x25 => sq_bd (sq_rem (p2 * p3) (3 : Int32)) fun x26 => sq_bd (sq_rem (x25 + x26) (2 : Int32)) fun x27 => if x27 = 0 then (some ((1 : Int32))) else (some ((0 : Int32))))))))))
def rm_Frame_isTurned : Room := { frames := 0, cells := 0, slots := 0, locals := 0 }
abbrev qc_Frame_isTurned (r0 : Int32) : Array Value → State → Outcome → State → Prop := vp_Si (fun r => r = r0)

set_option maxHeartbeats 4000000 in
set_option maxRecDepth 100000 in
theorem kt_Frame_isTurned (l : Launch) (dC : Nat → ClassId) (dI : Nat → Nat → Nat) (p1 : Int32) (p2 : Int32) (p3 : Int32) (r0 : Int32) (Hf : fn_Frame_isTurned p1 p2 p3 = some r0) : Met l y_Frame_isTurned w_Frame_isTurned rm_Frame_isTurned (va_Pc [.int p1, .int p2, .int p3] (fun U => va_P (dC, dI) cl_All ([] : va_W) U.heap ∧ va_K (dC, dI) cl_All [] U)) (qc_Frame_isTurned r0) 0 0 (fun _ => False) := by
  refine Met.ofW (cc := prog_6_method_17_code) (maxL := 3) (ret := (some .boolean)) (by decide) rfl ?_
  intro p e s m args below meth c s₁ B hml hv
  obtain ⟨rfl, hP, hK⟩ := hv
  have hx := B.exec; have hb := B.bytes; have hr := B.returns; have hlocks := B.notSynchronized
  have ht : ∀ w ∈ lw_g, w.before _ s = true := fun w h => atoms_spec (ws := w_Frame_isTurned) B.pre w (List.mem_cons_of_mem _ h)
  have hown : s.vm.findClass "SquareSymbols$Frame" = some m.cls := findClass_of_methodNamed B.named
  have hl := lv_entry ([.int p1, .int p2, .int p3]) (n := 3) (Nat.le_of_ble_eq_true rfl)
  rw [lg_entry_eq]
  generalize (lg_sl ([.int p1, .int p2, .int p3]) ++ List.replicate (3 - (lg_sl ([.int p1, .int p2, .int p3])).length) Slot.unset).toArray = ls at hl ⊢
  have hl : lv_has ls 3 [(0, .int p1), (1, .int p2), (2, .int p3)] := hl
  refine lv_iload_n hx hb d_Frame_isTurned_0 rfl (lv_at hl 0 rfl) ?_
  by_cases c1 : p1 = (0 : Int32)
  · replace Hf := sq_ite_t Hf c1
    refine lv_tableIn (tgt := 44) (off := 43) hx hb d_Frame_isTurned_1 (by rw [c1]; decide) (by rw [c1]; decide) (by rw [c1]; rfl) (by decide) ?_
    refine lv_iload_n hx hb d_Frame_isTurned_44 rfl (lv_at hl 1 rfl) ?_
    refine lv_iload_n hx hb d_Frame_isTurned_45 rfl (lv_at hl 2 rfl) ?_
    refine lv_iadd hx hb d_Frame_isTurned_46 ?_
    refine lv_iconst (v := (2 : Int32)) hx hb d_Frame_isTurned_47 (by decide) ?_
    refine lv_irem hx hb d_Frame_isTurned_48 (by decide) ?_
    obtain ⟨x2, ex2, Hf⟩ := sq_bd_e Hf
    refine sq_top ex2 ?_
    refine lv_if_ne (tgt := 56) hx hb d_Frame_isTurned_49 (by decide) (fun c3 => ?_) (fun c3 => ?_)
    · replace Hf := sq_ite_f Hf c3
      refine lv_iconst (v := (0 : Int32)) hx hb d_Frame_isTurned_56 (by decide) ?_
      have er := Option.some.inj Hf
      exact W.zret hx hb hr rfl (fun t ht hW => ⟨_, rfl, er, ht⟩) (fun q h => by cases h) d_Frame_isTurned_57
    · replace Hf := sq_ite_t Hf c3
      refine lv_iconst (v := (1 : Int32)) hx hb d_Frame_isTurned_52 (by decide) ?_
      refine lv_goto (tgt := 57) hx hb d_Frame_isTurned_53 (by decide) ?_
      have er := Option.some.inj Hf
      exact W.zret hx hb hr rfl (fun t ht hW => ⟨_, rfl, er, ht⟩) (fun q h => by cases h) d_Frame_isTurned_57
  replace Hf := sq_ite_f Hf c1
  have nc1 := lv_neT c1 (a := 0) (by decide)
  by_cases c4 : p1 = (1 : Int32)
  · replace Hf := sq_ite_t Hf c4
    refine lv_tableIn (tgt := 58) (off := 57) hx hb d_Frame_isTurned_1 (by rw [c4]; decide) (by rw [c4]; decide) (by rw [c4]; rfl) (by decide) ?_
    refine lv_iload_n hx hb d_Frame_isTurned_58 rfl (lv_at hl 2 rfl) ?_
    refine lv_iconst (v := (2 : Int32)) hx hb d_Frame_isTurned_59 (by decide) ?_
    refine lv_irem hx hb d_Frame_isTurned_60 (by decide) ?_
    obtain ⟨x5, ex5, Hf⟩ := sq_bd_e Hf
    refine sq_top ex5 ?_
    refine lv_if_ne (tgt := 68) hx hb d_Frame_isTurned_61 (by decide) (fun c6 => ?_) (fun c6 => ?_)
    · replace Hf := sq_ite_f Hf c6
      refine lv_iconst (v := (0 : Int32)) hx hb d_Frame_isTurned_68 (by decide) ?_
      have er := Option.some.inj Hf
      exact W.zret hx hb hr rfl (fun t ht hW => ⟨_, rfl, er, ht⟩) (fun q h => by cases h) d_Frame_isTurned_69
    · replace Hf := sq_ite_t Hf c6
      refine lv_iconst (v := (1 : Int32)) hx hb d_Frame_isTurned_64 (by decide) ?_
      refine lv_goto (tgt := 69) hx hb d_Frame_isTurned_65 (by decide) ?_
      have er := Option.some.inj Hf
      exact W.zret hx hb hr rfl (fun t ht hW => ⟨_, rfl, er, ht⟩) (fun q h => by cases h) d_Frame_isTurned_69
  replace Hf := sq_ite_f Hf c4
  have nc4 := lv_neT c4 (a := 1) (by decide)
  by_cases c7 : p1 = (2 : Int32)
  · replace Hf := sq_ite_t Hf c7
    refine lv_tableIn (tgt := 70) (off := 69) hx hb d_Frame_isTurned_1 (by rw [c7]; decide) (by rw [c7]; decide) (by rw [c7]; rfl) (by decide) ?_
    refine lv_iload_n hx hb d_Frame_isTurned_70 rfl (lv_at hl 1 rfl) ?_
    refine lv_iconst (v := (3 : Int32)) hx hb d_Frame_isTurned_71 (by decide) ?_
    refine lv_irem hx hb d_Frame_isTurned_72 (by decide) ?_
    obtain ⟨x8, ex8, Hf⟩ := sq_bd_e Hf
    refine sq_top ex8 ?_
    refine lv_if_ne (tgt := 80) hx hb d_Frame_isTurned_73 (by decide) (fun c9 => ?_) (fun c9 => ?_)
    · replace Hf := sq_ite_f Hf c9
      refine lv_iconst (v := (0 : Int32)) hx hb d_Frame_isTurned_80 (by decide) ?_
      have er := Option.some.inj Hf
      exact W.zret hx hb hr rfl (fun t ht hW => ⟨_, rfl, er, ht⟩) (fun q h => by cases h) d_Frame_isTurned_81
    · replace Hf := sq_ite_t Hf c9
      refine lv_iconst (v := (1 : Int32)) hx hb d_Frame_isTurned_76 (by decide) ?_
      refine lv_goto (tgt := 81) hx hb d_Frame_isTurned_77 (by decide) ?_
      have er := Option.some.inj Hf
      exact W.zret hx hb hr rfl (fun t ht hW => ⟨_, rfl, er, ht⟩) (fun q h => by cases h) d_Frame_isTurned_81
  replace Hf := sq_ite_f Hf c7
  have nc7 := lv_neT c7 (a := 2) (by decide)
  by_cases c10 : p1 = (3 : Int32)
  · replace Hf := sq_ite_t Hf c10
    refine lv_tableIn (tgt := 82) (off := 81) hx hb d_Frame_isTurned_1 (by rw [c10]; decide) (by rw [c10]; decide) (by rw [c10]; rfl) (by decide) ?_
    refine lv_iload_n hx hb d_Frame_isTurned_82 rfl (lv_at hl 1 rfl) ?_
    refine lv_iload_n hx hb d_Frame_isTurned_83 rfl (lv_at hl 2 rfl) ?_
    refine lv_iadd hx hb d_Frame_isTurned_84 ?_
    refine lv_iconst (v := (3 : Int32)) hx hb d_Frame_isTurned_85 (by decide) ?_
    refine lv_irem hx hb d_Frame_isTurned_86 (by decide) ?_
    obtain ⟨x11, ex11, Hf⟩ := sq_bd_e Hf
    refine sq_top ex11 ?_
    refine lv_if_ne (tgt := 94) hx hb d_Frame_isTurned_87 (by decide) (fun c12 => ?_) (fun c12 => ?_)
    · replace Hf := sq_ite_f Hf c12
      refine lv_iconst (v := (0 : Int32)) hx hb d_Frame_isTurned_94 (by decide) ?_
      have er := Option.some.inj Hf
      exact W.zret hx hb hr rfl (fun t ht hW => ⟨_, rfl, er, ht⟩) (fun q h => by cases h) d_Frame_isTurned_95
    · replace Hf := sq_ite_t Hf c12
      refine lv_iconst (v := (1 : Int32)) hx hb d_Frame_isTurned_90 (by decide) ?_
      refine lv_goto (tgt := 95) hx hb d_Frame_isTurned_91 (by decide) ?_
      have er := Option.some.inj Hf
      exact W.zret hx hb hr rfl (fun t ht hW => ⟨_, rfl, er, ht⟩) (fun q h => by cases h) d_Frame_isTurned_95
  replace Hf := sq_ite_f Hf c10
  have nc10 := lv_neT c10 (a := 3) (by decide)
  by_cases c13 : p1 = (4 : Int32)
  · replace Hf := sq_ite_t Hf c13
    refine lv_tableIn (tgt := 96) (off := 95) hx hb d_Frame_isTurned_1 (by rw [c13]; decide) (by rw [c13]; decide) (by rw [c13]; rfl) (by decide) ?_
    refine lv_iload_n hx hb d_Frame_isTurned_96 rfl (lv_at hl 1 rfl) ?_
    refine lv_iconst (v := (3 : Int32)) hx hb d_Frame_isTurned_97 (by decide) ?_
    refine lv_idiv hx hb d_Frame_isTurned_98 (by decide) ?_
    refine lv_iload_n hx hb d_Frame_isTurned_99 rfl (lv_at hl 2 rfl) ?_
    refine lv_iconst (v := (2 : Int32)) hx hb d_Frame_isTurned_100 (by decide) ?_
    refine lv_idiv hx hb d_Frame_isTurned_101 (by decide) ?_
    refine lv_iadd hx hb d_Frame_isTurned_102 ?_
    refine lv_iconst (v := (2 : Int32)) hx hb d_Frame_isTurned_103 (by decide) ?_
    refine lv_irem hx hb d_Frame_isTurned_104 (by decide) ?_
    obtain ⟨x14, ex14, Hf⟩ := sq_bd_e Hf
    refine sq_top ex14 ?_
    refine lv_if_ne (tgt := 112) hx hb d_Frame_isTurned_105 (by decide) (fun c15 => ?_) (fun c15 => ?_)
    · replace Hf := sq_ite_f Hf c15
      refine lv_iconst (v := (0 : Int32)) hx hb d_Frame_isTurned_112 (by decide) ?_
      have er := Option.some.inj Hf
      exact W.zret hx hb hr rfl (fun t ht hW => ⟨_, rfl, er, ht⟩) (fun q h => by cases h) d_Frame_isTurned_113
    · replace Hf := sq_ite_t Hf c15
      refine lv_iconst (v := (1 : Int32)) hx hb d_Frame_isTurned_108 (by decide) ?_
      refine lv_goto (tgt := 113) hx hb d_Frame_isTurned_109 (by decide) ?_
      have er := Option.some.inj Hf
      exact W.zret hx hb hr rfl (fun t ht hW => ⟨_, rfl, er, ht⟩) (fun q h => by cases h) d_Frame_isTurned_113
  replace Hf := sq_ite_f Hf c13
  have nc13 := lv_neT c13 (a := 4) (by decide)
  by_cases c16 : p1 = (5 : Int32)
  · replace Hf := sq_ite_t Hf c16
    refine lv_tableIn (tgt := 114) (off := 113) hx hb d_Frame_isTurned_1 (by rw [c16]; decide) (by rw [c16]; decide) (by rw [c16]; rfl) (by decide) ?_
    refine lv_iload_n hx hb d_Frame_isTurned_114 rfl (lv_at hl 1 rfl) ?_
    refine lv_iload_n hx hb d_Frame_isTurned_115 rfl (lv_at hl 2 rfl) ?_
    refine lv_imul hx hb d_Frame_isTurned_116 ?_
    refine lv_iconst (v := (2 : Int32)) hx hb d_Frame_isTurned_117 (by decide) ?_
    refine lv_irem hx hb d_Frame_isTurned_118 (by decide) ?_
    obtain ⟨x17, ex17, Hf⟩ := sq_bd_e Hf
    refine sq_top ex17 ?_
    refine lv_iload_n hx hb d_Frame_isTurned_119 rfl (lv_at hl 1 rfl) ?_
    refine lv_iload_n hx hb d_Frame_isTurned_120 rfl (lv_at hl 2 rfl) ?_
    refine lv_imul hx hb d_Frame_isTurned_121 ?_
    refine lv_iconst (v := (3 : Int32)) hx hb d_Frame_isTurned_122 (by decide) ?_
    refine lv_irem hx hb d_Frame_isTurned_123 (by decide) ?_
    obtain ⟨x18, ex18, Hf⟩ := sq_bd_e Hf
    refine sq_top ex18 ?_
    refine lv_iadd hx hb d_Frame_isTurned_124 ?_
    refine lv_if_ne (tgt := 132) hx hb d_Frame_isTurned_125 (by decide) (fun c19 => ?_) (fun c19 => ?_)
    · replace Hf := sq_ite_f Hf c19
      refine lv_iconst (v := (0 : Int32)) hx hb d_Frame_isTurned_132 (by decide) ?_
      have er := Option.some.inj Hf
      exact W.zret hx hb hr rfl (fun t ht hW => ⟨_, rfl, er, ht⟩) (fun q h => by cases h) d_Frame_isTurned_133
    · replace Hf := sq_ite_t Hf c19
      refine lv_iconst (v := (1 : Int32)) hx hb d_Frame_isTurned_128 (by decide) ?_
      refine lv_goto (tgt := 133) hx hb d_Frame_isTurned_129 (by decide) ?_
      have er := Option.some.inj Hf
      exact W.zret hx hb hr rfl (fun t ht hW => ⟨_, rfl, er, ht⟩) (fun q h => by cases h) d_Frame_isTurned_133
  replace Hf := sq_ite_f Hf c16
  have nc16 := lv_neT c16 (a := 5) (by decide)
  by_cases c20 : p1 = (6 : Int32)
  · replace Hf := sq_ite_t Hf c20
    refine lv_tableIn (tgt := 134) (off := 133) hx hb d_Frame_isTurned_1 (by rw [c20]; decide) (by rw [c20]; decide) (by rw [c20]; rfl) (by decide) ?_
    refine lv_iload_n hx hb d_Frame_isTurned_134 rfl (lv_at hl 1 rfl) ?_
    refine lv_iload_n hx hb d_Frame_isTurned_135 rfl (lv_at hl 2 rfl) ?_
    refine lv_imul hx hb d_Frame_isTurned_136 ?_
    refine lv_iconst (v := (2 : Int32)) hx hb d_Frame_isTurned_137 (by decide) ?_
    refine lv_irem hx hb d_Frame_isTurned_138 (by decide) ?_
    obtain ⟨x21, ex21, Hf⟩ := sq_bd_e Hf
    refine sq_top ex21 ?_
    refine lv_iload_n hx hb d_Frame_isTurned_139 rfl (lv_at hl 1 rfl) ?_
    refine lv_iload_n hx hb d_Frame_isTurned_140 rfl (lv_at hl 2 rfl) ?_
    refine lv_imul hx hb d_Frame_isTurned_141 ?_
    refine lv_iconst (v := (3 : Int32)) hx hb d_Frame_isTurned_142 (by decide) ?_
    refine lv_irem hx hb d_Frame_isTurned_143 (by decide) ?_
    obtain ⟨x22, ex22, Hf⟩ := sq_bd_e Hf
    refine sq_top ex22 ?_
    refine lv_iadd hx hb d_Frame_isTurned_144 ?_
    refine lv_iconst (v := (2 : Int32)) hx hb d_Frame_isTurned_145 (by decide) ?_
    refine lv_irem hx hb d_Frame_isTurned_146 (by decide) ?_
    obtain ⟨x23, ex23, Hf⟩ := sq_bd_e Hf
    refine sq_top ex23 ?_
    refine lv_if_ne (tgt := 154) hx hb d_Frame_isTurned_147 (by decide) (fun c24 => ?_) (fun c24 => ?_)
    · replace Hf := sq_ite_f Hf c24
      refine lv_iconst (v := (0 : Int32)) hx hb d_Frame_isTurned_154 (by decide) ?_
      have er := Option.some.inj Hf
      exact W.zret hx hb hr rfl (fun t ht hW => ⟨_, rfl, er, ht⟩) (fun q h => by cases h) d_Frame_isTurned_155
    · replace Hf := sq_ite_t Hf c24
      refine lv_iconst (v := (1 : Int32)) hx hb d_Frame_isTurned_150 (by decide) ?_
      refine lv_goto (tgt := 155) hx hb d_Frame_isTurned_151 (by decide) ?_
      have er := Option.some.inj Hf
      exact W.zret hx hb hr rfl (fun t ht hW => ⟨_, rfl, er, ht⟩) (fun q h => by cases h) d_Frame_isTurned_155
  replace Hf := sq_ite_f Hf c20
  have nc20 := lv_neT c20 (a := 6) (by decide)
  refine lv_tableOut (tgt := 156) hx hb d_Frame_isTurned_1 (by omega) (by decide) ?_
  refine lv_iload_n hx hb d_Frame_isTurned_156 rfl (lv_at hl 1 rfl) ?_
  refine lv_iload_n hx hb d_Frame_isTurned_157 rfl (lv_at hl 2 rfl) ?_
  refine lv_iadd hx hb d_Frame_isTurned_158 ?_
  refine lv_iconst (v := (2 : Int32)) hx hb d_Frame_isTurned_159 (by decide) ?_
  refine lv_irem hx hb d_Frame_isTurned_160 (by decide) ?_
  obtain ⟨x25, ex25, Hf⟩ := sq_bd_e Hf
  refine sq_top ex25 ?_
  refine lv_iload_n hx hb d_Frame_isTurned_161 rfl (lv_at hl 1 rfl) ?_
  refine lv_iload_n hx hb d_Frame_isTurned_162 rfl (lv_at hl 2 rfl) ?_
  refine lv_imul hx hb d_Frame_isTurned_163 ?_
  refine lv_iconst (v := (3 : Int32)) hx hb d_Frame_isTurned_164 (by decide) ?_
  refine lv_irem hx hb d_Frame_isTurned_165 (by decide) ?_
  obtain ⟨x26, ex26, Hf⟩ := sq_bd_e Hf
  refine sq_top ex26 ?_
  refine lv_iadd hx hb d_Frame_isTurned_166 ?_
  refine lv_iconst (v := (2 : Int32)) hx hb d_Frame_isTurned_167 (by decide) ?_
  refine lv_irem hx hb d_Frame_isTurned_168 (by decide) ?_
  obtain ⟨x27, ex27, Hf⟩ := sq_bd_e Hf
  refine sq_top ex27 ?_
  refine lv_if_ne (tgt := 176) hx hb d_Frame_isTurned_169 (by decide) (fun c28 => ?_) (fun c28 => ?_)
  · replace Hf := sq_ite_f Hf c28
    refine lv_iconst (v := (0 : Int32)) hx hb d_Frame_isTurned_176 (by decide) ?_
    have er := Option.some.inj Hf
    exact W.zret hx hb hr rfl (fun t ht hW => ⟨_, rfl, er, ht⟩) (fun q h => by cases h) d_Frame_isTurned_177
  · replace Hf := sq_ite_t Hf c28
    refine lv_iconst (v := (1 : Int32)) hx hb d_Frame_isTurned_172 (by decide) ?_
    refine lv_goto (tgt := 177) hx hb d_Frame_isTurned_173 (by decide) ?_
    have er := Option.some.inj Hf
    exact W.zret hx hb hr rfl (fun t ht hW => ⟨_, rfl, er, ht⟩) (fun q h => by cases h) d_Frame_isTurned_177

def fn_Frame_chooseMask_L2 (p1 : Int32) (vt_side : Int32) (x3 : Int32) (k7 : (Nat → Int64) → Option ((Nat → Int64))) : Nat → Int32 → (Nat → Int64) → Option ((Nat → Int64))
  | 0, _, _ => none
  | m2 + 1, x9, b10 => if vt_side ≤ x9 then (k7 b10) else (if (177 : Int32) ≤ x9 then (k7 b10) else (sq_cb1 (fn_Frame_isTurned p1 x9 x3) fun r13 => sq_jn (fun (b15 : Nat → Int64) => sq_bd (x9 + (1 : Int32)) fun x17 => fn_Frame_chooseMask_L2 p1 vt_side x3 k7 m2 x17 b15) fun k16 => if r13 = 0 then (k16 b10) else (sq_bd (((3 : Int32) * x3) + (x9 >>> ((6 : Int32) &&& 31))) fun x19 => sq_gi x19 36 <| sq_bd (b10 x19.toNatClampNeg) fun w21 => sq_bd (sq_lshl (1 : Int64) (x9 &&& (63 : Int32))) fun w22 => sq_bd (w21 ||| w22) fun w23 => sq_gi x19 36 <| sq_bd (vp_updL b10 x19.toNatClampNeg w23) fun b25 => k16 b25)))
theorem fn_Frame_chooseMask_L2_s (p1 : Int32) (vt_side : Int32) (x3 : Int32) (k7 : (Nat → Int64) → Option ((Nat → Int64))) (m2 : Nat) (x9 : Int32) (b10 : Nat → Int64) : fn_Frame_chooseMask_L2 p1 vt_side x3 k7 (m2 + 1) x9 b10 = if vt_side ≤ x9 then (k7 b10) else (if (177 : Int32) ≤ x9 then (k7 b10) else (sq_cb1 (fn_Frame_isTurned p1 x9 x3) fun r13 => sq_jn (fun (b15 : Nat → Int64) => sq_bd (x9 + (1 : Int32)) fun x17 => fn_Frame_chooseMask_L2 p1 vt_side x3 k7 m2 x17 b15) fun k16 => if r13 = 0 then (k16 b10) else (sq_bd (((3 : Int32) * x3) + (x9 >>> ((6 : Int32) &&& 31))) fun x19 => sq_gi x19 36 <| sq_bd (b10 x19.toNatClampNeg) fun w21 => sq_bd (sq_lshl (1 : Int64) (x9 &&& (63 : Int32))) fun w22 => sq_bd (w21 ||| w22) fun w23 => sq_gi x19 36 <| sq_bd (vp_updL b10 x19.toNatClampNeg w23) fun b25 => k16 b25))) := rfl
def fn_Frame_chooseMask_L1 (p1 : Int32) (n0 : Nat) (vt_side : Int32) : Nat → Int32 → (Nat → Int64) → Option ((Nat → Int64))
  | 0, _, _ => none
  | m1 + 1, x3, b4 => if (12 : Int32) ≤ x3 then (some b4) else (sq_jn (fun (b6 : Nat → Int64) => sq_bd (x3 + (1 : Int32)) fun x8 => fn_Frame_chooseMask_L1 p1 n0 vt_side m1 x8 b6) fun k7 => fn_Frame_chooseMask_L2 p1 vt_side x3 k7 n0 (0 : Int32) b4)
theorem fn_Frame_chooseMask_L1_s (p1 : Int32) (n0 : Nat) (vt_side : Int32) (m1 : Nat) (x3 : Int32) (b4 : Nat → Int64) : fn_Frame_chooseMask_L1 p1 n0 vt_side (m1 + 1) x3 b4 = if (12 : Int32) ≤ x3 then (some b4) else (sq_jn (fun (b6 : Nat → Int64) => sq_bd (x3 + (1 : Int32)) fun x8 => fn_Frame_chooseMask_L1 p1 n0 vt_side m1 x8 b6) fun k7 => fn_Frame_chooseMask_L2 p1 vt_side x3 k7 n0 (0 : Int32) b4) := rfl
def fn_Frame_chooseMask (n0 : Nat) (p1 : Int32) (vt_side : Int32) (vt_maskRows : Nat → Int64) : Option ((Nat → Int64)) :=
  sq_cb1 (fn_JArrays_fill0 n0 (0 : Int64) 36 vt_maskRows) fun b1 => fn_Frame_chooseMask_L1 p1 n0 vt_side n0 (0 : Int32) b1
abbrev ww_Frame_chooseMask (qt qt_maskRows qt_fixed qt_dark : Nat) (ct_maskRows : ClassId) (vt_side : Int32) (vt_next : Int32) (vt_x : Int32) (vt_y : Int32) (vt_maskRows : Nat → Int64) : va_W := [(qt, .inr (7, [.ref qt_fixed, .ref qt_dark, .ref qt_maskRows, .int vt_side, .int vt_next, .int vt_x, .int vt_y])), (qt_maskRows, .inl (ct_maskRows, 36, .inr (.inl vt_maskRows)))]

def rm_Frame_chooseMask : Room := { frames := 1, cells := 0, slots := 0, locals := 24 }
abbrev qc_Frame_chooseMask (dC : Nat → ClassId) (dI : Nat → Nat → Nat) (A : Nat → Prop) (qt qt_maskRows qt_fixed qt_dark : Nat) (ct_maskRows : ClassId) (vt_side : Int32) (vt_next : Int32) (vt_x : Int32) (vt_y : Int32) (vt_maskRows : Nat → Int64) : Array Value → State → Outcome → State → Prop := va_Qv (fun (_ : Unit) => True) (fun _ t => va_P (dC, dI) cl_All (ww_Frame_chooseMask qt qt_maskRows qt_fixed qt_dark ct_maskRows vt_side vt_next vt_x vt_y vt_maskRows) t.heap ∧ va_D A (ww_Frame_chooseMask qt qt_maskRows qt_fixed qt_dark ct_maskRows vt_side vt_next vt_x vt_y vt_maskRows)) A

set_option maxHeartbeats 4000000 in
set_option maxRecDepth 100000 in
theorem kt_Frame_chooseMask (l : Launch) (dC : Nat → ClassId) (dI : Nat → Nat → Nat) (qt qt_maskRows qt_fixed qt_dark : Nat) (ct_maskRows : ClassId) (vt_side : Int32) (vt_next : Int32) (vt_x : Int32) (vt_y : Int32) (vt_maskRows : Nat → Int64) (p1 : Int32) (sz : Nat) (n0 : Nat) (nvt_maskRows : Nat → Int64) (Hf : fn_Frame_chooseMask n0 p1 vt_side vt_maskRows = some nvt_maskRows) : Met l y_Frame_chooseMask w_Frame_chooseMask rm_Frame_chooseMask (va_Pc [.ref qt, .int p1] (fun U => U.heap.size = sz ∧ va_P (dC, dI) cl_All (ww_Frame_chooseMask qt qt_maskRows qt_fixed qt_dark ct_maskRows vt_side vt_next vt_x vt_y vt_maskRows) U.heap ∧ va_K (dC, dI) cl_All [(ct_maskRows, .long)] U ∧ va_D (fun _ => True) (ww_Frame_chooseMask qt qt_maskRows qt_fixed qt_dark ct_maskRows vt_side vt_next vt_x vt_y vt_maskRows))) (qc_Frame_chooseMask dC dI (va_A (ww_Frame_chooseMask qt qt_maskRows qt_fixed qt_dark ct_maskRows vt_side vt_next vt_x vt_y vt_maskRows) sz) qt qt_maskRows qt_fixed qt_dark ct_maskRows vt_side vt_next vt_x vt_y nvt_maskRows) 0 0 (va_A (ww_Frame_chooseMask qt qt_maskRows qt_fixed qt_dark ct_maskRows vt_side vt_next vt_x vt_y vt_maskRows) sz) := by
  refine Met.ofW (cc := prog_6_method_16_code) (maxL := 4) (ret := none) (by decide) rfl ?_
  intro p e s m args below meth c s₁ B hml hv
  obtain ⟨rfl, hsz, hP, hK, hD0⟩ := hv
  have hx := B.exec; have hb := B.bytes; have hr := B.returns; have hlocks := B.notSynchronized
  have ht : ∀ w ∈ lw_g, w.before _ s = true := fun w h => atoms_spec (ws := w_Frame_chooseMask) B.pre w (List.mem_cons_of_mem _ h)
  have hown : s.vm.findClass "SquareSymbols$Frame" = some m.cls := findClass_of_methodNamed B.named
  subst hsz
  have hD := hD0.self (sz := s.heap.size)
  generalize hAe : va_A (ww_Frame_chooseMask qt qt_maskRows qt_fixed qt_dark ct_maskRows vt_side vt_next vt_x vt_y vt_maskRows) s.heap.size = A at hD ⊢
  have hA : ∀ q : Nat, s.heap.size ≤ q → A q := fun q h => by rw [← hAe]; exact Or.inr h
  have hS : va_S A s.heap s.heap [] := va_S.rf
  have hl := lv_entry ([.ref qt, .int p1]) (n := 4) (Nat.le_of_ble_eq_true rfl)
  rw [lg_entry_eq]
  generalize (lg_sl ([.ref qt, .int p1]) ++ List.replicate (4 - (lg_sl ([.ref qt, .int p1])).length) Slot.unset).toArray = ls at hl ⊢
  have hl : lv_has ls 4 [(0, .ref qt), (1, .int p1)] := hl
  refine lv_aload_n hx hb d_Frame_chooseMask_0 rfl (lv_at hl 0 rfl) ?_
  refine va_get (D := (dC, dI)) (ci := 7) (v := .ref qt_maskRows) (C := R_Frame) (T := F_Frame) (N := 7) hx hb ht i_Frame hown hK hP 0 rfl rfl 2 (by decide) (ht _ tb_228) (fun _ h9 => h9) rfl d_Frame_chooseMask_1 ?_
  refine lv_lconst (v := (0 : Int64)) hx hb d_Frame_chooseMask_4 (by decide) ?_
  obtain ⟨b1, hc2, Hf⟩ := sq_cb1_e Hf
  refine sq_rwv (wn := (ww_Frame_chooseMask qt qt_maskRows qt_fixed qt_dark ct_maskRows vt_side vt_next vt_x vt_y b1)) (va_runS (As := [.ref qt_maskRows, .long (0 : Int64)]) (rest := []) ⟨hx, hb, hml, hown, ht⟩ (kt_JArrays_fill0 l dC dI qt_maskRows ct_maskRows 36 vt_maskRows (0 : Int64) s.heap.size n0 b1 hc2) (va_cwS 2 ht (sq_gS tb_474 tb_441 tb_18 tb_442) rfl rfl rfl (by decide +kernel) ⟨Nat.le_of_ble_eq_true rfl, Nat.le_of_ble_eq_true rfl⟩) (sq_rwS (hP.sub (ws' := (ww_JArrays_fill0 qt_maskRows ct_maskRows 36 vt_maskRows)) [1] rfl) (hK.sub (tys' := [(ct_maskRows, .long)]) [0] rfl) (hD.sub (ws' := (ww_JArrays_fill0 qt_maskRows ct_maskRows 36 vt_maskRows)) [1] (by decide) rfl)) rfl rfl hl.1 rfl (lv_room (Nat.le_of_ble_eq_true rfl)) d_Frame_chooseMask_5 ⟨Nat.le_of_ble_eq_true rfl, Nat.le_of_ble_eq_true rfl⟩) hP hD hS hA [1] [0] [0, 1] rfl rfl (by decide) (by decide) rfl (by decide) (fun H locs hP hD hS => ?_)
  refine lv_iconst (v := (0 : Int32)) hx hb d_Frame_chooseMask_8 (by decide) ?_
  refine lv_istore_n (lv' := [(2, .int (0 : Int32)), (0, .ref qt), (1, .int p1)]) hx hb d_Frame_chooseMask_9 rfl hl (by decide) rfl (fun ls hl => ?_)
  have L1 : ∀ (m1 : Nat), ∀ (x3 : Int32) (b4 : Nat → Int64), fn_Frame_chooseMask_L1 p1 n0 vt_side m1 x3 b4 = some nvt_maskRows → ∀ (H : Heap) (locs : List Loc), va_P (dC, dI) cl_All (ww_Frame_chooseMask qt qt_maskRows qt_fixed qt_dark ct_maskRows vt_side vt_next vt_x vt_y b4) H → va_D A (ww_Frame_chooseMask qt qt_maskRows qt_fixed qt_dark ct_maskRows vt_side vt_next vt_x vt_y b4) → va_S A s.heap H locs → ∀ ls : Array Slot, lv_has ls 4 [(0, .ref qt), (1, .int p1), (2, .int x3)] → W p l e (headSpec w_Frame_chooseMask rm_Frame_chooseMask).room s m (([.ref qt, .int p1] : List Value).toArray) below meth c H locs 0 0 (MQ below (qc_Frame_chooseMask dC dI A qt qt_maskRows qt_fixed qt_dark ct_maskRows vt_side vt_next vt_x vt_y nvt_maskRows) (([.ref qt, .int p1] : List Value).toArray) s 0 0 A) (F0 m 10 ls []) := by
    intro m1
    induction m1 with
    | zero => intro x3 b4 Hf; exact sq_none Hf
    | succ m1 ih1 =>
      intro x3 b4 Hf H locs  hP hD hS ls hl
      replace Hf := (fn_Frame_chooseMask_L1_s p1 n0 vt_side m1 x3 b4).symm.trans Hf
      refine lv_iload_n hx hb d_Frame_chooseMask_10 rfl (lv_at hl 2 rfl) ?_
      refine lv_bipush (v := (12 : Int32)) hx hb d_Frame_chooseMask_11 (by decide) ?_
      refine lv_icmp_ge (tgt := 76) hx hb d_Frame_chooseMask_13 (by decide) (fun c5 => ?_) (fun c5 => ?_)
      · replace Hf := sq_ite_t Hf c5
        obtain rfl := Option.some.inj Hf
        exact W.vret hx hb hr (fun t ht hW => ⟨⟨(), rfl, trivial, by rw [ht]; exact hP, hD⟩, hS.F ht⟩) hS.2.2 d_Frame_chooseMask_76
      · replace Hf := sq_ite_f Hf c5
        refine lv_iconst (v := (0 : Int32)) hx hb d_Frame_chooseMask_16 (by decide) ?_
        refine lv_istore_n (lv' := [(3, .int (0 : Int32)), (0, .ref qt), (1, .int p1), (2, .int x3)]) hx hb d_Frame_chooseMask_17 rfl hl (by decide) rfl (fun ls hl => ?_)
        obtain ⟨k7, hk7, Hf⟩ := sq_jn_e Hf
        have Jk7 : ∀ (b6 : Nat → Int64), k7 b6 = some nvt_maskRows → ∀ (H : Heap) (locs : List Loc), va_P (dC, dI) cl_All (ww_Frame_chooseMask qt qt_maskRows qt_fixed qt_dark ct_maskRows vt_side vt_next vt_x vt_y b6) H → va_D A (ww_Frame_chooseMask qt qt_maskRows qt_fixed qt_dark ct_maskRows vt_side vt_next vt_x vt_y b6) → va_S A s.heap H locs → ∀ ls : Array Slot, lv_has ls 4 [(0, .ref qt), (1, .int p1), (2, .int x3)] → W p l e (headSpec w_Frame_chooseMask rm_Frame_chooseMask).room s m (([.ref qt, .int p1] : List Value).toArray) below meth c H locs 0 0 (MQ below (qc_Frame_chooseMask dC dI A qt qt_maskRows qt_fixed qt_dark ct_maskRows vt_side vt_next vt_x vt_y nvt_maskRows) (([.ref qt, .int p1] : List Value).toArray) s 0 0 A) (F0 m 70 ls []) := by
          intro b6 Hf H locs  hP hD hS ls hl
          rw [hk7] at Hf
          obtain ⟨x8, ex8, Hf⟩ := sq_bd_e Hf
          refine lv_iinc (v := x8) (lv' := [(2, .int x8), (0, .ref qt), (1, .int p1)]) hx hb d_Frame_chooseMask_70 hl (k := 2) rfl (by rw [ex8]; rfl) (by decide) rfl (fun ls hl => ?_)
          refine lv_goto (tgt := 10) hx hb d_Frame_chooseMask_73 (by decide) ?_
          exact ih1 x8 b6 Hf _ _  hP hD hS _ (lv_sub hl [1, 2, 0] rfl)
        have L2 : ∀ (m2 : Nat), ∀ (x9 : Int32) (b10 : Nat → Int64), fn_Frame_chooseMask_L2 p1 vt_side x3 k7 m2 x9 b10 = some nvt_maskRows → ∀ (H : Heap) (locs : List Loc), va_P (dC, dI) cl_All (ww_Frame_chooseMask qt qt_maskRows qt_fixed qt_dark ct_maskRows vt_side vt_next vt_x vt_y b10) H → va_D A (ww_Frame_chooseMask qt qt_maskRows qt_fixed qt_dark ct_maskRows vt_side vt_next vt_x vt_y b10) → va_S A s.heap H locs → ∀ ls : Array Slot, lv_has ls 4 [(0, .ref qt), (1, .int p1), (2, .int x3), (3, .int x9)] → W p l e (headSpec w_Frame_chooseMask rm_Frame_chooseMask).room s m (([.ref qt, .int p1] : List Value).toArray) below meth c H locs 0 0 (MQ below (qc_Frame_chooseMask dC dI A qt qt_maskRows qt_fixed qt_dark ct_maskRows vt_side vt_next vt_x vt_y nvt_maskRows) (([.ref qt, .int p1] : List Value).toArray) s 0 0 A) (F0 m 18 ls []) := by
          intro m2
          induction m2 with
          | zero => intro x9 b10 Hf; exact sq_none Hf
          | succ m2 ih2 =>
            intro x9 b10 Hf H locs  hP hD hS ls hl
            replace Hf := (fn_Frame_chooseMask_L2_s p1 vt_side x3 k7 m2 x9 b10).symm.trans Hf
            refine lv_iload_n hx hb d_Frame_chooseMask_18 rfl (lv_at hl 3 rfl) ?_
            refine lv_aload_n hx hb d_Frame_chooseMask_19 rfl (lv_at hl 0 rfl) ?_
            refine va_get (D := (dC, dI)) (ci := 7) (v := .int vt_side) (C := R_Frame) (T := F_Frame) (N := 7) hx hb ht i_Frame hown hK hP 0 rfl rfl 3 (by decide) (ht _ tb_229) (fun _ h9 => h9) rfl d_Frame_chooseMask_20 ?_
            refine lv_icmp_ge (tgt := 70) hx hb d_Frame_chooseMask_23 (by decide) (fun c11 => ?_) (fun c11 => ?_)
            · replace Hf := sq_ite_t Hf c11
              exact Jk7 b10 Hf _ _  hP hD hS _ (lv_sub hl [0, 1, 2] rfl)
            · replace Hf := sq_ite_f Hf c11
              refine lv_iload_n hx hb d_Frame_chooseMask_26 rfl (lv_at hl 3 rfl) ?_
              refine lv_sipush (v := (177 : Int32)) hx hb d_Frame_chooseMask_27 (by decide) ?_
              refine lv_icmp_ge (tgt := 70) hx hb d_Frame_chooseMask_30 (by decide) (fun c12 => ?_) (fun c12 => ?_)
              · replace Hf := sq_ite_t Hf c12
                exact Jk7 b10 Hf _ _  hP hD hS _ (lv_sub hl [0, 1, 2] rfl)
              · replace Hf := sq_ite_f Hf c12
                refine lv_iload_n hx hb d_Frame_chooseMask_33 rfl (lv_at hl 1 rfl) ?_
                refine lv_iload_n hx hb d_Frame_chooseMask_34 rfl (lv_at hl 3 rfl) ?_
                refine lv_iload_n hx hb d_Frame_chooseMask_35 rfl (lv_at hl 2 rfl) ?_
                obtain ⟨r13, hc14, Hf⟩ := sq_cb1_e Hf
                refine sq_roi (va_runS (As := [.int p1, .int x9, .int x3]) (rest := []) ⟨hx, hb, hml, hown, ht⟩ (kt_Frame_isTurned l dC dI p1 x9 x3 r13 hc14) (va_cwS 3 ht (sq_gS tb_475 tb_476 tb_9 tb_477) rfl rfl rfl (by decide +kernel) ⟨Nat.le_of_ble_eq_true rfl, Nat.le_of_ble_eq_true rfl⟩) (sq_roS (hP.sub (ws' := ([] : va_W)) [] rfl) (hK.sub (tys' := []) [] rfl)) rfl rfl hl.1 rfl (lv_room (Nat.le_of_ble_eq_true rfl)) d_Frame_chooseMask_36 ⟨Nat.le_of_ble_eq_true rfl, Nat.le_of_ble_eq_true rfl⟩) ?_
                obtain ⟨k16, hk16, Hf⟩ := sq_jn_e Hf
                have Jk16 : ∀ (b15 : Nat → Int64), k16 b15 = some nvt_maskRows → ∀ (H : Heap) (locs : List Loc), va_P (dC, dI) cl_All (ww_Frame_chooseMask qt qt_maskRows qt_fixed qt_dark ct_maskRows vt_side vt_next vt_x vt_y b15) H → va_D A (ww_Frame_chooseMask qt qt_maskRows qt_fixed qt_dark ct_maskRows vt_side vt_next vt_x vt_y b15) → va_S A s.heap H locs → ∀ ls : Array Slot, lv_has ls 4 [(0, .ref qt), (1, .int p1), (2, .int x3), (3, .int x9)] → W p l e (headSpec w_Frame_chooseMask rm_Frame_chooseMask).room s m (([.ref qt, .int p1] : List Value).toArray) below meth c H locs 0 0 (MQ below (qc_Frame_chooseMask dC dI A qt qt_maskRows qt_fixed qt_dark ct_maskRows vt_side vt_next vt_x vt_y nvt_maskRows) (([.ref qt, .int p1] : List Value).toArray) s 0 0 A) (F0 m 64 ls []) := by
                  intro b15 Hf H locs  hP hD hS ls hl
                  rw [hk16] at Hf
                  obtain ⟨x17, ex17, Hf⟩ := sq_bd_e Hf
                  refine lv_iinc (v := x17) (lv' := [(3, .int x17), (0, .ref qt), (1, .int p1), (2, .int x3)]) hx hb d_Frame_chooseMask_64 hl (k := 3) rfl (by rw [ex17]; rfl) (by decide) rfl (fun ls hl => ?_)
                  refine lv_goto (tgt := 18) hx hb d_Frame_chooseMask_67 (by decide) ?_
                  exact ih2 x17 b15 Hf _ _  hP hD hS _ (lv_sub hl [1, 2, 3, 0] rfl)
                refine lv_if_eq (tgt := 64) hx hb d_Frame_chooseMask_39 (by decide) (fun c18 => ?_) (fun c18 => ?_)
                · replace Hf := sq_ite_t Hf c18
                  exact Jk16 b10 Hf _ _  hP hD hS _ (lv_sub hl [0, 1, 2, 3] rfl)
                · replace Hf := sq_ite_f Hf c18
                  refine lv_aload_n hx hb d_Frame_chooseMask_42 rfl (lv_at hl 0 rfl) ?_
                  refine va_get (D := (dC, dI)) (ci := 7) (v := .ref qt_maskRows) (C := R_Frame) (T := F_Frame) (N := 7) hx hb ht i_Frame hown hK hP 0 rfl rfl 2 (by decide) (ht _ tb_228) (fun _ h9 => h9) rfl d_Frame_chooseMask_43 ?_
                  refine lv_iconst (v := (3 : Int32)) hx hb d_Frame_chooseMask_46 (by decide) ?_
                  refine lv_iload_n hx hb d_Frame_chooseMask_47 rfl (lv_at hl 2 rfl) ?_
                  refine lv_imul hx hb d_Frame_chooseMask_48 ?_
                  refine lv_iload_n hx hb d_Frame_chooseMask_49 rfl (lv_at hl 3 rfl) ?_
                  refine lv_bipush (v := (6 : Int32)) hx hb d_Frame_chooseMask_50 (by decide) ?_
                  refine lv_ishr hx hb d_Frame_chooseMask_52 ?_
                  refine lv_iadd hx hb d_Frame_chooseMask_53 ?_
                  obtain ⟨x19, ex19, Hf⟩ := sq_bd_e Hf
                  refine sq_top ex19 ?_
                  refine lv_dup2_11 hx hb d_Frame_chooseMask_54 rfl rfl ?_
                  obtain ⟨hi20, Hf⟩ := sq_gi_e Hf
                  refine va_lald hx hb hK hP 1 0 rfl rfl hi20 d_Frame_chooseMask_55 ?_
                  obtain ⟨w21, ew21, Hf⟩ := sq_bd_e Hf
                  refine sq_topl ew21 ?_
                  refine lv_lconst (v := (1 : Int64)) hx hb d_Frame_chooseMask_56 (by decide) ?_
                  refine lv_iload_n hx hb d_Frame_chooseMask_57 rfl (lv_at hl 3 rfl) ?_
                  refine lv_bipush (v := (63 : Int32)) hx hb d_Frame_chooseMask_58 (by decide) ?_
                  refine lv_iand hx hb d_Frame_chooseMask_60 ?_
                  refine lv_lshl hx hb d_Frame_chooseMask_61 rfl ?_
                  obtain ⟨w22, ew22, Hf⟩ := sq_bd_e Hf
                  refine sq_topl ew22 ?_
                  refine lv_lor hx hb d_Frame_chooseMask_62 ?_
                  obtain ⟨w23, ew23, Hf⟩ := sq_bd_e Hf
                  refine sq_topl ew23 ?_
                  obtain ⟨hi24, Hf⟩ := sq_gi_e Hf
                  obtain ⟨b25, eb25, Hf⟩ := sq_bd_e Hf
                  refine va_last hx hb hK hP hD hS 1 0 rfl rfl hi24 d_Frame_chooseMask_63 (fun H locs hP hD hS => ?_)
                  rw [← eb25] at hP hD
                  replace hP : va_P (dC, dI) cl_All (ww_Frame_chooseMask qt qt_maskRows qt_fixed qt_dark ct_maskRows vt_side vt_next vt_x vt_y b25) H := hP
                  replace hD : va_D A (ww_Frame_chooseMask qt qt_maskRows qt_fixed qt_dark ct_maskRows vt_side vt_next vt_x vt_y b25) := hD
                  exact Jk16 b25 Hf _ _  hP hD hS _ (lv_sub hl [0, 1, 2, 3] rfl)
        exact L2 n0 (0 : Int32) b4 Hf _ _  hP hD hS _ (lv_sub hl [1, 2, 3, 0] rfl)
  exact L1 n0 (0 : Int32) b1 Hf _ _  hP hD hS _ (lv_sub hl [1, 2, 0] rfl)

def fn_Frame_turnMask_L2 (vp1_side : Int32) (vt_fixed_side : Int32) (vt_maskRows : Nat → Int64) (vt_fixed_words : Nat → Int64) (x1 : Int32) (k5 : (Nat → Int64) → Option ((Nat → Int64))) : Nat → Int32 → (Nat → Int64) → Option ((Nat → Int64))
  | 0, _, _ => none
  | m2 + 1, x7, b8 => if (3 : Int32) ≤ x7 then (k5 b8) else (sq_bd (sq_rem x1 (12 : Int32)) fun x10 => sq_bd (((3 : Int32) * x10) + x7) fun x11 => sq_gi x11 36 <| sq_bd (vt_maskRows x11.toNatClampNeg) fun w13 => sq_cb1 (fn_Grid_from ((64 : Int32) * x7) x1 vt_fixed_side vt_fixed_words) fun u14 => sq_cb2 (fn_Grid_turn x7 x1 (w13 &&& (u14 ^^^ (-1 : Int64))) vp1_side b8) fun r16 b17 => sq_bd (x7 + (1 : Int32)) fun x19 => fn_Frame_turnMask_L2 vp1_side vt_fixed_side vt_maskRows vt_fixed_words x1 k5 m2 x19 b17)
theorem fn_Frame_turnMask_L2_s (vp1_side : Int32) (vt_fixed_side : Int32) (vt_maskRows : Nat → Int64) (vt_fixed_words : Nat → Int64) (x1 : Int32) (k5 : (Nat → Int64) → Option ((Nat → Int64))) (m2 : Nat) (x7 : Int32) (b8 : Nat → Int64) : fn_Frame_turnMask_L2 vp1_side vt_fixed_side vt_maskRows vt_fixed_words x1 k5 (m2 + 1) x7 b8 = if (3 : Int32) ≤ x7 then (k5 b8) else (sq_bd (sq_rem x1 (12 : Int32)) fun x10 => sq_bd (((3 : Int32) * x10) + x7) fun x11 => sq_gi x11 36 <| sq_bd (vt_maskRows x11.toNatClampNeg) fun w13 => sq_cb1 (fn_Grid_from ((64 : Int32) * x7) x1 vt_fixed_side vt_fixed_words) fun u14 => sq_cb2 (fn_Grid_turn x7 x1 (w13 &&& (u14 ^^^ (-1 : Int64))) vp1_side b8) fun r16 b17 => sq_bd (x7 + (1 : Int32)) fun x19 => fn_Frame_turnMask_L2 vp1_side vt_fixed_side vt_maskRows vt_fixed_words x1 k5 m2 x19 b17) := rfl
def fn_Frame_turnMask_L1 (n0 : Nat) (vp1_side : Int32) (vt_side : Int32) (vt_fixed_side : Int32) (vt_maskRows : Nat → Int64) (vt_fixed_words : Nat → Int64) : Nat → Int32 → (Nat → Int64) → Option ((Nat → Int64))
  | 0, _, _ => none
  | m1 + 1, x1, b2 => if vt_side ≤ x1 then (some b2) else (sq_jn (fun (b4 : Nat → Int64) => sq_bd (x1 + (1 : Int32)) fun x6 => fn_Frame_turnMask_L1 n0 vp1_side vt_side vt_fixed_side vt_maskRows vt_fixed_words m1 x6 b4) fun k5 => fn_Frame_turnMask_L2 vp1_side vt_fixed_side vt_maskRows vt_fixed_words x1 k5 n0 (0 : Int32) b2)
theorem fn_Frame_turnMask_L1_s (n0 : Nat) (vp1_side : Int32) (vt_side : Int32) (vt_fixed_side : Int32) (vt_maskRows : Nat → Int64) (vt_fixed_words : Nat → Int64) (m1 : Nat) (x1 : Int32) (b2 : Nat → Int64) : fn_Frame_turnMask_L1 n0 vp1_side vt_side vt_fixed_side vt_maskRows vt_fixed_words (m1 + 1) x1 b2 = if vt_side ≤ x1 then (some b2) else (sq_jn (fun (b4 : Nat → Int64) => sq_bd (x1 + (1 : Int32)) fun x6 => fn_Frame_turnMask_L1 n0 vp1_side vt_side vt_fixed_side vt_maskRows vt_fixed_words m1 x6 b4) fun k5 => fn_Frame_turnMask_L2 vp1_side vt_fixed_side vt_maskRows vt_fixed_words x1 k5 n0 (0 : Int32) b2) := rfl
def fn_Frame_turnMask (n0 : Nat) (vp1_side : Int32) (vt_side : Int32) (vp1_words : Nat → Int64) (vt_fixed_side : Int32) (vt_maskRows : Nat → Int64) (vt_fixed_words : Nat → Int64) : Option ((Nat → Int64)) :=
  fn_Frame_turnMask_L1 n0 vp1_side vt_side vt_fixed_side vt_maskRows vt_fixed_words n0 (0 : Int32) vp1_words
abbrev ww_Frame_turnMask (qp1 qt qp1_words qt_fixed qt_maskRows qt_fixed_words qt_dark : Nat) (cp1_words ct_maskRows ct_fixed_words : ClassId) (vp1_side : Int32) (vt_side : Int32) (vt_next : Int32) (vt_x : Int32) (vt_y : Int32) (vp1_words : Nat → Int64) (vt_fixed_side : Int32) (vt_maskRows : Nat → Int64) (vt_fixed_words : Nat → Int64) : va_W := [(qp1, .inr (6, [.ref qp1_words, .int vp1_side])), (qt, .inr (7, [.ref qt_fixed, .ref qt_dark, .ref qt_maskRows, .int vt_side, .int vt_next, .int vt_x, .int vt_y])), (qp1_words, .inl (cp1_words, 531, .inr (.inl vp1_words))), (qt_fixed, .inr (6, [.ref qt_fixed_words, .int vt_fixed_side])), (qt_maskRows, .inl (ct_maskRows, 36, .inr (.inl vt_maskRows))), (qt_fixed_words, .inl (ct_fixed_words, 531, .inr (.inl vt_fixed_words)))]

def rm_Frame_turnMask : Room := { frames := 2, cells := 0, slots := 0, locals := 47 }
abbrev qc_Frame_turnMask (dC : Nat → ClassId) (dI : Nat → Nat → Nat) (A : Nat → Prop) (qp1 qt qp1_words qt_fixed qt_maskRows qt_fixed_words qt_dark : Nat) (cp1_words ct_maskRows ct_fixed_words : ClassId) (vp1_side : Int32) (vt_side : Int32) (vt_next : Int32) (vt_x : Int32) (vt_y : Int32) (vp1_words : Nat → Int64) (vt_fixed_side : Int32) (vt_maskRows : Nat → Int64) (vt_fixed_words : Nat → Int64) : Array Value → State → Outcome → State → Prop := va_Qv (fun (_ : Unit) => True) (fun _ t => va_P (dC, dI) cl_All (ww_Frame_turnMask qp1 qt qp1_words qt_fixed qt_maskRows qt_fixed_words qt_dark cp1_words ct_maskRows ct_fixed_words vp1_side vt_side vt_next vt_x vt_y vp1_words vt_fixed_side vt_maskRows vt_fixed_words) t.heap ∧ va_D A (ww_Frame_turnMask qp1 qt qp1_words qt_fixed qt_maskRows qt_fixed_words qt_dark cp1_words ct_maskRows ct_fixed_words vp1_side vt_side vt_next vt_x vt_y vp1_words vt_fixed_side vt_maskRows vt_fixed_words)) A

set_option maxHeartbeats 4000000 in
set_option maxRecDepth 100000 in
theorem kt_Frame_turnMask (l : Launch) (dC : Nat → ClassId) (dI : Nat → Nat → Nat) (qp1 qt qp1_words qt_fixed qt_maskRows qt_fixed_words qt_dark : Nat) (cp1_words ct_maskRows ct_fixed_words : ClassId) (vp1_side : Int32) (vt_side : Int32) (vt_next : Int32) (vt_x : Int32) (vt_y : Int32) (vp1_words : Nat → Int64) (vt_fixed_side : Int32) (vt_maskRows : Nat → Int64) (vt_fixed_words : Nat → Int64) (tt : Nat → Nat) (sz : Nat) (n0 : Nat) (nvp1_words : Nat → Int64) (Hf : fn_Frame_turnMask n0 vp1_side vt_side vp1_words vt_fixed_side vt_maskRows vt_fixed_words = some nvp1_words) : Met l y_Frame_turnMask w_Frame_turnMask rm_Frame_turnMask (va_Pc [.ref qt, .ref qp1] (fun U => U.heap.size = sz ∧ va_P (dC, dI) cl_All (ww_Frame_turnMask qp1 qt qp1_words qt_fixed qt_maskRows qt_fixed_words qt_dark cp1_words ct_maskRows ct_fixed_words vp1_side vt_side vt_next vt_x vt_y vp1_words vt_fixed_side vt_maskRows vt_fixed_words) U.heap ∧ va_K (dC, dI) cl_All [(cp1_words, .long), (ct_maskRows, .long), (ct_fixed_words, .long)] U ∧ va_D (fun _ => True) (ww_Frame_turnMask qp1 qt qp1_words qt_fixed qt_maskRows qt_fixed_words qt_dark cp1_words ct_maskRows ct_fixed_words vp1_side vt_side vt_next vt_x vt_y vp1_words vt_fixed_side vt_maskRows vt_fixed_words) ∧ sx_T tt (va_A (ww_Frame_turnMask qp1 qt qp1_words qt_fixed qt_maskRows qt_fixed_words qt_dark cp1_words ct_maskRows ct_fixed_words vp1_side vt_side vt_next vt_x vt_y vp1_words vt_fixed_side vt_maskRows vt_fixed_words) sz) U U.heap)) (qc_Frame_turnMask dC dI (va_A (ww_Frame_turnMask qp1 qt qp1_words qt_fixed qt_maskRows qt_fixed_words qt_dark cp1_words ct_maskRows ct_fixed_words vp1_side vt_side vt_next vt_x vt_y vp1_words vt_fixed_side vt_maskRows vt_fixed_words) sz) qp1 qt qp1_words qt_fixed qt_maskRows qt_fixed_words qt_dark cp1_words ct_maskRows ct_fixed_words vp1_side vt_side vt_next vt_x vt_y nvp1_words vt_fixed_side vt_maskRows vt_fixed_words) 0 0 (va_A (ww_Frame_turnMask qp1 qt qp1_words qt_fixed qt_maskRows qt_fixed_words qt_dark cp1_words ct_maskRows ct_fixed_words vp1_side vt_side vt_next vt_x vt_y vp1_words vt_fixed_side vt_maskRows vt_fixed_words) sz) := by
  refine Met.ofW (cc := prog_6_method_18_code) (maxL := 6) (ret := none) (by decide) rfl ?_
  intro p e s m args below meth c s₁ B hml hv
  obtain ⟨rfl, hsz, hP, hK, hD0, hX⟩ := hv
  have hx := B.exec; have hb := B.bytes; have hr := B.returns; have hlocks := B.notSynchronized
  have ht : ∀ w ∈ lw_g, w.before _ s = true := fun w h => atoms_spec (ws := w_Frame_turnMask) B.pre w (List.mem_cons_of_mem _ h)
  have hown : s.vm.findClass "SquareSymbols$Frame" = some m.cls := findClass_of_methodNamed B.named
  subst hsz
  have hD := hD0.self (sz := s.heap.size)
  generalize hAe : va_A (ww_Frame_turnMask qp1 qt qp1_words qt_fixed qt_maskRows qt_fixed_words qt_dark cp1_words ct_maskRows ct_fixed_words vp1_side vt_side vt_next vt_x vt_y vp1_words vt_fixed_side vt_maskRows vt_fixed_words) s.heap.size = A at hD hX ⊢
  have hA : ∀ q : Nat, s.heap.size ≤ q → A q := fun q h => by rw [← hAe]; exact Or.inr h
  have hS : va_S A s.heap s.heap [] := va_S.rf
  have hl := lv_entry ([.ref qt, .ref qp1]) (n := 6) (Nat.le_of_ble_eq_true rfl)
  rw [lg_entry_eq]
  generalize (lg_sl ([.ref qt, .ref qp1]) ++ List.replicate (6 - (lg_sl ([.ref qt, .ref qp1])).length) Slot.unset).toArray = ls at hl ⊢
  have hl : lv_has ls 6 [(0, .ref qt), (1, .ref qp1)] := hl
  refine lv_iconst (v := (0 : Int32)) hx hb d_Frame_turnMask_0 (by decide) ?_
  refine lv_istore_n (lv' := [(2, .int (0 : Int32)), (0, .ref qt), (1, .ref qp1)]) hx hb d_Frame_turnMask_1 rfl hl (by decide) rfl (fun ls hl => ?_)
  have L1 : ∀ (m1 : Nat), ∀ (x1 : Int32) (b2 : Nat → Int64), fn_Frame_turnMask_L1 n0 vp1_side vt_side vt_fixed_side vt_maskRows vt_fixed_words m1 x1 b2 = some nvp1_words → ∀ (H : Heap) (locs : List Loc), va_P (dC, dI) cl_All (ww_Frame_turnMask qp1 qt qp1_words qt_fixed qt_maskRows qt_fixed_words qt_dark cp1_words ct_maskRows ct_fixed_words vp1_side vt_side vt_next vt_x vt_y b2 vt_fixed_side vt_maskRows vt_fixed_words) H → va_D A (ww_Frame_turnMask qp1 qt qp1_words qt_fixed qt_maskRows qt_fixed_words qt_dark cp1_words ct_maskRows ct_fixed_words vp1_side vt_side vt_next vt_x vt_y b2 vt_fixed_side vt_maskRows vt_fixed_words) → va_S A s.heap H locs → ∀ ls : Array Slot, lv_has ls 6 [(0, .ref qt), (1, .ref qp1), (2, .int x1)] → W p l e (headSpec w_Frame_turnMask rm_Frame_turnMask).room s m (([.ref qt, .ref qp1] : List Value).toArray) below meth c H locs 0 0 (MQ below (qc_Frame_turnMask dC dI A qp1 qt qp1_words qt_fixed qt_maskRows qt_fixed_words qt_dark cp1_words ct_maskRows ct_fixed_words vp1_side vt_side vt_next vt_x vt_y nvp1_words vt_fixed_side vt_maskRows vt_fixed_words) (([.ref qt, .ref qp1] : List Value).toArray) s 0 0 A) (F0 m 2 ls []) := by
    intro m1
    induction m1 with
    | zero => intro x1 b2 Hf; exact sq_none Hf
    | succ m1 ih1 =>
      intro x1 b2 Hf H locs  hP hD hS ls hl
      replace Hf := (fn_Frame_turnMask_L1_s n0 vp1_side vt_side vt_fixed_side vt_maskRows vt_fixed_words m1 x1 b2).symm.trans Hf
      refine lv_iload_n hx hb d_Frame_turnMask_2 rfl (lv_at hl 2 rfl) ?_
      refine lv_aload_n hx hb d_Frame_turnMask_3 rfl (lv_at hl 0 rfl) ?_
      refine va_get (D := (dC, dI)) (ci := 7) (v := .int vt_side) (C := R_Frame) (T := F_Frame) (N := 7) hx hb ht i_Frame hown hK hP 1 rfl rfl 3 (by decide) (ht _ tb_229) (fun _ h9 => h9) rfl d_Frame_turnMask_4 ?_
      refine lv_icmp_ge (tgt := 70) hx hb d_Frame_turnMask_7 (by decide) (fun c3 => ?_) (fun c3 => ?_)
      · replace Hf := sq_ite_t Hf c3
        obtain rfl := Option.some.inj Hf
        exact W.vret hx hb hr (fun t ht hW => ⟨⟨(), rfl, trivial, by rw [ht]; exact hP, hD⟩, hS.F ht⟩) hS.2.2 d_Frame_turnMask_70
      · replace Hf := sq_ite_f Hf c3
        refine lv_iconst (v := (0 : Int32)) hx hb d_Frame_turnMask_10 (by decide) ?_
        refine lv_istore_n (lv' := [(3, .int (0 : Int32)), (0, .ref qt), (1, .ref qp1), (2, .int x1)]) hx hb d_Frame_turnMask_11 rfl hl (by decide) rfl (fun ls hl => ?_)
        obtain ⟨k5, hk5, Hf⟩ := sq_jn_e Hf
        have Jk5 : ∀ (b4 : Nat → Int64), k5 b4 = some nvp1_words → ∀ (H : Heap) (locs : List Loc), va_P (dC, dI) cl_All (ww_Frame_turnMask qp1 qt qp1_words qt_fixed qt_maskRows qt_fixed_words qt_dark cp1_words ct_maskRows ct_fixed_words vp1_side vt_side vt_next vt_x vt_y b4 vt_fixed_side vt_maskRows vt_fixed_words) H → va_D A (ww_Frame_turnMask qp1 qt qp1_words qt_fixed qt_maskRows qt_fixed_words qt_dark cp1_words ct_maskRows ct_fixed_words vp1_side vt_side vt_next vt_x vt_y b4 vt_fixed_side vt_maskRows vt_fixed_words) → va_S A s.heap H locs → ∀ ls : Array Slot, lv_has ls 6 [(0, .ref qt), (1, .ref qp1), (2, .int x1)] → W p l e (headSpec w_Frame_turnMask rm_Frame_turnMask).room s m (([.ref qt, .ref qp1] : List Value).toArray) below meth c H locs 0 0 (MQ below (qc_Frame_turnMask dC dI A qp1 qt qp1_words qt_fixed qt_maskRows qt_fixed_words qt_dark cp1_words ct_maskRows ct_fixed_words vp1_side vt_side vt_next vt_x vt_y nvp1_words vt_fixed_side vt_maskRows vt_fixed_words) (([.ref qt, .ref qp1] : List Value).toArray) s 0 0 A) (F0 m 64 ls []) := by
          intro b4 Hf H locs  hP hD hS ls hl
          rw [hk5] at Hf
          obtain ⟨x6, ex6, Hf⟩ := sq_bd_e Hf
          refine lv_iinc (v := x6) (lv' := [(2, .int x6), (0, .ref qt), (1, .ref qp1)]) hx hb d_Frame_turnMask_64 hl (k := 2) rfl (by rw [ex6]; rfl) (by decide) rfl (fun ls hl => ?_)
          refine lv_goto (tgt := 2) hx hb d_Frame_turnMask_67 (by decide) ?_
          exact ih1 x6 b4 Hf _ _  hP hD hS _ (lv_sub hl [1, 2, 0] rfl)
        have L2 : ∀ (m2 : Nat), ∀ (x7 : Int32) (b8 : Nat → Int64), fn_Frame_turnMask_L2 vp1_side vt_fixed_side vt_maskRows vt_fixed_words x1 k5 m2 x7 b8 = some nvp1_words → ∀ (H : Heap) (locs : List Loc), va_P (dC, dI) cl_All (ww_Frame_turnMask qp1 qt qp1_words qt_fixed qt_maskRows qt_fixed_words qt_dark cp1_words ct_maskRows ct_fixed_words vp1_side vt_side vt_next vt_x vt_y b8 vt_fixed_side vt_maskRows vt_fixed_words) H → va_D A (ww_Frame_turnMask qp1 qt qp1_words qt_fixed qt_maskRows qt_fixed_words qt_dark cp1_words ct_maskRows ct_fixed_words vp1_side vt_side vt_next vt_x vt_y b8 vt_fixed_side vt_maskRows vt_fixed_words) → va_S A s.heap H locs → ∀ ls : Array Slot, lv_has ls 6 [(0, .ref qt), (1, .ref qp1), (2, .int x1), (3, .int x7)] → W p l e (headSpec w_Frame_turnMask rm_Frame_turnMask).room s m (([.ref qt, .ref qp1] : List Value).toArray) below meth c H locs 0 0 (MQ below (qc_Frame_turnMask dC dI A qp1 qt qp1_words qt_fixed qt_maskRows qt_fixed_words qt_dark cp1_words ct_maskRows ct_fixed_words vp1_side vt_side vt_next vt_x vt_y nvp1_words vt_fixed_side vt_maskRows vt_fixed_words) (([.ref qt, .ref qp1] : List Value).toArray) s 0 0 A) (F0 m 12 ls []) := by
          intro m2
          induction m2 with
          | zero => intro x7 b8 Hf; exact sq_none Hf
          | succ m2 ih2 =>
            intro x7 b8 Hf H locs  hP hD hS ls hl
            replace Hf := (fn_Frame_turnMask_L2_s vp1_side vt_fixed_side vt_maskRows vt_fixed_words x1 k5 m2 x7 b8).symm.trans Hf
            refine lv_iload_n hx hb d_Frame_turnMask_12 rfl (lv_at hl 3 rfl) ?_
            refine lv_iconst (v := (3 : Int32)) hx hb d_Frame_turnMask_13 (by decide) ?_
            refine lv_icmp_ge (tgt := 64) hx hb d_Frame_turnMask_14 (by decide) (fun c9 => ?_) (fun c9 => ?_)
            · replace Hf := sq_ite_t Hf c9
              exact Jk5 b8 Hf _ _  hP hD hS _ (lv_sub hl [0, 1, 2] rfl)
            · replace Hf := sq_ite_f Hf c9
              refine lv_aload_n hx hb d_Frame_turnMask_17 rfl (lv_at hl 0 rfl) ?_
              refine va_get (D := (dC, dI)) (ci := 7) (v := .ref qt_maskRows) (C := R_Frame) (T := F_Frame) (N := 7) hx hb ht i_Frame hown hK hP 1 rfl rfl 2 (by decide) (ht _ tb_228) (fun _ h9 => h9) rfl d_Frame_turnMask_18 ?_
              refine lv_iconst (v := (3 : Int32)) hx hb d_Frame_turnMask_21 (by decide) ?_
              refine lv_iload_n hx hb d_Frame_turnMask_22 rfl (lv_at hl 2 rfl) ?_
              refine lv_bipush (v := (12 : Int32)) hx hb d_Frame_turnMask_23 (by decide) ?_
              refine lv_irem hx hb d_Frame_turnMask_25 (by decide) ?_
              obtain ⟨x10, ex10, Hf⟩ := sq_bd_e Hf
              refine sq_top ex10 ?_
              refine lv_imul hx hb d_Frame_turnMask_26 ?_
              refine lv_iload_n hx hb d_Frame_turnMask_27 rfl (lv_at hl 3 rfl) ?_
              refine lv_iadd hx hb d_Frame_turnMask_28 ?_
              obtain ⟨x11, ex11, Hf⟩ := sq_bd_e Hf
              refine sq_top ex11 ?_
              obtain ⟨hi12, Hf⟩ := sq_gi_e Hf
              refine va_lald hx hb hK hP 4 1 rfl rfl hi12 d_Frame_turnMask_29 ?_
              obtain ⟨w13, ew13, Hf⟩ := sq_bd_e Hf
              refine sq_topl ew13 ?_
              refine lv_lstore (lv' := [(4, .long w13), (0, .ref qt), (1, .ref qp1), (2, .int x1), (3, .int x7)]) hx hb d_Frame_turnMask_30 hl (by decide) rfl (fun ls hl => ?_)
              refine lv_aload_n hx hb d_Frame_turnMask_32 rfl (lv_at hl 2 rfl) ?_
              refine lv_iload_n hx hb d_Frame_turnMask_33 rfl (lv_at hl 4 rfl) ?_
              refine lv_iload_n hx hb d_Frame_turnMask_34 rfl (lv_at hl 3 rfl) ?_
              refine lv_lload hx hb d_Frame_turnMask_35 (lv_at hl 0 rfl) ?_
              refine lv_aload_n hx hb d_Frame_turnMask_37 rfl (lv_at hl 1 rfl) ?_
              refine va_get (D := (dC, dI)) (ci := 7) (v := .ref qt_fixed) (C := R_Frame) (T := F_Frame) (N := 7) hx hb ht i_Frame hown hK hP 1 rfl rfl 0 (by decide) (ht _ tb_225) (fun _ h9 => h9) rfl d_Frame_turnMask_38 ?_
              refine lv_bipush (v := (64 : Int32)) hx hb d_Frame_turnMask_41 (by decide) ?_
              refine lv_iload_n hx hb d_Frame_turnMask_43 rfl (lv_at hl 4 rfl) ?_
              refine lv_imul hx hb d_Frame_turnMask_44 ?_
              refine lv_iload_n hx hb d_Frame_turnMask_45 rfl (lv_at hl 3 rfl) ?_
              obtain ⟨u14, hc15, Hf⟩ := sq_cb1_e Hf
              refine sq_rol (va_runV (As := [.int ((64 : Int32) * x7), .int x1]) (rest := [.long w13, .int x1, .int x7, .ref qp1]) ⟨hx, hb, hml, hown, ht⟩ (kt_Grid_from l dC dI qt_fixed qt_fixed_words ct_fixed_words vt_fixed_side vt_fixed_words ((64 : Int32) * x7) x1 u14 hc15) (cwV 2 ht (sq_gV tb_482 tb_326 tb_327 tb_8 tb_328) rfl rfl rfl (by decide +kernel) ⟨Nat.le_of_ble_eq_true rfl, Nat.le_of_ble_eq_true rfl⟩) (sq_roV (hP.sub (ws' := (ww_Grid_from qt_fixed qt_fixed_words ct_fixed_words vt_fixed_side vt_fixed_words)) [3, 5] rfl) (hK.sub (tys' := [(ct_fixed_words, .long)]) [2] rfl) (va_recv hK hP (ci := 6) (q0 := 3) rfl rfl)) rfl rfl hl.1 rfl (lv_room (Nat.le_of_ble_eq_true rfl)) d_Frame_turnMask_46 ⟨Nat.le_of_ble_eq_true rfl, Nat.le_of_ble_eq_true rfl⟩) ?_
              refine lv_ldc2 (v := (-1 : Int64)) hx hb hown (ht _ tb_483) d_Frame_turnMask_49 ?_
              refine lv_lxor hx hb d_Frame_turnMask_52 ?_
              refine lv_land hx hb d_Frame_turnMask_53 ?_
              obtain ⟨r16, b17, hc18, Hf⟩ := sq_cb2_e Hf
              refine sq_rwi (wn := (ww_Frame_turnMask qp1 qt qp1_words qt_fixed qt_maskRows qt_fixed_words qt_dark cp1_words ct_maskRows ct_fixed_words vp1_side vt_side vt_next vt_x vt_y b17 vt_fixed_side vt_maskRows vt_fixed_words)) (va_runV (As := [.int x7, .int x1, .long (w13 &&& (u14 ^^^ (-1 : Int64)))]) (rest := []) ⟨hx, hb, hml, hown, ht⟩ (kt_Grid_turn l dC dI qp1 qp1_words cp1_words vp1_side b8 x7 x1 (w13 &&& (u14 ^^^ (-1 : Int64))) tt H.size r16 b17 hc18) (cwV 3 ht (sq_gV tb_484 tb_338 tb_339 tb_8 tb_340) rfl rfl rfl (by decide +kernel) ⟨Nat.le_of_ble_eq_true rfl, Nat.le_of_ble_eq_true rfl⟩) (sq_rwVX (hP.sub (ws' := (ww_Grid_turn qp1 qp1_words cp1_words vp1_side b8)) [0, 2] rfl) (hK.sub (tys' := [(cp1_words, .long)]) [0] rfl) (hD.sub (ws' := (ww_Grid_turn qp1 qp1_words cp1_words vp1_side b8)) [0, 2] (by decide) rfl) (va_recv hK hP (ci := 6) (q0 := 0) rfl rfl) hX hS (va_free (wc := (ww_Grid_turn qp1 qp1_words cp1_words vp1_side b8)) hD hS hA [0, 2] rfl)) rfl rfl hl.1 rfl (lv_room (Nat.le_of_ble_eq_true rfl)) d_Frame_turnMask_54 ⟨Nat.le_of_ble_eq_true rfl, Nat.le_of_ble_eq_true rfl⟩) hP hD hS hA [0, 2] [1, 3, 4, 5] [4, 0, 5, 1, 2, 3] rfl rfl (by decide) (by decide) rfl (by decide) (fun H locs hP hD hS => ?_)
              refine lv_pop hx hb d_Frame_turnMask_57 rfl ?_
              obtain ⟨x19, ex19, Hf⟩ := sq_bd_e Hf
              refine lv_iinc (v := x19) (lv' := [(3, .int x19), (4, .long w13), (0, .ref qt), (1, .ref qp1), (2, .int x1)]) hx hb d_Frame_turnMask_58 hl (k := 4) rfl (by rw [ex19]; rfl) (by decide) rfl (fun ls hl => ?_)
              refine lv_goto (tgt := 12) hx hb d_Frame_turnMask_61 (by decide) ?_
              exact ih2 x19 b17 Hf _ _  hP hD hS _ (lv_sub hl [2, 3, 4, 0] rfl)
        exact L2 n0 (0 : Int32) b2 Hf _ _  hP hD hS _ (lv_sub hl [1, 2, 3, 0] rfl)
  exact L1 n0 (0 : Int32) vp1_words Hf _ _  hP hD hS _ (lv_sub hl [1, 2, 0] rfl)

def fn_Frame_step_L1 (vt_side : Int32) (vt_fixed_side : Int32) (vt_fixed_words : Nat → Int64) (x2 : Int32) (x3 : Int32) : Nat → Int32 → Int32 → Int32 → Option (Int32 × Int32 × Int32 × Int32)
  | 0, _, _, _ => none
  | m1 + 1, b4, b5, b6 => if x3 ≤ b4 then (some ((0 : Int32), b4, b5, b6)) else (sq_gz x2 <| sq_bd (b4 / x2) fun x9 => sq_gz x2 <| sq_bd (sq_rem b4 x2) fun x11 => sq_bd (b4 + (1 : Int32)) fun x12 => sq_bd ((vt_side - (1 : Int32)) - ((2 : Int32) * x9)) fun x13 => sq_jn (fun (x14 : Int32) => sq_bd (sq_rem x11 (2 : Int32)) fun x16 => sq_bd (x14 - x16) fun x17 => sq_bd (sq_rem x9 (2 : Int32)) fun x18 => sq_jn (fun (x19 : Int32) => sq_cb1 (fn_Grid_isDark x17 x19 vt_fixed_side vt_fixed_words) fun r21 => if r21 = 0 then (some ((1 : Int32), x12, x17, x19)) else (fn_Frame_step_L1 vt_side vt_fixed_side vt_fixed_words x2 x3 m1 x12 x17 x19)) fun k20 => if x18 = 0 then (k20 ((vt_side - (1 : Int32)) - (x11 / (2 : Int32)))) else (k20 (x11 / (2 : Int32)))) fun k15 => if x13 ≤ (6 : Int32) then (k15 (x13 - (1 : Int32))) else (k15 x13))
theorem fn_Frame_step_L1_s (vt_side : Int32) (vt_fixed_side : Int32) (vt_fixed_words : Nat → Int64) (x2 : Int32) (x3 : Int32) (m1 : Nat) (b4 : Int32) (b5 : Int32) (b6 : Int32) : fn_Frame_step_L1 vt_side vt_fixed_side vt_fixed_words x2 x3 (m1 + 1) b4 b5 b6 = if x3 ≤ b4 then (some ((0 : Int32), b4, b5, b6)) else (sq_gz x2 <| sq_bd (b4 / x2) fun x9 => sq_gz x2 <| sq_bd (sq_rem b4 x2) fun x11 => sq_bd (b4 + (1 : Int32)) fun x12 => sq_bd ((vt_side - (1 : Int32)) - ((2 : Int32) * x9)) fun x13 => sq_jn (fun (x14 : Int32) => sq_bd (sq_rem x11 (2 : Int32)) fun x16 => sq_bd (x14 - x16) fun x17 => sq_bd (sq_rem x9 (2 : Int32)) fun x18 => sq_jn (fun (x19 : Int32) => sq_cb1 (fn_Grid_isDark x17 x19 vt_fixed_side vt_fixed_words) fun r21 => if r21 = 0 then (some ((1 : Int32), x12, x17, x19)) else (fn_Frame_step_L1 vt_side vt_fixed_side vt_fixed_words x2 x3 m1 x12 x17 x19)) fun k20 => if x18 = 0 then (k20 ((vt_side - (1 : Int32)) - (x11 / (2 : Int32)))) else (k20 (x11 / (2 : Int32)))) fun k15 => if x13 ≤ (6 : Int32) then (k15 (x13 - (1 : Int32))) else (k15 x13)) := rfl
def fn_Frame_step (n0 : Nat) (vt_side : Int32) (vt_next : Int32) (vt_x : Int32) (vt_y : Int32) (vt_fixed_side : Int32) (vt_fixed_words : Nat → Int64) : Option (Int32 × Int32 × Int32 × Int32) :=
  sq_bd ((2 : Int32) * vt_side) fun x1 => sq_bd (sq_max (1 : Int32) x1) fun x2 => sq_bd (vt_side * (vt_side - (1 : Int32))) fun x3 => fn_Frame_step_L1 vt_side vt_fixed_side vt_fixed_words x2 x3 n0 vt_next vt_x vt_y
abbrev ww_Frame_step (qt qt_fixed qt_fixed_words qt_dark qt_maskRows : Nat) (ct_fixed_words : ClassId) (vt_side : Int32) (vt_next : Int32) (vt_x : Int32) (vt_y : Int32) (vt_fixed_side : Int32) (vt_fixed_words : Nat → Int64) : va_W := [(qt, .inr (7, [.ref qt_fixed, .ref qt_dark, .ref qt_maskRows, .int vt_side, .int vt_next, .int vt_x, .int vt_y])), (qt_fixed, .inr (6, [.ref qt_fixed_words, .int vt_fixed_side])), (qt_fixed_words, .inl (ct_fixed_words, 531, .inr (.inl vt_fixed_words)))]

def rm_Frame_step : Room := { frames := 2, cells := 0, slots := 0, locals := 44 }
abbrev qc_Frame_step (dC : Nat → ClassId) (dI : Nat → Nat → Nat) (A : Nat → Prop) (r0 : Int32) (qt qt_fixed qt_fixed_words qt_dark qt_maskRows : Nat) (ct_fixed_words : ClassId) (vt_side : Int32) (vt_next : Int32) (vt_x : Int32) (vt_y : Int32) (vt_fixed_side : Int32) (vt_fixed_words : Nat → Int64) : Array Value → State → Outcome → State → Prop := va_Qi (fun r (_ : Unit) => r = r0) (fun _ t => va_P (dC, dI) cl_All (ww_Frame_step qt qt_fixed qt_fixed_words qt_dark qt_maskRows ct_fixed_words vt_side vt_next vt_x vt_y vt_fixed_side vt_fixed_words) t.heap ∧ va_D A (ww_Frame_step qt qt_fixed qt_fixed_words qt_dark qt_maskRows ct_fixed_words vt_side vt_next vt_x vt_y vt_fixed_side vt_fixed_words)) A

set_option maxHeartbeats 4000000 in
set_option maxRecDepth 100000 in
theorem kt_Frame_step (l : Launch) (dC : Nat → ClassId) (dI : Nat → Nat → Nat) (qt qt_fixed qt_fixed_words qt_dark qt_maskRows : Nat) (ct_fixed_words : ClassId) (vt_side : Int32) (vt_next : Int32) (vt_x : Int32) (vt_y : Int32) (vt_fixed_side : Int32) (vt_fixed_words : Nat → Int64) (sz : Nat) (n0 : Nat) (r0 : Int32) (nvt_next : Int32) (nvt_x : Int32) (nvt_y : Int32) (Hf : fn_Frame_step n0 vt_side vt_next vt_x vt_y vt_fixed_side vt_fixed_words = some (r0, nvt_next, nvt_x, nvt_y)) : Met l y_Frame_step w_Frame_step rm_Frame_step (va_Pc [.ref qt] (fun U => U.heap.size = sz ∧ va_P (dC, dI) cl_All (ww_Frame_step qt qt_fixed qt_fixed_words qt_dark qt_maskRows ct_fixed_words vt_side vt_next vt_x vt_y vt_fixed_side vt_fixed_words) U.heap ∧ va_K (dC, dI) cl_All [(ct_fixed_words, .long)] U ∧ va_D (fun _ => True) (ww_Frame_step qt qt_fixed qt_fixed_words qt_dark qt_maskRows ct_fixed_words vt_side vt_next vt_x vt_y vt_fixed_side vt_fixed_words))) (qc_Frame_step dC dI (va_A (ww_Frame_step qt qt_fixed qt_fixed_words qt_dark qt_maskRows ct_fixed_words vt_side vt_next vt_x vt_y vt_fixed_side vt_fixed_words) sz) r0 qt qt_fixed qt_fixed_words qt_dark qt_maskRows ct_fixed_words vt_side nvt_next nvt_x nvt_y vt_fixed_side vt_fixed_words) 0 0 (va_A (ww_Frame_step qt qt_fixed qt_fixed_words qt_dark qt_maskRows ct_fixed_words vt_side vt_next vt_x vt_y vt_fixed_side vt_fixed_words) sz) := by
  refine Met.ofW (cc := prog_6_method_15_code) (maxL := 6) (ret := (some .boolean)) (by decide) rfl ?_
  intro p e s m args below meth c s₁ B hml hv
  obtain ⟨rfl, hsz, hP, hK, hD0⟩ := hv
  have hx := B.exec; have hb := B.bytes; have hr := B.returns; have hlocks := B.notSynchronized
  have ht : ∀ w ∈ lw_g, w.before _ s = true := fun w h => atoms_spec (ws := w_Frame_step) B.pre w (List.mem_cons_of_mem _ h)
  have hown : s.vm.findClass "SquareSymbols$Frame" = some m.cls := findClass_of_methodNamed B.named
  subst hsz
  have hD := hD0.self (sz := s.heap.size)
  generalize hAe : va_A (ww_Frame_step qt qt_fixed qt_fixed_words qt_dark qt_maskRows ct_fixed_words vt_side vt_next vt_x vt_y vt_fixed_side vt_fixed_words) s.heap.size = A at hD ⊢
  have hA : ∀ q : Nat, s.heap.size ≤ q → A q := fun q h => by rw [← hAe]; exact Or.inr h
  have hS : va_S A s.heap s.heap [] := va_S.rf
  have hl := lv_entry ([.ref qt]) (n := 6) (Nat.le_of_ble_eq_true rfl)
  rw [lg_entry_eq]
  generalize (lg_sl ([.ref qt]) ++ List.replicate (6 - (lg_sl ([.ref qt])).length) Slot.unset).toArray = ls at hl ⊢
  have hl : lv_has ls 6 [(0, .ref qt)] := hl
  refine lv_iconst (v := (1 : Int32)) hx hb d_Frame_step_0 (by decide) ?_
  refine lv_iconst (v := (2 : Int32)) hx hb d_Frame_step_1 (by decide) ?_
  refine lv_aload_n hx hb d_Frame_step_2 rfl (lv_at hl 0 rfl) ?_
  refine va_get (D := (dC, dI)) (ci := 7) (v := .int vt_side) (C := R_Frame) (T := F_Frame) (N := 7) hx hb ht i_Frame hown hK hP 0 rfl rfl 3 (by decide) (ht _ tb_229) (fun _ h9 => h9) rfl d_Frame_step_3 ?_
  refine lv_imul hx hb d_Frame_step_6 ?_
  obtain ⟨x1, ex1, Hf⟩ := sq_bd_e Hf
  refine sq_top ex1 ?_
  refine va_mmax hx hb (by rw [hml]; exact hl.1.symm) hown (ht _ tb_461) (ht _ tb_416) (ht _ tb_17) (ht _ tb_417) (Nat.le_of_ble_eq_true rfl) (Nat.le_of_ble_eq_true rfl) (Nat.zero_le _) (Nat.zero_le _) d_Frame_step_7 ?_
  obtain ⟨x2, ex2, Hf⟩ := sq_bd_e Hf
  refine sq_top ex2 ?_
  refine lv_istore_n (lv' := [(1, .int x2), (0, .ref qt)]) hx hb d_Frame_step_10 rfl hl (by decide) rfl (fun ls hl => ?_)
  refine lv_aload_n hx hb d_Frame_step_11 rfl (lv_at hl 1 rfl) ?_
  refine va_get (D := (dC, dI)) (ci := 7) (v := .int vt_side) (C := R_Frame) (T := F_Frame) (N := 7) hx hb ht i_Frame hown hK hP 0 rfl rfl 3 (by decide) (ht _ tb_229) (fun _ h9 => h9) rfl d_Frame_step_12 ?_
  refine lv_aload_n hx hb d_Frame_step_15 rfl (lv_at hl 1 rfl) ?_
  refine va_get (D := (dC, dI)) (ci := 7) (v := .int vt_side) (C := R_Frame) (T := F_Frame) (N := 7) hx hb ht i_Frame hown hK hP 0 rfl rfl 3 (by decide) (ht _ tb_229) (fun _ h9 => h9) rfl d_Frame_step_16 ?_
  refine lv_iconst (v := (1 : Int32)) hx hb d_Frame_step_19 (by decide) ?_
  refine lv_isub hx hb d_Frame_step_20 ?_
  refine lv_imul hx hb d_Frame_step_21 ?_
  obtain ⟨x3, ex3, Hf⟩ := sq_bd_e Hf
  refine sq_top ex3 ?_
  refine lv_istore_n (lv' := [(2, .int x3), (1, .int x2), (0, .ref qt)]) hx hb d_Frame_step_22 rfl hl (by decide) rfl (fun ls hl => ?_)
  have L1 : ∀ (m1 : Nat), ∀ (b4 : Int32) (b5 : Int32) (b6 : Int32), fn_Frame_step_L1 vt_side vt_fixed_side vt_fixed_words x2 x3 m1 b4 b5 b6 = some (r0, nvt_next, nvt_x, nvt_y) → ∀ (H : Heap) (locs : List Loc), va_P (dC, dI) cl_All (ww_Frame_step qt qt_fixed qt_fixed_words qt_dark qt_maskRows ct_fixed_words vt_side b4 b5 b6 vt_fixed_side vt_fixed_words) H → va_D A (ww_Frame_step qt qt_fixed qt_fixed_words qt_dark qt_maskRows ct_fixed_words vt_side b4 b5 b6 vt_fixed_side vt_fixed_words) → va_S A s.heap H locs → ∀ ls : Array Slot, lv_has ls 6 [(0, .ref qt), (1, .int x2), (2, .int x3)] → W p l e (headSpec w_Frame_step rm_Frame_step).room s m (([.ref qt] : List Value).toArray) below meth c H locs 0 0 (MQ below (qc_Frame_step dC dI A r0 qt qt_fixed qt_fixed_words qt_dark qt_maskRows ct_fixed_words vt_side nvt_next nvt_x nvt_y vt_fixed_side vt_fixed_words) (([.ref qt] : List Value).toArray) s 0 0 A) (F0 m 23 ls []) := by
    intro m1
    induction m1 with
    | zero => intro b4 b5 b6 Hf; exact sq_none Hf
    | succ m1 ih1 =>
      intro b4 b5 b6 Hf H locs  hP hD hS ls hl
      replace Hf := (fn_Frame_step_L1_s vt_side vt_fixed_side vt_fixed_words x2 x3 m1 b4 b5 b6).symm.trans Hf
      refine lv_aload_n hx hb d_Frame_step_23 rfl (lv_at hl 0 rfl) ?_
      refine va_get (D := (dC, dI)) (ci := 7) (v := .int b4) (C := R_Frame) (T := F_Frame) (N := 7) hx hb ht i_Frame hown hK hP 0 rfl rfl 4 (by decide) (ht _ tb_230) (fun _ h9 => h9) rfl d_Frame_step_24 ?_
      refine lv_iload_n hx hb d_Frame_step_27 rfl (lv_at hl 2 rfl) ?_
      refine lv_icmp_ge (tgt := 144) hx hb d_Frame_step_28 (by decide) (fun c7 => ?_) (fun c7 => ?_)
      · replace Hf := sq_ite_t Hf c7
        refine lv_iconst (v := (0 : Int32)) hx hb d_Frame_step_144 (by decide) ?_
        obtain ⟨rfl, rfl, rfl, rfl⟩ := sq_so4 Hf
        exact W.zret hx hb hr rfl (fun t ht hW => ⟨⟨_, (), rfl, rfl, by rw [ht]; exact hP, hD⟩, hS.F ht⟩) hS.2.2 d_Frame_step_145
      · replace Hf := sq_ite_f Hf c7
        refine lv_aload_n hx hb d_Frame_step_31 rfl (lv_at hl 0 rfl) ?_
        refine va_get (D := (dC, dI)) (ci := 7) (v := .int b4) (C := R_Frame) (T := F_Frame) (N := 7) hx hb ht i_Frame hown hK hP 0 rfl rfl 4 (by decide) (ht _ tb_230) (fun _ h9 => h9) rfl d_Frame_step_32 ?_
        refine lv_iload_n hx hb d_Frame_step_35 rfl (lv_at hl 1 rfl) ?_
        obtain ⟨hz8, Hf⟩ := sq_gz_e Hf
        refine lv_idiv hx hb d_Frame_step_36 hz8 ?_
        obtain ⟨x9, ex9, Hf⟩ := sq_bd_e Hf
        refine sq_top ex9 ?_
        refine lv_istore_n (lv' := [(3, .int x9), (0, .ref qt), (1, .int x2), (2, .int x3)]) hx hb d_Frame_step_37 rfl hl (by decide) rfl (fun ls hl => ?_)
        refine lv_aload_n hx hb d_Frame_step_38 rfl (lv_at hl 1 rfl) ?_
        refine va_get (D := (dC, dI)) (ci := 7) (v := .int b4) (C := R_Frame) (T := F_Frame) (N := 7) hx hb ht i_Frame hown hK hP 0 rfl rfl 4 (by decide) (ht _ tb_230) (fun _ h9 => h9) rfl d_Frame_step_39 ?_
        refine lv_iload_n hx hb d_Frame_step_42 rfl (lv_at hl 2 rfl) ?_
        obtain ⟨hz10, Hf⟩ := sq_gz_e Hf
        refine lv_irem hx hb d_Frame_step_43 hz10 ?_
        obtain ⟨x11, ex11, Hf⟩ := sq_bd_e Hf
        refine sq_top ex11 ?_
        refine lv_istore (lv' := [(4, .int x11), (3, .int x9), (0, .ref qt), (1, .int x2), (2, .int x3)]) hx hb d_Frame_step_44 hl (by decide) rfl (fun ls hl => ?_)
        refine lv_aload_n hx hb d_Frame_step_46 rfl (lv_at hl 2 rfl) ?_
        refine lv_dup hx hb d_Frame_step_47 rfl ?_
        refine va_get (D := (dC, dI)) (ci := 7) (v := .int b4) (C := R_Frame) (T := F_Frame) (N := 7) hx hb ht i_Frame hown hK hP 0 rfl rfl 4 (by decide) (ht _ tb_230) (fun _ h9 => h9) rfl d_Frame_step_48 ?_
        refine lv_iconst (v := (1 : Int32)) hx hb d_Frame_step_51 (by decide) ?_
        refine lv_iadd hx hb d_Frame_step_52 ?_
        obtain ⟨x12, ex12, Hf⟩ := sq_bd_e Hf
        refine sq_top ex12 ?_
        refine va_put (D := (dC, dI)) (ci := 7) (v := .int x12) (ty := .int) (C := R_Frame) (T := F_Frame) (N := 7) hx hb ht i_Frame t_Frame t_Frame_ok n_Frame hown hK hP hD hS 0 rfl rfl 4 (by decide) (ht _ tb_230) (fun _ h9 => h9) rfl (by decide +kernel) rfl rfl (Nat.le_of_ble_eq_true rfl) d_Frame_step_53 (fun H locs hP hD hS => ?_)
        replace hP : va_P (dC, dI) cl_All (ww_Frame_step qt qt_fixed qt_fixed_words qt_dark qt_maskRows ct_fixed_words vt_side x12 b5 b6 vt_fixed_side vt_fixed_words) H := hP
        replace hD : va_D A (ww_Frame_step qt qt_fixed qt_fixed_words qt_dark qt_maskRows ct_fixed_words vt_side x12 b5 b6 vt_fixed_side vt_fixed_words) := hD
        refine lv_aload_n hx hb d_Frame_step_56 rfl (lv_at hl 2 rfl) ?_
        refine va_get (D := (dC, dI)) (ci := 7) (v := .int vt_side) (C := R_Frame) (T := F_Frame) (N := 7) hx hb ht i_Frame hown hK hP 0 rfl rfl 3 (by decide) (ht _ tb_229) (fun _ h9 => h9) rfl d_Frame_step_57 ?_
        refine lv_iconst (v := (1 : Int32)) hx hb d_Frame_step_60 (by decide) ?_
        refine lv_isub hx hb d_Frame_step_61 ?_
        refine lv_iconst (v := (2 : Int32)) hx hb d_Frame_step_62 (by decide) ?_
        refine lv_iload_n hx hb d_Frame_step_63 rfl (lv_at hl 1 rfl) ?_
        refine lv_imul hx hb d_Frame_step_64 ?_
        refine lv_isub hx hb d_Frame_step_65 ?_
        obtain ⟨x13, ex13, Hf⟩ := sq_bd_e Hf
        refine sq_top ex13 ?_
        refine lv_istore (lv' := [(5, .int x13), (4, .int x11), (3, .int x9), (0, .ref qt), (1, .int x2), (2, .int x3)]) hx hb d_Frame_step_66 hl (by decide) rfl (fun ls hl => ?_)
        refine lv_aload_n hx hb d_Frame_step_68 rfl (lv_at hl 3 rfl) ?_
        refine lv_iload hx hb d_Frame_step_69 (lv_at hl 0 rfl) ?_
        refine lv_bipush (v := (6 : Int32)) hx hb d_Frame_step_71 (by decide) ?_
        obtain ⟨k15, hk15, Hf⟩ := sq_jn_e Hf
        have Jk15 : ∀ (x14 : Int32), k15 x14 = some (r0, nvt_next, nvt_x, nvt_y) → ∀ (H : Heap) (locs : List Loc), va_P (dC, dI) cl_All (ww_Frame_step qt qt_fixed qt_fixed_words qt_dark qt_maskRows ct_fixed_words vt_side x12 b5 b6 vt_fixed_side vt_fixed_words) H → va_D A (ww_Frame_step qt qt_fixed qt_fixed_words qt_dark qt_maskRows ct_fixed_words vt_side x12 b5 b6 vt_fixed_side vt_fixed_words) → va_S A s.heap H locs → ∀ ls : Array Slot, lv_has ls 6 [(0, .ref qt), (1, .int x2), (2, .int x3), (3, .int x9), (4, .int x11)] → W p l e (headSpec w_Frame_step rm_Frame_step).room s m (([.ref qt] : List Value).toArray) below meth c H locs 0 0 (MQ below (qc_Frame_step dC dI A r0 qt qt_fixed qt_fixed_words qt_dark qt_maskRows ct_fixed_words vt_side nvt_next nvt_x nvt_y vt_fixed_side vt_fixed_words) (([.ref qt] : List Value).toArray) s 0 0 A) (F0 m 85 ls [.int x14, .ref qt]) := by
          intro x14 Hf H locs  hP hD hS ls hl
          rw [hk15] at Hf
          refine lv_iload hx hb d_Frame_step_85 (lv_at hl 4 rfl) ?_
          refine lv_iconst (v := (2 : Int32)) hx hb d_Frame_step_87 (by decide) ?_
          refine lv_irem hx hb d_Frame_step_88 (by decide) ?_
          obtain ⟨x16, ex16, Hf⟩ := sq_bd_e Hf
          refine sq_top ex16 ?_
          refine lv_isub hx hb d_Frame_step_89 ?_
          obtain ⟨x17, ex17, Hf⟩ := sq_bd_e Hf
          refine sq_top ex17 ?_
          refine va_put (D := (dC, dI)) (ci := 7) (v := .int x17) (ty := .int) (C := R_Frame) (T := F_Frame) (N := 7) hx hb ht i_Frame t_Frame t_Frame_ok n_Frame hown hK hP hD hS 0 rfl rfl 5 (by decide) (ht _ tb_231) (fun _ h9 => h9) rfl (by decide +kernel) rfl rfl (Nat.le_of_ble_eq_true rfl) d_Frame_step_90 (fun H locs hP hD hS => ?_)
          replace hP : va_P (dC, dI) cl_All (ww_Frame_step qt qt_fixed qt_fixed_words qt_dark qt_maskRows ct_fixed_words vt_side x12 x17 b6 vt_fixed_side vt_fixed_words) H := hP
          replace hD : va_D A (ww_Frame_step qt qt_fixed qt_fixed_words qt_dark qt_maskRows ct_fixed_words vt_side x12 x17 b6 vt_fixed_side vt_fixed_words) := hD
          refine lv_aload_n hx hb d_Frame_step_93 rfl (lv_at hl 0 rfl) ?_
          refine lv_iload_n hx hb d_Frame_step_94 rfl (lv_at hl 3 rfl) ?_
          refine lv_iconst (v := (2 : Int32)) hx hb d_Frame_step_95 (by decide) ?_
          refine lv_irem hx hb d_Frame_step_96 (by decide) ?_
          obtain ⟨x18, ex18, Hf⟩ := sq_bd_e Hf
          refine sq_top ex18 ?_
          obtain ⟨k20, hk20, Hf⟩ := sq_jn_e Hf
          have Jk20 : ∀ (x19 : Int32), k20 x19 = some (r0, nvt_next, nvt_x, nvt_y) → ∀ (H : Heap) (locs : List Loc), va_P (dC, dI) cl_All (ww_Frame_step qt qt_fixed qt_fixed_words qt_dark qt_maskRows ct_fixed_words vt_side x12 x17 b6 vt_fixed_side vt_fixed_words) H → va_D A (ww_Frame_step qt qt_fixed qt_fixed_words qt_dark qt_maskRows ct_fixed_words vt_side x12 x17 b6 vt_fixed_side vt_fixed_words) → va_S A s.heap H locs → ∀ ls : Array Slot, lv_has ls 6 [(0, .ref qt), (1, .int x2), (2, .int x3)] → W p l e (headSpec w_Frame_step rm_Frame_step).room s m (([.ref qt] : List Value).toArray) below meth c H locs 0 0 (MQ below (qc_Frame_step dC dI A r0 qt qt_fixed qt_fixed_words qt_dark qt_maskRows ct_fixed_words vt_side nvt_next nvt_x nvt_y vt_fixed_side vt_fixed_words) (([.ref qt] : List Value).toArray) s 0 0 A) (F0 m 118 ls [.int x19, .ref qt]) := by
            intro x19 Hf H locs  hP hD hS ls hl
            rw [hk20] at Hf
            refine va_put (D := (dC, dI)) (ci := 7) (v := .int x19) (ty := .int) (C := R_Frame) (T := F_Frame) (N := 7) hx hb ht i_Frame t_Frame t_Frame_ok n_Frame hown hK hP hD hS 0 rfl rfl 6 (by decide) (ht _ tb_232) (fun _ h9 => h9) rfl (by decide +kernel) rfl rfl (Nat.le_of_ble_eq_true rfl) d_Frame_step_118 (fun H locs hP hD hS => ?_)
            replace hP : va_P (dC, dI) cl_All (ww_Frame_step qt qt_fixed qt_fixed_words qt_dark qt_maskRows ct_fixed_words vt_side x12 x17 x19 vt_fixed_side vt_fixed_words) H := hP
            replace hD : va_D A (ww_Frame_step qt qt_fixed qt_fixed_words qt_dark qt_maskRows ct_fixed_words vt_side x12 x17 x19 vt_fixed_side vt_fixed_words) := hD
            refine lv_aload_n hx hb d_Frame_step_121 rfl (lv_at hl 0 rfl) ?_
            refine va_get (D := (dC, dI)) (ci := 7) (v := .ref qt_fixed) (C := R_Frame) (T := F_Frame) (N := 7) hx hb ht i_Frame hown hK hP 0 rfl rfl 0 (by decide) (ht _ tb_225) (fun _ h9 => h9) rfl d_Frame_step_122 ?_
            refine lv_aload_n hx hb d_Frame_step_125 rfl (lv_at hl 0 rfl) ?_
            refine va_get (D := (dC, dI)) (ci := 7) (v := .int x17) (C := R_Frame) (T := F_Frame) (N := 7) hx hb ht i_Frame hown hK hP 0 rfl rfl 5 (by decide) (ht _ tb_231) (fun _ h9 => h9) rfl d_Frame_step_126 ?_
            refine lv_aload_n hx hb d_Frame_step_129 rfl (lv_at hl 0 rfl) ?_
            refine va_get (D := (dC, dI)) (ci := 7) (v := .int x19) (C := R_Frame) (T := F_Frame) (N := 7) hx hb ht i_Frame hown hK hP 0 rfl rfl 6 (by decide) (ht _ tb_232) (fun _ h9 => h9) rfl d_Frame_step_130 ?_
            obtain ⟨r21, hc22, Hf⟩ := sq_cb1_e Hf
            refine sq_roi (va_runV (As := [.int x17, .int x19]) (rest := []) ⟨hx, hb, hml, hown, ht⟩ (kt_Grid_isDark l dC dI qt_fixed qt_fixed_words ct_fixed_words vt_fixed_side vt_fixed_words x17 x19 r21 hc22) (cwV 2 ht (sq_gV tb_376 tb_377 tb_378 tb_8 tb_379) rfl rfl rfl (by decide +kernel) ⟨Nat.le_of_ble_eq_true rfl, Nat.le_of_ble_eq_true rfl⟩) (sq_roV (hP.sub (ws' := (ww_Grid_isDark qt_fixed qt_fixed_words ct_fixed_words vt_fixed_side vt_fixed_words)) [1, 2] rfl) (hK.sub (tys' := [(ct_fixed_words, .long)]) [0] rfl) (va_recv hK hP (ci := 6) (q0 := 1) rfl rfl)) rfl rfl hl.1 rfl (lv_room (Nat.le_of_ble_eq_true rfl)) d_Frame_step_133 ⟨Nat.le_of_ble_eq_true rfl, Nat.le_of_ble_eq_true rfl⟩) ?_
            refine lv_if_ne (tgt := 141) hx hb d_Frame_step_136 (by decide) (fun c23 => ?_) (fun c23 => ?_)
            · replace Hf := sq_ite_f Hf c23
              refine lv_goto (tgt := 23) hx hb d_Frame_step_141 (by decide) ?_
              exact ih1 x12 x17 x19 Hf _ _  hP hD hS _ (lv_sub hl [0, 1, 2] rfl)
            · replace Hf := sq_ite_t Hf c23
              refine lv_iconst (v := (1 : Int32)) hx hb d_Frame_step_139 (by decide) ?_
              obtain ⟨rfl, rfl, rfl, rfl⟩ := sq_so4 Hf
              exact W.zret hx hb hr rfl (fun t ht hW => ⟨⟨_, (), rfl, rfl, by rw [ht]; exact hP, hD⟩, hS.F ht⟩) hS.2.2 d_Frame_step_140
          refine lv_if_ne (tgt := 114) hx hb d_Frame_step_97 (by decide) (fun c24 => ?_) (fun c24 => ?_)
          · replace Hf := sq_ite_f Hf c24
            refine lv_iload hx hb d_Frame_step_114 (lv_at hl 4 rfl) ?_
            refine lv_iconst (v := (2 : Int32)) hx hb d_Frame_step_116 (by decide) ?_
            refine lv_idiv hx hb d_Frame_step_117 (by decide) ?_
            exact Jk20 (x11 / (2 : Int32)) Hf _ _  hP hD hS _ (lv_sub hl [0, 1, 2] rfl)
          · replace Hf := sq_ite_t Hf c24
            refine lv_aload_n hx hb d_Frame_step_100 rfl (lv_at hl 0 rfl) ?_
            refine va_get (D := (dC, dI)) (ci := 7) (v := .int vt_side) (C := R_Frame) (T := F_Frame) (N := 7) hx hb ht i_Frame hown hK hP 0 rfl rfl 3 (by decide) (ht _ tb_229) (fun _ h9 => h9) rfl d_Frame_step_101 ?_
            refine lv_iconst (v := (1 : Int32)) hx hb d_Frame_step_104 (by decide) ?_
            refine lv_isub hx hb d_Frame_step_105 ?_
            refine lv_iload hx hb d_Frame_step_106 (lv_at hl 4 rfl) ?_
            refine lv_iconst (v := (2 : Int32)) hx hb d_Frame_step_108 (by decide) ?_
            refine lv_idiv hx hb d_Frame_step_109 (by decide) ?_
            refine lv_isub hx hb d_Frame_step_110 ?_
            refine lv_goto (tgt := 118) hx hb d_Frame_step_111 (by decide) ?_
            exact Jk20 ((vt_side - (1 : Int32)) - (x11 / (2 : Int32))) Hf _ _  hP hD hS _ (lv_sub hl [0, 1, 2] rfl)
        refine lv_icmp_le (tgt := 81) hx hb d_Frame_step_73 (by decide) (fun c25 => ?_) (fun c25 => ?_)
        · replace Hf := sq_ite_t Hf c25
          refine lv_iload hx hb d_Frame_step_81 (lv_at hl 0 rfl) ?_
          refine lv_iconst (v := (1 : Int32)) hx hb d_Frame_step_83 (by decide) ?_
          refine lv_isub hx hb d_Frame_step_84 ?_
          exact Jk15 (x13 - (1 : Int32)) Hf _ _  hP hD hS _ (lv_sub hl [3, 4, 5, 2, 1] rfl)
        · replace Hf := sq_ite_f Hf c25
          refine lv_iload hx hb d_Frame_step_76 (lv_at hl 0 rfl) ?_
          refine lv_goto (tgt := 85) hx hb d_Frame_step_78 (by decide) ?_
          exact Jk15 x13 Hf _ _  hP hD hS _ (lv_sub hl [3, 4, 5, 2, 1] rfl)
  exact L1 n0 vt_next vt_x vt_y Hf _ _  hP hD hS _ (lv_sub hl [2, 1, 0] rfl)

def fn_Frame_takeCodewords_L2 (n0 : Nat) (vp1_side : Int32) (vt_side : Int32) (vp1_words : Nat → Int64) (vt_fixed_side : Int32) (vt_fixed_words : Nat → Int64) (k13 : Int32 → Int32 → Int32 → Int32 → Option (Int32 × Int32 × Int32 × (Nat → Int32))) : Nat → Int32 → Int32 → Int32 → Int32 → Int32 → Option (Int32 × Int32 × Int32 × (Nat → Int32))
  | 0, _, _, _, _, _ => none
  | m2 + 1, x19, x20, b21, b22, b23 => if x20 < 0 then (k13 x19 b21 b22 b23) else (sq_cb4 (fn_Frame_step n0 vt_side b21 b22 b23 vt_fixed_side vt_fixed_words) fun r25 y26 y27 y28 => if r25 = 0 then (k13 x19 y26 y27 y28) else (sq_cb1 (fn_Grid_isDark y27 y28 vp1_side vp1_words) fun r31 => sq_jn (fun (x33 : Int32) => sq_bd (x19 ||| x33) fun x35 => sq_bd (x20 + (-1 : Int32)) fun x36 => fn_Frame_takeCodewords_L2 n0 vp1_side vt_side vp1_words vt_fixed_side vt_fixed_words k13 m2 x35 x36 y26 y27 y28) fun k34 => if r31 = 0 then (k34 (0 : Int32)) else (k34 ((1 : Int32) <<< (x20 &&& 31)))))
theorem fn_Frame_takeCodewords_L2_s (n0 : Nat) (vp1_side : Int32) (vt_side : Int32) (vp1_words : Nat → Int64) (vt_fixed_side : Int32) (vt_fixed_words : Nat → Int64) (k13 : Int32 → Int32 → Int32 → Int32 → Option (Int32 × Int32 × Int32 × (Nat → Int32))) (m2 : Nat) (x19 : Int32) (x20 : Int32) (b21 : Int32) (b22 : Int32) (b23 : Int32) : fn_Frame_takeCodewords_L2 n0 vp1_side vt_side vp1_words vt_fixed_side vt_fixed_words k13 (m2 + 1) x19 x20 b21 b22 b23 = if x20 < 0 then (k13 x19 b21 b22 b23) else (sq_cb4 (fn_Frame_step n0 vt_side b21 b22 b23 vt_fixed_side vt_fixed_words) fun r25 y26 y27 y28 => if r25 = 0 then (k13 x19 y26 y27 y28) else (sq_cb1 (fn_Grid_isDark y27 y28 vp1_side vp1_words) fun r31 => sq_jn (fun (x33 : Int32) => sq_bd (x19 ||| x33) fun x35 => sq_bd (x20 + (-1 : Int32)) fun x36 => fn_Frame_takeCodewords_L2 n0 vp1_side vt_side vp1_words vt_fixed_side vt_fixed_words k13 m2 x35 x36 y26 y27 y28) fun k34 => if r31 = 0 then (k34 (0 : Int32)) else (k34 ((1 : Int32) <<< (x20 &&& 31))))) := rfl
def fn_Frame_takeCodewords_L1 (n0 : Nat) (vp1_side : Int32) (vp2_total : Int32) (vp2_holds : Int32) (vp2_blocks : Int32) (vp2_checks : Int32) (vp2_shortLength : Int32) (vp2_shortBlocks : Int32) (vt_side : Int32) (vp1_words : Nat → Int64) (vt_fixed_side : Int32) (vt_fixed_words : Nat → Int64) : Nat → Int32 → Int32 → Int32 → Int32 → (Nat → Int32) → Option (Int32 × Int32 × Int32 × (Nat → Int32))
  | 0, _, _, _, _, _ => none
  | m1 + 1, x1, b2, b3, b4, b5 => sq_cb1 (fn_Codewords_total vp2_total) fun r6 => if r6 ≤ x1 then (some (b2, b3, b4, b5)) else (sq_jn (fun (x9 : Int32) (b10 : Int32) (b11 : Int32) (b12 : Int32) => sq_cb1 (fn_Codewords_placeInOrder x1 vp2_holds vp2_blocks vp2_checks vp2_shortLength vp2_shortBlocks) fun r14 => sq_cb1 (fn_Codewords_set r14 x9 b5) fun b16 => sq_bd (x1 + (1 : Int32)) fun x18 => fn_Frame_takeCodewords_L1 n0 vp1_side vp2_total vp2_holds vp2_blocks vp2_checks vp2_shortLength vp2_shortBlocks vt_side vp1_words vt_fixed_side vt_fixed_words m1 x18 b10 b11 b12 b16) fun k13 => fn_Frame_takeCodewords_L2 n0 vp1_side vt_side vp1_words vt_fixed_side vt_fixed_words k13 n0 (0 : Int32) (7 : Int32) b2 b3 b4)
theorem fn_Frame_takeCodewords_L1_s (n0 : Nat) (vp1_side : Int32) (vp2_total : Int32) (vp2_holds : Int32) (vp2_blocks : Int32) (vp2_checks : Int32) (vp2_shortLength : Int32) (vp2_shortBlocks : Int32) (vt_side : Int32) (vp1_words : Nat → Int64) (vt_fixed_side : Int32) (vt_fixed_words : Nat → Int64) (m1 : Nat) (x1 : Int32) (b2 : Int32) (b3 : Int32) (b4 : Int32) (b5 : Nat → Int32) : fn_Frame_takeCodewords_L1 n0 vp1_side vp2_total vp2_holds vp2_blocks vp2_checks vp2_shortLength vp2_shortBlocks vt_side vp1_words vt_fixed_side vt_fixed_words (m1 + 1) x1 b2 b3 b4 b5 = sq_cb1 (fn_Codewords_total vp2_total) fun r6 => if r6 ≤ x1 then (some (b2, b3, b4, b5)) else (sq_jn (fun (x9 : Int32) (b10 : Int32) (b11 : Int32) (b12 : Int32) => sq_cb1 (fn_Codewords_placeInOrder x1 vp2_holds vp2_blocks vp2_checks vp2_shortLength vp2_shortBlocks) fun r14 => sq_cb1 (fn_Codewords_set r14 x9 b5) fun b16 => sq_bd (x1 + (1 : Int32)) fun x18 => fn_Frame_takeCodewords_L1 n0 vp1_side vp2_total vp2_holds vp2_blocks vp2_checks vp2_shortLength vp2_shortBlocks vt_side vp1_words vt_fixed_side vt_fixed_words m1 x18 b10 b11 b12 b16) fun k13 => fn_Frame_takeCodewords_L2 n0 vp1_side vt_side vp1_words vt_fixed_side vt_fixed_words k13 n0 (0 : Int32) (7 : Int32) b2 b3 b4) := rfl
def fn_Frame_takeCodewords (n0 : Nat) (vp1_side : Int32) (vp2_total : Int32) (vp2_holds : Int32) (vp2_blocks : Int32) (vp2_checks : Int32) (vp2_shortLength : Int32) (vp2_shortBlocks : Int32) (vt_side : Int32) (vt_next : Int32) (vt_x : Int32) (vt_y : Int32) (vp1_words : Nat → Int64) (vp2_bytes : Nat → Int32) (vt_fixed_side : Int32) (vt_fixed_words : Nat → Int64) : Option (Int32 × Int32 × Int32 × (Nat → Int32)) :=
  fn_Frame_takeCodewords_L1 n0 vp1_side vp2_total vp2_holds vp2_blocks vp2_checks vp2_shortLength vp2_shortBlocks vt_side vp1_words vt_fixed_side vt_fixed_words n0 (0 : Int32) (0 : Int32) vt_x vt_y vp2_bytes
abbrev ww_Frame_takeCodewords (qp1 qp2 qt qp1_words qp2_bytes qt_fixed qt_fixed_words qp2_field qp2_generator qp2_rest qt_dark qt_maskRows : Nat) (cp1_words cp2_bytes ct_fixed_words : ClassId) (vp1_side : Int32) (vp2_version : Int32) (vp2_total : Int32) (vp2_holds : Int32) (vp2_blocks : Int32) (vp2_checks : Int32) (vp2_shortLength : Int32) (vp2_shortBlocks : Int32) (vp2_filled : Int32) (vp2_waiting : Int32) (vp2_waitingBits : Int32) (vt_side : Int32) (vt_next : Int32) (vt_x : Int32) (vt_y : Int32) (vp1_words : Nat → Int64) (vp2_bytes : Nat → Int32) (vt_fixed_side : Int32) (vt_fixed_words : Nat → Int64) : va_W := [(qp1, .inr (6, [.ref qp1_words, .int vp1_side])), (qp2, .inr (3, [.ref qp2_field, .ref qp2_bytes, .ref qp2_generator, .ref qp2_rest, .int vp2_version, .int vp2_total, .int vp2_holds, .int vp2_blocks, .int vp2_checks, .int vp2_shortLength, .int vp2_shortBlocks, .int vp2_filled, .int vp2_waiting, .int vp2_waitingBits])), (qt, .inr (7, [.ref qt_fixed, .ref qt_dark, .ref qt_maskRows, .int vt_side, .int vt_next, .int vt_x, .int vt_y])), (qp1_words, .inl (cp1_words, 531, .inr (.inl vp1_words))), (qp2_bytes, .inl (cp2_bytes, 3706, .inl vp2_bytes)), (qt_fixed, .inr (6, [.ref qt_fixed_words, .int vt_fixed_side])), (qt_fixed_words, .inl (ct_fixed_words, 531, .inr (.inl vt_fixed_words)))]

def rm_Frame_takeCodewords : Room := { frames := 4, cells := 0, slots := 0, locals := 91 }
abbrev qc_Frame_takeCodewords (dC : Nat → ClassId) (dI : Nat → Nat → Nat) (A : Nat → Prop) (qp1 qp2 qt qp1_words qp2_bytes qt_fixed qt_fixed_words qp2_field qp2_generator qp2_rest qt_dark qt_maskRows : Nat) (cp1_words cp2_bytes ct_fixed_words : ClassId) (vp1_side : Int32) (vp2_version : Int32) (vp2_total : Int32) (vp2_holds : Int32) (vp2_blocks : Int32) (vp2_checks : Int32) (vp2_shortLength : Int32) (vp2_shortBlocks : Int32) (vp2_filled : Int32) (vp2_waiting : Int32) (vp2_waitingBits : Int32) (vt_side : Int32) (vt_next : Int32) (vt_x : Int32) (vt_y : Int32) (vp1_words : Nat → Int64) (vp2_bytes : Nat → Int32) (vt_fixed_side : Int32) (vt_fixed_words : Nat → Int64) : Array Value → State → Outcome → State → Prop := va_Qv (fun (_ : Unit) => True) (fun _ t => va_P (dC, dI) cl_All (ww_Frame_takeCodewords qp1 qp2 qt qp1_words qp2_bytes qt_fixed qt_fixed_words qp2_field qp2_generator qp2_rest qt_dark qt_maskRows cp1_words cp2_bytes ct_fixed_words vp1_side vp2_version vp2_total vp2_holds vp2_blocks vp2_checks vp2_shortLength vp2_shortBlocks vp2_filled vp2_waiting vp2_waitingBits vt_side vt_next vt_x vt_y vp1_words vp2_bytes vt_fixed_side vt_fixed_words) t.heap ∧ va_D A (ww_Frame_takeCodewords qp1 qp2 qt qp1_words qp2_bytes qt_fixed qt_fixed_words qp2_field qp2_generator qp2_rest qt_dark qt_maskRows cp1_words cp2_bytes ct_fixed_words vp1_side vp2_version vp2_total vp2_holds vp2_blocks vp2_checks vp2_shortLength vp2_shortBlocks vp2_filled vp2_waiting vp2_waitingBits vt_side vt_next vt_x vt_y vp1_words vp2_bytes vt_fixed_side vt_fixed_words)) A

set_option maxHeartbeats 4000000 in
set_option maxRecDepth 100000 in
theorem kt_Frame_takeCodewords (l : Launch) (dC : Nat → ClassId) (dI : Nat → Nat → Nat) (qp1 qp2 qt qp1_words qp2_bytes qt_fixed qt_fixed_words qp2_field qp2_generator qp2_rest qt_dark qt_maskRows : Nat) (cp1_words cp2_bytes ct_fixed_words : ClassId) (vp1_side : Int32) (vp2_version : Int32) (vp2_total : Int32) (vp2_holds : Int32) (vp2_blocks : Int32) (vp2_checks : Int32) (vp2_shortLength : Int32) (vp2_shortBlocks : Int32) (vp2_filled : Int32) (vp2_waiting : Int32) (vp2_waitingBits : Int32) (vt_side : Int32) (vt_next : Int32) (vt_x : Int32) (vt_y : Int32) (vp1_words : Nat → Int64) (vp2_bytes : Nat → Int32) (vt_fixed_side : Int32) (vt_fixed_words : Nat → Int64) (sz : Nat) (n0 : Nat) (nvt_next : Int32) (nvt_x : Int32) (nvt_y : Int32) (nvp2_bytes : Nat → Int32) (Hf : fn_Frame_takeCodewords n0 vp1_side vp2_total vp2_holds vp2_blocks vp2_checks vp2_shortLength vp2_shortBlocks vt_side vt_next vt_x vt_y vp1_words vp2_bytes vt_fixed_side vt_fixed_words = some (nvt_next, nvt_x, nvt_y, nvp2_bytes)) : Met l y_Frame_takeCodewords w_Frame_takeCodewords rm_Frame_takeCodewords (va_Pc [.ref qt, .ref qp1, .ref qp2] (fun U => U.heap.size = sz ∧ va_P (dC, dI) cl_All (ww_Frame_takeCodewords qp1 qp2 qt qp1_words qp2_bytes qt_fixed qt_fixed_words qp2_field qp2_generator qp2_rest qt_dark qt_maskRows cp1_words cp2_bytes ct_fixed_words vp1_side vp2_version vp2_total vp2_holds vp2_blocks vp2_checks vp2_shortLength vp2_shortBlocks vp2_filled vp2_waiting vp2_waitingBits vt_side vt_next vt_x vt_y vp1_words vp2_bytes vt_fixed_side vt_fixed_words) U.heap ∧ va_K (dC, dI) cl_All [(cp1_words, .long), (cp2_bytes, .byte), (ct_fixed_words, .long)] U ∧ va_D (fun _ => True) (ww_Frame_takeCodewords qp1 qp2 qt qp1_words qp2_bytes qt_fixed qt_fixed_words qp2_field qp2_generator qp2_rest qt_dark qt_maskRows cp1_words cp2_bytes ct_fixed_words vp1_side vp2_version vp2_total vp2_holds vp2_blocks vp2_checks vp2_shortLength vp2_shortBlocks vp2_filled vp2_waiting vp2_waitingBits vt_side vt_next vt_x vt_y vp1_words vp2_bytes vt_fixed_side vt_fixed_words))) (qc_Frame_takeCodewords dC dI (va_A (ww_Frame_takeCodewords qp1 qp2 qt qp1_words qp2_bytes qt_fixed qt_fixed_words qp2_field qp2_generator qp2_rest qt_dark qt_maskRows cp1_words cp2_bytes ct_fixed_words vp1_side vp2_version vp2_total vp2_holds vp2_blocks vp2_checks vp2_shortLength vp2_shortBlocks vp2_filled vp2_waiting vp2_waitingBits vt_side vt_next vt_x vt_y vp1_words vp2_bytes vt_fixed_side vt_fixed_words) sz) qp1 qp2 qt qp1_words qp2_bytes qt_fixed qt_fixed_words qp2_field qp2_generator qp2_rest qt_dark qt_maskRows cp1_words cp2_bytes ct_fixed_words vp1_side vp2_version vp2_total vp2_holds vp2_blocks vp2_checks vp2_shortLength vp2_shortBlocks vp2_filled vp2_waiting vp2_waitingBits vt_side nvt_next nvt_x nvt_y vp1_words nvp2_bytes vt_fixed_side vt_fixed_words) 0 0 (va_A (ww_Frame_takeCodewords qp1 qp2 qt qp1_words qp2_bytes qt_fixed qt_fixed_words qp2_field qp2_generator qp2_rest qt_dark qt_maskRows cp1_words cp2_bytes ct_fixed_words vp1_side vp2_version vp2_total vp2_holds vp2_blocks vp2_checks vp2_shortLength vp2_shortBlocks vp2_filled vp2_waiting vp2_waitingBits vt_side vt_next vt_x vt_y vp1_words vp2_bytes vt_fixed_side vt_fixed_words) sz) := by
  refine Met.ofW (cc := prog_6_method_14_code) (maxL := 6) (ret := none) (by decide) rfl ?_
  intro p e s m args below meth c s₁ B hml hv
  obtain ⟨rfl, hsz, hP, hK, hD0⟩ := hv
  have hx := B.exec; have hb := B.bytes; have hr := B.returns; have hlocks := B.notSynchronized
  have ht : ∀ w ∈ lw_g, w.before _ s = true := fun w h => atoms_spec (ws := w_Frame_takeCodewords) B.pre w (List.mem_cons_of_mem _ h)
  have hown : s.vm.findClass "SquareSymbols$Frame" = some m.cls := findClass_of_methodNamed B.named
  subst hsz
  have hD := hD0.self (sz := s.heap.size)
  generalize hAe : va_A (ww_Frame_takeCodewords qp1 qp2 qt qp1_words qp2_bytes qt_fixed qt_fixed_words qp2_field qp2_generator qp2_rest qt_dark qt_maskRows cp1_words cp2_bytes ct_fixed_words vp1_side vp2_version vp2_total vp2_holds vp2_blocks vp2_checks vp2_shortLength vp2_shortBlocks vp2_filled vp2_waiting vp2_waitingBits vt_side vt_next vt_x vt_y vp1_words vp2_bytes vt_fixed_side vt_fixed_words) s.heap.size = A at hD ⊢
  have hA : ∀ q : Nat, s.heap.size ≤ q → A q := fun q h => by rw [← hAe]; exact Or.inr h
  have hS : va_S A s.heap s.heap [] := va_S.rf
  have hl := lv_entry ([.ref qt, .ref qp1, .ref qp2]) (n := 6) (Nat.le_of_ble_eq_true rfl)
  rw [lg_entry_eq]
  generalize (lg_sl ([.ref qt, .ref qp1, .ref qp2]) ++ List.replicate (6 - (lg_sl ([.ref qt, .ref qp1, .ref qp2])).length) Slot.unset).toArray = ls at hl ⊢
  have hl : lv_has ls 6 [(0, .ref qt), (1, .ref qp1), (2, .ref qp2)] := hl
  refine lv_aload_n hx hb d_Frame_takeCodewords_0 rfl (lv_at hl 0 rfl) ?_
  refine lv_iconst (v := (0 : Int32)) hx hb d_Frame_takeCodewords_1 (by decide) ?_
  refine va_put (D := (dC, dI)) (ci := 7) (v := .int (0 : Int32)) (ty := .int) (C := R_Frame) (T := F_Frame) (N := 7) hx hb ht i_Frame t_Frame t_Frame_ok n_Frame hown hK hP hD hS 2 rfl rfl 4 (by decide) (ht _ tb_230) (fun _ h9 => h9) rfl (by decide +kernel) rfl rfl (Nat.le_of_ble_eq_true rfl) d_Frame_takeCodewords_2 (fun H locs hP hD hS => ?_)
  replace hP : va_P (dC, dI) cl_All (ww_Frame_takeCodewords qp1 qp2 qt qp1_words qp2_bytes qt_fixed qt_fixed_words qp2_field qp2_generator qp2_rest qt_dark qt_maskRows cp1_words cp2_bytes ct_fixed_words vp1_side vp2_version vp2_total vp2_holds vp2_blocks vp2_checks vp2_shortLength vp2_shortBlocks vp2_filled vp2_waiting vp2_waitingBits vt_side (0 : Int32) vt_x vt_y vp1_words vp2_bytes vt_fixed_side vt_fixed_words) H := hP
  replace hD : va_D A (ww_Frame_takeCodewords qp1 qp2 qt qp1_words qp2_bytes qt_fixed qt_fixed_words qp2_field qp2_generator qp2_rest qt_dark qt_maskRows cp1_words cp2_bytes ct_fixed_words vp1_side vp2_version vp2_total vp2_holds vp2_blocks vp2_checks vp2_shortLength vp2_shortBlocks vp2_filled vp2_waiting vp2_waitingBits vt_side (0 : Int32) vt_x vt_y vp1_words vp2_bytes vt_fixed_side vt_fixed_words) := hD
  refine lv_iconst (v := (0 : Int32)) hx hb d_Frame_takeCodewords_5 (by decide) ?_
  refine lv_istore_n (lv' := [(3, .int (0 : Int32)), (0, .ref qt), (1, .ref qp1), (2, .ref qp2)]) hx hb d_Frame_takeCodewords_6 rfl hl (by decide) rfl (fun ls hl => ?_)
  have L1 : ∀ (m1 : Nat), ∀ (x1 : Int32) (b2 : Int32) (b3 : Int32) (b4 : Int32) (b5 : Nat → Int32), fn_Frame_takeCodewords_L1 n0 vp1_side vp2_total vp2_holds vp2_blocks vp2_checks vp2_shortLength vp2_shortBlocks vt_side vp1_words vt_fixed_side vt_fixed_words m1 x1 b2 b3 b4 b5 = some (nvt_next, nvt_x, nvt_y, nvp2_bytes) → ∀ (H : Heap) (locs : List Loc), va_P (dC, dI) cl_All (ww_Frame_takeCodewords qp1 qp2 qt qp1_words qp2_bytes qt_fixed qt_fixed_words qp2_field qp2_generator qp2_rest qt_dark qt_maskRows cp1_words cp2_bytes ct_fixed_words vp1_side vp2_version vp2_total vp2_holds vp2_blocks vp2_checks vp2_shortLength vp2_shortBlocks vp2_filled vp2_waiting vp2_waitingBits vt_side b2 b3 b4 vp1_words b5 vt_fixed_side vt_fixed_words) H → va_D A (ww_Frame_takeCodewords qp1 qp2 qt qp1_words qp2_bytes qt_fixed qt_fixed_words qp2_field qp2_generator qp2_rest qt_dark qt_maskRows cp1_words cp2_bytes ct_fixed_words vp1_side vp2_version vp2_total vp2_holds vp2_blocks vp2_checks vp2_shortLength vp2_shortBlocks vp2_filled vp2_waiting vp2_waitingBits vt_side b2 b3 b4 vp1_words b5 vt_fixed_side vt_fixed_words) → va_S A s.heap H locs → ∀ ls : Array Slot, lv_has ls 6 [(0, .ref qt), (1, .ref qp1), (2, .ref qp2), (3, .int x1)] → W p l e (headSpec w_Frame_takeCodewords rm_Frame_takeCodewords).room s m (([.ref qt, .ref qp1, .ref qp2] : List Value).toArray) below meth c H locs 0 0 (MQ below (qc_Frame_takeCodewords dC dI A qp1 qp2 qt qp1_words qp2_bytes qt_fixed qt_fixed_words qp2_field qp2_generator qp2_rest qt_dark qt_maskRows cp1_words cp2_bytes ct_fixed_words vp1_side vp2_version vp2_total vp2_holds vp2_blocks vp2_checks vp2_shortLength vp2_shortBlocks vp2_filled vp2_waiting vp2_waitingBits vt_side nvt_next nvt_x nvt_y vp1_words nvp2_bytes vt_fixed_side vt_fixed_words) (([.ref qt, .ref qp1, .ref qp2] : List Value).toArray) s 0 0 A) (F0 m 7 ls []) := by
    intro m1
    induction m1 with
    | zero => intro x1 b2 b3 b4 b5 Hf; exact sq_none Hf
    | succ m1 ih1 =>
      intro x1 b2 b3 b4 b5 Hf H locs  hP hD hS ls hl
      replace Hf := (fn_Frame_takeCodewords_L1_s n0 vp1_side vp2_total vp2_holds vp2_blocks vp2_checks vp2_shortLength vp2_shortBlocks vt_side vp1_words vt_fixed_side vt_fixed_words m1 x1 b2 b3 b4 b5).symm.trans Hf
      refine lv_iload_n hx hb d_Frame_takeCodewords_7 rfl (lv_at hl 3 rfl) ?_
      refine lv_aload_n hx hb d_Frame_takeCodewords_8 rfl (lv_at hl 2 rfl) ?_
      obtain ⟨r6, hc7, Hf⟩ := sq_cb1_e Hf
      refine sq_roi (va_runV (As := []) (rest := [.int x1]) ⟨hx, hb, hml, hown, ht⟩ (kt_Codewords_total l dC dI qp2 qp2_field qp2_bytes qp2_generator qp2_rest vp2_version vp2_total vp2_holds vp2_blocks vp2_checks vp2_shortLength vp2_shortBlocks vp2_filled vp2_waiting vp2_waitingBits r6 hc7) (cwV 0 ht (sq_gV tb_489 tb_490 tb_491 tb_5 tb_492) rfl rfl rfl (by decide +kernel) ⟨Nat.le_of_ble_eq_true rfl, Nat.le_of_ble_eq_true rfl⟩) (sq_roV (hP.sub (ws' := (ww_Codewords_total qp2 qp2_field qp2_bytes qp2_generator qp2_rest vp2_version vp2_total vp2_holds vp2_blocks vp2_checks vp2_shortLength vp2_shortBlocks vp2_filled vp2_waiting vp2_waitingBits)) [1] rfl) (hK.sub (tys' := []) [] rfl) (va_recv hK hP (ci := 3) (q0 := 1) rfl rfl)) rfl rfl hl.1 rfl (lv_room (Nat.le_of_ble_eq_true rfl)) d_Frame_takeCodewords_9 ⟨Nat.le_of_ble_eq_true rfl, Nat.le_of_ble_eq_true rfl⟩) ?_
      refine lv_icmp_ge (tgt := 85) hx hb d_Frame_takeCodewords_12 (by decide) (fun c8 => ?_) (fun c8 => ?_)
      · replace Hf := sq_ite_t Hf c8
        obtain ⟨rfl, rfl, rfl, rfl⟩ := sq_so4 Hf
        exact W.vret hx hb hr (fun t ht hW => ⟨⟨(), rfl, trivial, by rw [ht]; exact hP, hD⟩, hS.F ht⟩) hS.2.2 d_Frame_takeCodewords_85
      · replace Hf := sq_ite_f Hf c8
        refine lv_iconst (v := (0 : Int32)) hx hb d_Frame_takeCodewords_15 (by decide) ?_
        refine lv_istore (lv' := [(4, .int (0 : Int32)), (0, .ref qt), (1, .ref qp1), (2, .ref qp2), (3, .int x1)]) hx hb d_Frame_takeCodewords_16 hl (by decide) rfl (fun ls hl => ?_)
        refine lv_bipush (v := (7 : Int32)) hx hb d_Frame_takeCodewords_18 (by decide) ?_
        refine lv_istore (lv' := [(5, .int (7 : Int32)), (4, .int (0 : Int32)), (0, .ref qt), (1, .ref qp1), (2, .ref qp2), (3, .int x1)]) hx hb d_Frame_takeCodewords_20 hl (by decide) rfl (fun ls hl => ?_)
        obtain ⟨k13, hk13, Hf⟩ := sq_jn_e Hf
        have Jk13 : ∀ (x9 : Int32) (b10 : Int32) (b11 : Int32) (b12 : Int32), k13 x9 b10 b11 b12 = some (nvt_next, nvt_x, nvt_y, nvp2_bytes) → ∀ (H : Heap) (locs : List Loc), va_P (dC, dI) cl_All (ww_Frame_takeCodewords qp1 qp2 qt qp1_words qp2_bytes qt_fixed qt_fixed_words qp2_field qp2_generator qp2_rest qt_dark qt_maskRows cp1_words cp2_bytes ct_fixed_words vp1_side vp2_version vp2_total vp2_holds vp2_blocks vp2_checks vp2_shortLength vp2_shortBlocks vp2_filled vp2_waiting vp2_waitingBits vt_side b10 b11 b12 vp1_words b5 vt_fixed_side vt_fixed_words) H → va_D A (ww_Frame_takeCodewords qp1 qp2 qt qp1_words qp2_bytes qt_fixed qt_fixed_words qp2_field qp2_generator qp2_rest qt_dark qt_maskRows cp1_words cp2_bytes ct_fixed_words vp1_side vp2_version vp2_total vp2_holds vp2_blocks vp2_checks vp2_shortLength vp2_shortBlocks vp2_filled vp2_waiting vp2_waitingBits vt_side b10 b11 b12 vp1_words b5 vt_fixed_side vt_fixed_words) → va_S A s.heap H locs → ∀ ls : Array Slot, lv_has ls 6 [(0, .ref qt), (1, .ref qp1), (2, .ref qp2), (3, .int x1), (4, .int x9)] → W p l e (headSpec w_Frame_takeCodewords rm_Frame_takeCodewords).room s m (([.ref qt, .ref qp1, .ref qp2] : List Value).toArray) below meth c H locs 0 0 (MQ below (qc_Frame_takeCodewords dC dI A qp1 qp2 qt qp1_words qp2_bytes qt_fixed qt_fixed_words qp2_field qp2_generator qp2_rest qt_dark qt_maskRows cp1_words cp2_bytes ct_fixed_words vp1_side vp2_version vp2_total vp2_holds vp2_blocks vp2_checks vp2_shortLength vp2_shortBlocks vp2_filled vp2_waiting vp2_waitingBits vt_side nvt_next nvt_x nvt_y vp1_words nvp2_bytes vt_fixed_side vt_fixed_words) (([.ref qt, .ref qp1, .ref qp2] : List Value).toArray) s 0 0 A) (F0 m 68 ls []) := by
          intro x9 b10 b11 b12 Hf H locs  hP hD hS ls hl
          rw [hk13] at Hf
          refine lv_aload_n hx hb d_Frame_takeCodewords_68 rfl (lv_at hl 2 rfl) ?_
          refine lv_aload_n hx hb d_Frame_takeCodewords_69 rfl (lv_at hl 2 rfl) ?_
          refine lv_iload_n hx hb d_Frame_takeCodewords_70 rfl (lv_at hl 3 rfl) ?_
          obtain ⟨r14, hc15, Hf⟩ := sq_cb1_e Hf
          refine sq_roi (va_runV (As := [.int x1]) (rest := [.ref qp2]) ⟨hx, hb, hml, hown, ht⟩ (kt_Codewords_placeInOrder l dC dI qp2 qp2_field qp2_bytes qp2_generator qp2_rest vp2_version vp2_total vp2_holds vp2_blocks vp2_checks vp2_shortLength vp2_shortBlocks vp2_filled vp2_waiting vp2_waitingBits x1 r14 hc15) (cwV 1 ht (sq_gV tb_497 tb_498 tb_499 tb_5 tb_500) rfl rfl rfl (by decide +kernel) ⟨Nat.le_of_ble_eq_true rfl, Nat.le_of_ble_eq_true rfl⟩) (sq_roV (hP.sub (ws' := (ww_Codewords_placeInOrder qp2 qp2_field qp2_bytes qp2_generator qp2_rest vp2_version vp2_total vp2_holds vp2_blocks vp2_checks vp2_shortLength vp2_shortBlocks vp2_filled vp2_waiting vp2_waitingBits)) [1] rfl) (hK.sub (tys' := []) [] rfl) (va_recv hK hP (ci := 3) (q0 := 1) rfl rfl)) rfl rfl hl.1 rfl (lv_room (Nat.le_of_ble_eq_true rfl)) d_Frame_takeCodewords_71 ⟨Nat.le_of_ble_eq_true rfl, Nat.le_of_ble_eq_true rfl⟩) ?_
          refine lv_iload hx hb d_Frame_takeCodewords_74 (lv_at hl 4 rfl) ?_
          obtain ⟨b16, hc17, Hf⟩ := sq_cb1_e Hf
          refine sq_rwv (wn := (ww_Frame_takeCodewords qp1 qp2 qt qp1_words qp2_bytes qt_fixed qt_fixed_words qp2_field qp2_generator qp2_rest qt_dark qt_maskRows cp1_words cp2_bytes ct_fixed_words vp1_side vp2_version vp2_total vp2_holds vp2_blocks vp2_checks vp2_shortLength vp2_shortBlocks vp2_filled vp2_waiting vp2_waitingBits vt_side b10 b11 b12 vp1_words b16 vt_fixed_side vt_fixed_words)) (va_runV (As := [.int r14, .int x9]) (rest := []) ⟨hx, hb, hml, hown, ht⟩ (kt_Codewords_set l dC dI qp2 qp2_bytes qp2_field qp2_generator qp2_rest cp2_bytes vp2_version vp2_total vp2_holds vp2_blocks vp2_checks vp2_shortLength vp2_shortBlocks vp2_filled vp2_waiting vp2_waitingBits b5 r14 x9 H.size b16 hc17) (cwV 2 ht (sq_gV tb_513 tb_514 tb_515 tb_5 tb_516) rfl rfl rfl (by decide +kernel) ⟨Nat.le_of_ble_eq_true rfl, Nat.le_of_ble_eq_true rfl⟩) (sq_rwV (hP.sub (ws' := (ww_Codewords_set qp2 qp2_bytes qp2_field qp2_generator qp2_rest cp2_bytes vp2_version vp2_total vp2_holds vp2_blocks vp2_checks vp2_shortLength vp2_shortBlocks vp2_filled vp2_waiting vp2_waitingBits b5)) [1, 4] rfl) (hK.sub (tys' := [(cp2_bytes, .byte)]) [1] rfl) (hD.sub (ws' := (ww_Codewords_set qp2 qp2_bytes qp2_field qp2_generator qp2_rest cp2_bytes vp2_version vp2_total vp2_holds vp2_blocks vp2_checks vp2_shortLength vp2_shortBlocks vp2_filled vp2_waiting vp2_waitingBits b5)) [1, 4] (by decide) rfl) (va_recv hK hP (ci := 3) (q0 := 1) rfl rfl)) rfl rfl hl.1 rfl (lv_room (Nat.le_of_ble_eq_true rfl)) d_Frame_takeCodewords_76 ⟨Nat.le_of_ble_eq_true rfl, Nat.le_of_ble_eq_true rfl⟩) hP hD hS hA [1, 4] [0, 2, 3, 5, 6] [0, 5, 1, 2, 6, 3, 4] rfl rfl (by decide) (by decide) rfl (by decide) (fun H locs hP hD hS => ?_)
          obtain ⟨x18, ex18, Hf⟩ := sq_bd_e Hf
          refine lv_iinc (v := x18) (lv' := [(3, .int x18), (0, .ref qt), (1, .ref qp1), (2, .ref qp2), (4, .int x9)]) hx hb d_Frame_takeCodewords_79 hl (k := 3) rfl (by rw [ex18]; rfl) (by decide) rfl (fun ls hl => ?_)
          refine lv_goto (tgt := 7) hx hb d_Frame_takeCodewords_82 (by decide) ?_
          exact ih1 x18 b10 b11 b12 b16 Hf _ _  hP hD hS _ (lv_sub hl [1, 2, 3, 0] rfl)
        have L2 : ∀ (m2 : Nat), ∀ (x19 : Int32) (x20 : Int32) (b21 : Int32) (b22 : Int32) (b23 : Int32), fn_Frame_takeCodewords_L2 n0 vp1_side vt_side vp1_words vt_fixed_side vt_fixed_words k13 m2 x19 x20 b21 b22 b23 = some (nvt_next, nvt_x, nvt_y, nvp2_bytes) → ∀ (H : Heap) (locs : List Loc), va_P (dC, dI) cl_All (ww_Frame_takeCodewords qp1 qp2 qt qp1_words qp2_bytes qt_fixed qt_fixed_words qp2_field qp2_generator qp2_rest qt_dark qt_maskRows cp1_words cp2_bytes ct_fixed_words vp1_side vp2_version vp2_total vp2_holds vp2_blocks vp2_checks vp2_shortLength vp2_shortBlocks vp2_filled vp2_waiting vp2_waitingBits vt_side b21 b22 b23 vp1_words b5 vt_fixed_side vt_fixed_words) H → va_D A (ww_Frame_takeCodewords qp1 qp2 qt qp1_words qp2_bytes qt_fixed qt_fixed_words qp2_field qp2_generator qp2_rest qt_dark qt_maskRows cp1_words cp2_bytes ct_fixed_words vp1_side vp2_version vp2_total vp2_holds vp2_blocks vp2_checks vp2_shortLength vp2_shortBlocks vp2_filled vp2_waiting vp2_waitingBits vt_side b21 b22 b23 vp1_words b5 vt_fixed_side vt_fixed_words) → va_S A s.heap H locs → ∀ ls : Array Slot, lv_has ls 6 [(0, .ref qt), (1, .ref qp1), (2, .ref qp2), (3, .int x1), (4, .int x19), (5, .int x20)] → W p l e (headSpec w_Frame_takeCodewords rm_Frame_takeCodewords).room s m (([.ref qt, .ref qp1, .ref qp2] : List Value).toArray) below meth c H locs 0 0 (MQ below (qc_Frame_takeCodewords dC dI A qp1 qp2 qt qp1_words qp2_bytes qt_fixed qt_fixed_words qp2_field qp2_generator qp2_rest qt_dark qt_maskRows cp1_words cp2_bytes ct_fixed_words vp1_side vp2_version vp2_total vp2_holds vp2_blocks vp2_checks vp2_shortLength vp2_shortBlocks vp2_filled vp2_waiting vp2_waitingBits vt_side nvt_next nvt_x nvt_y vp1_words nvp2_bytes vt_fixed_side vt_fixed_words) (([.ref qt, .ref qp1, .ref qp2] : List Value).toArray) s 0 0 A) (F0 m 22 ls []) := by
          intro m2
          induction m2 with
          | zero => intro x19 x20 b21 b22 b23 Hf; exact sq_none Hf
          | succ m2 ih2 =>
            intro x19 x20 b21 b22 b23 Hf H locs  hP hD hS ls hl
            replace Hf := (fn_Frame_takeCodewords_L2_s n0 vp1_side vt_side vp1_words vt_fixed_side vt_fixed_words k13 m2 x19 x20 b21 b22 b23).symm.trans Hf
            refine lv_iload hx hb d_Frame_takeCodewords_22 (lv_at hl 5 rfl) ?_
            refine lv_if_lt (tgt := 68) hx hb d_Frame_takeCodewords_24 (by decide) (fun c24 => ?_) (fun c24 => ?_)
            · replace Hf := sq_ite_t Hf c24
              exact Jk13 x19 b21 b22 b23 Hf _ _  hP hD hS _ (lv_sub hl [0, 1, 2, 3, 4] rfl)
            · replace Hf := sq_ite_f Hf c24
              refine lv_aload_n hx hb d_Frame_takeCodewords_27 rfl (lv_at hl 0 rfl) ?_
              obtain ⟨r25, y26, y27, y28, hc29, Hf⟩ := sq_cb4_e Hf
              refine sq_rwi (wn := (ww_Frame_takeCodewords qp1 qp2 qt qp1_words qp2_bytes qt_fixed qt_fixed_words qp2_field qp2_generator qp2_rest qt_dark qt_maskRows cp1_words cp2_bytes ct_fixed_words vp1_side vp2_version vp2_total vp2_holds vp2_blocks vp2_checks vp2_shortLength vp2_shortBlocks vp2_filled vp2_waiting vp2_waitingBits vt_side y26 y27 y28 vp1_words b5 vt_fixed_side vt_fixed_words)) (va_runV (As := []) (rest := []) ⟨hx, hb, hml, hown, ht⟩ (kt_Frame_step l dC dI qt qt_fixed qt_fixed_words qt_dark qt_maskRows ct_fixed_words vt_side b21 b22 b23 vt_fixed_side vt_fixed_words H.size n0 r25 y26 y27 y28 hc29) (cwV 0 ht (sq_gV tb_493 tb_495 sl_6 tb_9 tb_496) rfl rfl rfl (by decide +kernel) ⟨Nat.le_of_ble_eq_true rfl, Nat.le_of_ble_eq_true rfl⟩) (sq_rwV (hP.sub (ws' := (ww_Frame_step qt qt_fixed qt_fixed_words qt_dark qt_maskRows ct_fixed_words vt_side b21 b22 b23 vt_fixed_side vt_fixed_words)) [2, 5, 6] rfl) (hK.sub (tys' := [(ct_fixed_words, .long)]) [2] rfl) (hD.sub (ws' := (ww_Frame_step qt qt_fixed qt_fixed_words qt_dark qt_maskRows ct_fixed_words vt_side b21 b22 b23 vt_fixed_side vt_fixed_words)) [2, 5, 6] (by decide) rfl) (va_recv hK hP (ci := 7) (q0 := 2) rfl rfl)) rfl rfl hl.1 rfl (lv_room (Nat.le_of_ble_eq_true rfl)) d_Frame_takeCodewords_28 ⟨Nat.le_of_ble_eq_true rfl, Nat.le_of_ble_eq_true rfl⟩) hP hD hS hA [2, 5, 6] [0, 1, 3, 4] [0, 1, 4, 2, 3, 5, 6] rfl rfl (by decide) (by decide) rfl (by decide) (fun H locs hP hD hS => ?_)
              refine lv_if_eq (tgt := 68) hx hb d_Frame_takeCodewords_31 (by decide) (fun c30 => ?_) (fun c30 => ?_)
              · replace Hf := sq_ite_t Hf c30
                exact Jk13 x19 y26 y27 y28 Hf _ _  hP hD hS _ (lv_sub hl [0, 1, 2, 3, 4] rfl)
              · replace Hf := sq_ite_f Hf c30
                refine lv_iload hx hb d_Frame_takeCodewords_34 (lv_at hl 4 rfl) ?_
                refine lv_aload_n hx hb d_Frame_takeCodewords_36 rfl (lv_at hl 1 rfl) ?_
                refine lv_aload_n hx hb d_Frame_takeCodewords_37 rfl (lv_at hl 0 rfl) ?_
                refine va_get (D := (dC, dI)) (ci := 7) (v := .int y27) (C := R_Frame) (T := F_Frame) (N := 7) hx hb ht i_Frame hown hK hP 2 rfl rfl 5 (by decide) (ht _ tb_231) (fun _ h9 => h9) rfl d_Frame_takeCodewords_38 ?_
                refine lv_aload_n hx hb d_Frame_takeCodewords_41 rfl (lv_at hl 0 rfl) ?_
                refine va_get (D := (dC, dI)) (ci := 7) (v := .int y28) (C := R_Frame) (T := F_Frame) (N := 7) hx hb ht i_Frame hown hK hP 2 rfl rfl 6 (by decide) (ht _ tb_232) (fun _ h9 => h9) rfl d_Frame_takeCodewords_42 ?_
                obtain ⟨r31, hc32, Hf⟩ := sq_cb1_e Hf
                refine sq_roi (va_runV (As := [.int y27, .int y28]) (rest := [.int x19]) ⟨hx, hb, hml, hown, ht⟩ (kt_Grid_isDark l dC dI qp1 qp1_words cp1_words vp1_side vp1_words y27 y28 r31 hc32) (cwV 2 ht (sq_gV tb_376 tb_377 tb_378 tb_8 tb_379) rfl rfl rfl (by decide +kernel) ⟨Nat.le_of_ble_eq_true rfl, Nat.le_of_ble_eq_true rfl⟩) (sq_roV (hP.sub (ws' := (ww_Grid_isDark qp1 qp1_words cp1_words vp1_side vp1_words)) [0, 3] rfl) (hK.sub (tys' := [(cp1_words, .long)]) [0] rfl) (va_recv hK hP (ci := 6) (q0 := 0) rfl rfl)) rfl rfl hl.1 rfl (lv_room (Nat.le_of_ble_eq_true rfl)) d_Frame_takeCodewords_45 ⟨Nat.le_of_ble_eq_true rfl, Nat.le_of_ble_eq_true rfl⟩) ?_
                obtain ⟨k34, hk34, Hf⟩ := sq_jn_e Hf
                have Jk34 : ∀ (x33 : Int32), k34 x33 = some (nvt_next, nvt_x, nvt_y, nvp2_bytes) → ∀ (H : Heap) (locs : List Loc), va_P (dC, dI) cl_All (ww_Frame_takeCodewords qp1 qp2 qt qp1_words qp2_bytes qt_fixed qt_fixed_words qp2_field qp2_generator qp2_rest qt_dark qt_maskRows cp1_words cp2_bytes ct_fixed_words vp1_side vp2_version vp2_total vp2_holds vp2_blocks vp2_checks vp2_shortLength vp2_shortBlocks vp2_filled vp2_waiting vp2_waitingBits vt_side y26 y27 y28 vp1_words b5 vt_fixed_side vt_fixed_words) H → va_D A (ww_Frame_takeCodewords qp1 qp2 qt qp1_words qp2_bytes qt_fixed qt_fixed_words qp2_field qp2_generator qp2_rest qt_dark qt_maskRows cp1_words cp2_bytes ct_fixed_words vp1_side vp2_version vp2_total vp2_holds vp2_blocks vp2_checks vp2_shortLength vp2_shortBlocks vp2_filled vp2_waiting vp2_waitingBits vt_side y26 y27 y28 vp1_words b5 vt_fixed_side vt_fixed_words) → va_S A s.heap H locs → ∀ ls : Array Slot, lv_has ls 6 [(0, .ref qt), (1, .ref qp1), (2, .ref qp2), (3, .int x1), (5, .int x20)] → W p l e (headSpec w_Frame_takeCodewords rm_Frame_takeCodewords).room s m (([.ref qt, .ref qp1, .ref qp2] : List Value).toArray) below meth c H locs 0 0 (MQ below (qc_Frame_takeCodewords dC dI A qp1 qp2 qt qp1_words qp2_bytes qt_fixed qt_fixed_words qp2_field qp2_generator qp2_rest qt_dark qt_maskRows cp1_words cp2_bytes ct_fixed_words vp1_side vp2_version vp2_total vp2_holds vp2_blocks vp2_checks vp2_shortLength vp2_shortBlocks vp2_filled vp2_waiting vp2_waitingBits vt_side nvt_next nvt_x nvt_y vp1_words nvp2_bytes vt_fixed_side vt_fixed_words) (([.ref qt, .ref qp1, .ref qp2] : List Value).toArray) s 0 0 A) (F0 m 59 ls [.int x33, .int x19]) := by
                  intro x33 Hf H locs  hP hD hS ls hl
                  rw [hk34] at Hf
                  refine lv_ior hx hb d_Frame_takeCodewords_59 ?_
                  obtain ⟨x35, ex35, Hf⟩ := sq_bd_e Hf
                  refine sq_top ex35 ?_
                  refine lv_istore (lv' := [(4, .int x35), (0, .ref qt), (1, .ref qp1), (2, .ref qp2), (3, .int x1), (5, .int x20)]) hx hb d_Frame_takeCodewords_60 hl (by decide) rfl (fun ls hl => ?_)
                  obtain ⟨x36, ex36, Hf⟩ := sq_bd_e Hf
                  refine lv_iinc (v := x36) (lv' := [(5, .int x36), (4, .int x35), (0, .ref qt), (1, .ref qp1), (2, .ref qp2), (3, .int x1)]) hx hb d_Frame_takeCodewords_62 hl (k := 5) rfl (by rw [ex36]; rfl) (by decide) rfl (fun ls hl => ?_)
                  refine lv_goto (tgt := 22) hx hb d_Frame_takeCodewords_65 (by decide) ?_
                  exact ih2 x35 x36 y26 y27 y28 Hf _ _  hP hD hS _ (lv_sub hl [2, 3, 4, 5, 1, 0] rfl)
                refine lv_if_eq (tgt := 58) hx hb d_Frame_takeCodewords_48 (by decide) (fun c37 => ?_) (fun c37 => ?_)
                · replace Hf := sq_ite_t Hf c37
                  refine lv_iconst (v := (0 : Int32)) hx hb d_Frame_takeCodewords_58 (by decide) ?_
                  exact Jk34 (0 : Int32) Hf _ _  hP hD hS _ (lv_sub hl [0, 1, 2, 3, 5] rfl)
                · replace Hf := sq_ite_f Hf c37
                  refine lv_iconst (v := (1 : Int32)) hx hb d_Frame_takeCodewords_51 (by decide) ?_
                  refine lv_iload hx hb d_Frame_takeCodewords_52 (lv_at hl 5 rfl) ?_
                  refine lv_ishl hx hb d_Frame_takeCodewords_54 ?_
                  refine lv_goto (tgt := 59) hx hb d_Frame_takeCodewords_55 (by decide) ?_
                  exact Jk34 ((1 : Int32) <<< (x20 &&& 31)) Hf _ _  hP hD hS _ (lv_sub hl [0, 1, 2, 3, 5] rfl)
        exact L2 n0 (0 : Int32) (7 : Int32) b2 b3 b4 Hf _ _  hP hD hS _ (lv_sub hl [2, 3, 4, 5, 1, 0] rfl)
  exact L1 n0 (0 : Int32) (0 : Int32) vt_x vt_y vp2_bytes Hf _ _  hP hD hS _ (lv_sub hl [1, 2, 3, 0] rfl)

def fn_Frame_placeCodewords_L2 (n0 : Nat) (vp2_side : Int32) (vt_side : Int32) (vt_fixed_side : Int32) (vt_fixed_words : Nat → Int64) (r11 : Int32) (k17 : Int32 → Int32 → Int32 → (Nat → Int64) → Option (Int32 × Int32 × Int32 × (Nat → Int64))) : Nat → Int32 → Int32 → Int32 → Int32 → (Nat → Int64) → Option (Int32 × Int32 × Int32 × (Nat → Int64))
  | 0, _, _, _, _, _ => none
  | m2 + 1, x19, b20, b21, b22, b23 => if x19 < 0 then (k17 b20 b21 b22 b23) else (sq_cb4 (fn_Frame_step n0 vt_side b20 b21 b22 vt_fixed_side vt_fixed_words) fun r25 y26 y27 y28 => if r25 = 0 then (k17 y26 y27 y28 b23) else (sq_jn (fun (x31 : Int32) => sq_cb1 (fn_Grid_set y27 y28 x31 vp2_side b23) fun b33 => sq_bd (x19 + (-1 : Int32)) fun x35 => fn_Frame_placeCodewords_L2 n0 vp2_side vt_side vt_fixed_side vt_fixed_words r11 k17 m2 x35 y26 y27 y28 b33) fun k32 => if ((r11 >>> (x19 &&& 31)) &&& (1 : Int32)) = (1 : Int32) then (k32 (1 : Int32)) else (k32 (0 : Int32))))
theorem fn_Frame_placeCodewords_L2_s (n0 : Nat) (vp2_side : Int32) (vt_side : Int32) (vt_fixed_side : Int32) (vt_fixed_words : Nat → Int64) (r11 : Int32) (k17 : Int32 → Int32 → Int32 → (Nat → Int64) → Option (Int32 × Int32 × Int32 × (Nat → Int64))) (m2 : Nat) (x19 : Int32) (b20 : Int32) (b21 : Int32) (b22 : Int32) (b23 : Nat → Int64) : fn_Frame_placeCodewords_L2 n0 vp2_side vt_side vt_fixed_side vt_fixed_words r11 k17 (m2 + 1) x19 b20 b21 b22 b23 = if x19 < 0 then (k17 b20 b21 b22 b23) else (sq_cb4 (fn_Frame_step n0 vt_side b20 b21 b22 vt_fixed_side vt_fixed_words) fun r25 y26 y27 y28 => if r25 = 0 then (k17 y26 y27 y28 b23) else (sq_jn (fun (x31 : Int32) => sq_cb1 (fn_Grid_set y27 y28 x31 vp2_side b23) fun b33 => sq_bd (x19 + (-1 : Int32)) fun x35 => fn_Frame_placeCodewords_L2 n0 vp2_side vt_side vt_fixed_side vt_fixed_words r11 k17 m2 x35 y26 y27 y28 b33) fun k32 => if ((r11 >>> (x19 &&& 31)) &&& (1 : Int32)) = (1 : Int32) then (k32 (1 : Int32)) else (k32 (0 : Int32)))) := rfl
def fn_Frame_placeCodewords_L1 (n0 : Nat) (vp1_total : Int32) (vp1_holds : Int32) (vp1_blocks : Int32) (vp1_checks : Int32) (vp1_shortLength : Int32) (vp1_shortBlocks : Int32) (vp2_side : Int32) (vt_side : Int32) (vp1_bytes : Nat → Int32) (vt_fixed_side : Int32) (vt_fixed_words : Nat → Int64) : Nat → Int32 → Int32 → Int32 → Int32 → (Nat → Int64) → Option (Int32 × Int32 × Int32 × (Nat → Int64))
  | 0, _, _, _, _, _ => none
  | m1 + 1, x1, b2, b3, b4, b5 => sq_cb1 (fn_Codewords_total vp1_total) fun r6 => if r6 ≤ x1 then (some (b2, b3, b4, b5)) else (sq_cb1 (fn_Codewords_placeInOrder x1 vp1_holds vp1_blocks vp1_checks vp1_shortLength vp1_shortBlocks) fun r9 => sq_cb1 (fn_Codewords_get r9 vp1_bytes) fun r11 => sq_jn (fun (b13 : Int32) (b14 : Int32) (b15 : Int32) (b16 : Nat → Int64) => sq_bd (x1 + (1 : Int32)) fun x18 => fn_Frame_placeCodewords_L1 n0 vp1_total vp1_holds vp1_blocks vp1_checks vp1_shortLength vp1_shortBlocks vp2_side vt_side vp1_bytes vt_fixed_side vt_fixed_words m1 x18 b13 b14 b15 b16) fun k17 => fn_Frame_placeCodewords_L2 n0 vp2_side vt_side vt_fixed_side vt_fixed_words r11 k17 n0 (7 : Int32) b2 b3 b4 b5)
theorem fn_Frame_placeCodewords_L1_s (n0 : Nat) (vp1_total : Int32) (vp1_holds : Int32) (vp1_blocks : Int32) (vp1_checks : Int32) (vp1_shortLength : Int32) (vp1_shortBlocks : Int32) (vp2_side : Int32) (vt_side : Int32) (vp1_bytes : Nat → Int32) (vt_fixed_side : Int32) (vt_fixed_words : Nat → Int64) (m1 : Nat) (x1 : Int32) (b2 : Int32) (b3 : Int32) (b4 : Int32) (b5 : Nat → Int64) : fn_Frame_placeCodewords_L1 n0 vp1_total vp1_holds vp1_blocks vp1_checks vp1_shortLength vp1_shortBlocks vp2_side vt_side vp1_bytes vt_fixed_side vt_fixed_words (m1 + 1) x1 b2 b3 b4 b5 = sq_cb1 (fn_Codewords_total vp1_total) fun r6 => if r6 ≤ x1 then (some (b2, b3, b4, b5)) else (sq_cb1 (fn_Codewords_placeInOrder x1 vp1_holds vp1_blocks vp1_checks vp1_shortLength vp1_shortBlocks) fun r9 => sq_cb1 (fn_Codewords_get r9 vp1_bytes) fun r11 => sq_jn (fun (b13 : Int32) (b14 : Int32) (b15 : Int32) (b16 : Nat → Int64) => sq_bd (x1 + (1 : Int32)) fun x18 => fn_Frame_placeCodewords_L1 n0 vp1_total vp1_holds vp1_blocks vp1_checks vp1_shortLength vp1_shortBlocks vp2_side vt_side vp1_bytes vt_fixed_side vt_fixed_words m1 x18 b13 b14 b15 b16) fun k17 => fn_Frame_placeCodewords_L2 n0 vp2_side vt_side vt_fixed_side vt_fixed_words r11 k17 n0 (7 : Int32) b2 b3 b4 b5) := rfl
def fn_Frame_placeCodewords (n0 : Nat) (vp1_total : Int32) (vp1_holds : Int32) (vp1_blocks : Int32) (vp1_checks : Int32) (vp1_shortLength : Int32) (vp1_shortBlocks : Int32) (vp2_side : Int32) (vt_side : Int32) (vt_next : Int32) (vt_x : Int32) (vt_y : Int32) (vp1_bytes : Nat → Int32) (vp2_words : Nat → Int64) (vt_fixed_side : Int32) (vt_fixed_words : Nat → Int64) : Option (Int32 × Int32 × Int32 × (Nat → Int64)) :=
  fn_Frame_placeCodewords_L1 n0 vp1_total vp1_holds vp1_blocks vp1_checks vp1_shortLength vp1_shortBlocks vp2_side vt_side vp1_bytes vt_fixed_side vt_fixed_words n0 (0 : Int32) (0 : Int32) vt_x vt_y vp2_words
abbrev ww_Frame_placeCodewords (qp1 qp2 qt qp1_bytes qp2_words qt_fixed qt_fixed_words qp1_field qp1_generator qp1_rest qt_dark qt_maskRows : Nat) (cp1_bytes cp2_words ct_fixed_words : ClassId) (vp1_version : Int32) (vp1_total : Int32) (vp1_holds : Int32) (vp1_blocks : Int32) (vp1_checks : Int32) (vp1_shortLength : Int32) (vp1_shortBlocks : Int32) (vp1_filled : Int32) (vp1_waiting : Int32) (vp1_waitingBits : Int32) (vp2_side : Int32) (vt_side : Int32) (vt_next : Int32) (vt_x : Int32) (vt_y : Int32) (vp1_bytes : Nat → Int32) (vp2_words : Nat → Int64) (vt_fixed_side : Int32) (vt_fixed_words : Nat → Int64) : va_W := [(qp1, .inr (3, [.ref qp1_field, .ref qp1_bytes, .ref qp1_generator, .ref qp1_rest, .int vp1_version, .int vp1_total, .int vp1_holds, .int vp1_blocks, .int vp1_checks, .int vp1_shortLength, .int vp1_shortBlocks, .int vp1_filled, .int vp1_waiting, .int vp1_waitingBits])), (qp2, .inr (6, [.ref qp2_words, .int vp2_side])), (qt, .inr (7, [.ref qt_fixed, .ref qt_dark, .ref qt_maskRows, .int vt_side, .int vt_next, .int vt_x, .int vt_y])), (qp1_bytes, .inl (cp1_bytes, 3706, .inl vp1_bytes)), (qp2_words, .inl (cp2_words, 531, .inr (.inl vp2_words))), (qt_fixed, .inr (6, [.ref qt_fixed_words, .int vt_fixed_side])), (qt_fixed_words, .inl (ct_fixed_words, 531, .inr (.inl vt_fixed_words)))]

def rm_Frame_placeCodewords : Room := { frames := 4, cells := 0, slots := 0, locals := 91 }
abbrev qc_Frame_placeCodewords (dC : Nat → ClassId) (dI : Nat → Nat → Nat) (A : Nat → Prop) (qp1 qp2 qt qp1_bytes qp2_words qt_fixed qt_fixed_words qp1_field qp1_generator qp1_rest qt_dark qt_maskRows : Nat) (cp1_bytes cp2_words ct_fixed_words : ClassId) (vp1_version : Int32) (vp1_total : Int32) (vp1_holds : Int32) (vp1_blocks : Int32) (vp1_checks : Int32) (vp1_shortLength : Int32) (vp1_shortBlocks : Int32) (vp1_filled : Int32) (vp1_waiting : Int32) (vp1_waitingBits : Int32) (vp2_side : Int32) (vt_side : Int32) (vt_next : Int32) (vt_x : Int32) (vt_y : Int32) (vp1_bytes : Nat → Int32) (vp2_words : Nat → Int64) (vt_fixed_side : Int32) (vt_fixed_words : Nat → Int64) : Array Value → State → Outcome → State → Prop := va_Qv (fun (_ : Unit) => True) (fun _ t => va_P (dC, dI) cl_All (ww_Frame_placeCodewords qp1 qp2 qt qp1_bytes qp2_words qt_fixed qt_fixed_words qp1_field qp1_generator qp1_rest qt_dark qt_maskRows cp1_bytes cp2_words ct_fixed_words vp1_version vp1_total vp1_holds vp1_blocks vp1_checks vp1_shortLength vp1_shortBlocks vp1_filled vp1_waiting vp1_waitingBits vp2_side vt_side vt_next vt_x vt_y vp1_bytes vp2_words vt_fixed_side vt_fixed_words) t.heap ∧ va_D A (ww_Frame_placeCodewords qp1 qp2 qt qp1_bytes qp2_words qt_fixed qt_fixed_words qp1_field qp1_generator qp1_rest qt_dark qt_maskRows cp1_bytes cp2_words ct_fixed_words vp1_version vp1_total vp1_holds vp1_blocks vp1_checks vp1_shortLength vp1_shortBlocks vp1_filled vp1_waiting vp1_waitingBits vp2_side vt_side vt_next vt_x vt_y vp1_bytes vp2_words vt_fixed_side vt_fixed_words)) A

set_option maxHeartbeats 4000000 in
set_option maxRecDepth 100000 in
theorem kt_Frame_placeCodewords (l : Launch) (dC : Nat → ClassId) (dI : Nat → Nat → Nat) (qp1 qp2 qt qp1_bytes qp2_words qt_fixed qt_fixed_words qp1_field qp1_generator qp1_rest qt_dark qt_maskRows : Nat) (cp1_bytes cp2_words ct_fixed_words : ClassId) (vp1_version : Int32) (vp1_total : Int32) (vp1_holds : Int32) (vp1_blocks : Int32) (vp1_checks : Int32) (vp1_shortLength : Int32) (vp1_shortBlocks : Int32) (vp1_filled : Int32) (vp1_waiting : Int32) (vp1_waitingBits : Int32) (vp2_side : Int32) (vt_side : Int32) (vt_next : Int32) (vt_x : Int32) (vt_y : Int32) (vp1_bytes : Nat → Int32) (vp2_words : Nat → Int64) (vt_fixed_side : Int32) (vt_fixed_words : Nat → Int64) (sz : Nat) (n0 : Nat) (nvt_next : Int32) (nvt_x : Int32) (nvt_y : Int32) (nvp2_words : Nat → Int64) (Hf : fn_Frame_placeCodewords n0 vp1_total vp1_holds vp1_blocks vp1_checks vp1_shortLength vp1_shortBlocks vp2_side vt_side vt_next vt_x vt_y vp1_bytes vp2_words vt_fixed_side vt_fixed_words = some (nvt_next, nvt_x, nvt_y, nvp2_words)) : Met l y_Frame_placeCodewords w_Frame_placeCodewords rm_Frame_placeCodewords (va_Pc [.ref qt, .ref qp1, .ref qp2] (fun U => U.heap.size = sz ∧ va_P (dC, dI) cl_All (ww_Frame_placeCodewords qp1 qp2 qt qp1_bytes qp2_words qt_fixed qt_fixed_words qp1_field qp1_generator qp1_rest qt_dark qt_maskRows cp1_bytes cp2_words ct_fixed_words vp1_version vp1_total vp1_holds vp1_blocks vp1_checks vp1_shortLength vp1_shortBlocks vp1_filled vp1_waiting vp1_waitingBits vp2_side vt_side vt_next vt_x vt_y vp1_bytes vp2_words vt_fixed_side vt_fixed_words) U.heap ∧ va_K (dC, dI) cl_All [(cp1_bytes, .byte), (cp2_words, .long), (ct_fixed_words, .long)] U ∧ va_D (fun _ => True) (ww_Frame_placeCodewords qp1 qp2 qt qp1_bytes qp2_words qt_fixed qt_fixed_words qp1_field qp1_generator qp1_rest qt_dark qt_maskRows cp1_bytes cp2_words ct_fixed_words vp1_version vp1_total vp1_holds vp1_blocks vp1_checks vp1_shortLength vp1_shortBlocks vp1_filled vp1_waiting vp1_waitingBits vp2_side vt_side vt_next vt_x vt_y vp1_bytes vp2_words vt_fixed_side vt_fixed_words))) (qc_Frame_placeCodewords dC dI (va_A (ww_Frame_placeCodewords qp1 qp2 qt qp1_bytes qp2_words qt_fixed qt_fixed_words qp1_field qp1_generator qp1_rest qt_dark qt_maskRows cp1_bytes cp2_words ct_fixed_words vp1_version vp1_total vp1_holds vp1_blocks vp1_checks vp1_shortLength vp1_shortBlocks vp1_filled vp1_waiting vp1_waitingBits vp2_side vt_side vt_next vt_x vt_y vp1_bytes vp2_words vt_fixed_side vt_fixed_words) sz) qp1 qp2 qt qp1_bytes qp2_words qt_fixed qt_fixed_words qp1_field qp1_generator qp1_rest qt_dark qt_maskRows cp1_bytes cp2_words ct_fixed_words vp1_version vp1_total vp1_holds vp1_blocks vp1_checks vp1_shortLength vp1_shortBlocks vp1_filled vp1_waiting vp1_waitingBits vp2_side vt_side nvt_next nvt_x nvt_y vp1_bytes nvp2_words vt_fixed_side vt_fixed_words) 0 0 (va_A (ww_Frame_placeCodewords qp1 qp2 qt qp1_bytes qp2_words qt_fixed qt_fixed_words qp1_field qp1_generator qp1_rest qt_dark qt_maskRows cp1_bytes cp2_words ct_fixed_words vp1_version vp1_total vp1_holds vp1_blocks vp1_checks vp1_shortLength vp1_shortBlocks vp1_filled vp1_waiting vp1_waitingBits vp2_side vt_side vt_next vt_x vt_y vp1_bytes vp2_words vt_fixed_side vt_fixed_words) sz) := by
  refine Met.ofW (cc := prog_6_method_13_code) (maxL := 6) (ret := none) (by decide) rfl ?_
  intro p e s m args below meth c s₁ B hml hv
  obtain ⟨rfl, hsz, hP, hK, hD0⟩ := hv
  have hx := B.exec; have hb := B.bytes; have hr := B.returns; have hlocks := B.notSynchronized
  have ht : ∀ w ∈ lw_g, w.before _ s = true := fun w h => atoms_spec (ws := w_Frame_placeCodewords) B.pre w (List.mem_cons_of_mem _ h)
  have hown : s.vm.findClass "SquareSymbols$Frame" = some m.cls := findClass_of_methodNamed B.named
  subst hsz
  have hD := hD0.self (sz := s.heap.size)
  generalize hAe : va_A (ww_Frame_placeCodewords qp1 qp2 qt qp1_bytes qp2_words qt_fixed qt_fixed_words qp1_field qp1_generator qp1_rest qt_dark qt_maskRows cp1_bytes cp2_words ct_fixed_words vp1_version vp1_total vp1_holds vp1_blocks vp1_checks vp1_shortLength vp1_shortBlocks vp1_filled vp1_waiting vp1_waitingBits vp2_side vt_side vt_next vt_x vt_y vp1_bytes vp2_words vt_fixed_side vt_fixed_words) s.heap.size = A at hD ⊢
  have hA : ∀ q : Nat, s.heap.size ≤ q → A q := fun q h => by rw [← hAe]; exact Or.inr h
  have hS : va_S A s.heap s.heap [] := va_S.rf
  have hl := lv_entry ([.ref qt, .ref qp1, .ref qp2]) (n := 6) (Nat.le_of_ble_eq_true rfl)
  rw [lg_entry_eq]
  generalize (lg_sl ([.ref qt, .ref qp1, .ref qp2]) ++ List.replicate (6 - (lg_sl ([.ref qt, .ref qp1, .ref qp2])).length) Slot.unset).toArray = ls at hl ⊢
  have hl : lv_has ls 6 [(0, .ref qt), (1, .ref qp1), (2, .ref qp2)] := hl
  refine lv_aload_n hx hb d_Frame_placeCodewords_0 rfl (lv_at hl 0 rfl) ?_
  refine lv_iconst (v := (0 : Int32)) hx hb d_Frame_placeCodewords_1 (by decide) ?_
  refine va_put (D := (dC, dI)) (ci := 7) (v := .int (0 : Int32)) (ty := .int) (C := R_Frame) (T := F_Frame) (N := 7) hx hb ht i_Frame t_Frame t_Frame_ok n_Frame hown hK hP hD hS 2 rfl rfl 4 (by decide) (ht _ tb_230) (fun _ h9 => h9) rfl (by decide +kernel) rfl rfl (Nat.le_of_ble_eq_true rfl) d_Frame_placeCodewords_2 (fun H locs hP hD hS => ?_)
  replace hP : va_P (dC, dI) cl_All (ww_Frame_placeCodewords qp1 qp2 qt qp1_bytes qp2_words qt_fixed qt_fixed_words qp1_field qp1_generator qp1_rest qt_dark qt_maskRows cp1_bytes cp2_words ct_fixed_words vp1_version vp1_total vp1_holds vp1_blocks vp1_checks vp1_shortLength vp1_shortBlocks vp1_filled vp1_waiting vp1_waitingBits vp2_side vt_side (0 : Int32) vt_x vt_y vp1_bytes vp2_words vt_fixed_side vt_fixed_words) H := hP
  replace hD : va_D A (ww_Frame_placeCodewords qp1 qp2 qt qp1_bytes qp2_words qt_fixed qt_fixed_words qp1_field qp1_generator qp1_rest qt_dark qt_maskRows cp1_bytes cp2_words ct_fixed_words vp1_version vp1_total vp1_holds vp1_blocks vp1_checks vp1_shortLength vp1_shortBlocks vp1_filled vp1_waiting vp1_waitingBits vp2_side vt_side (0 : Int32) vt_x vt_y vp1_bytes vp2_words vt_fixed_side vt_fixed_words) := hD
  refine lv_iconst (v := (0 : Int32)) hx hb d_Frame_placeCodewords_5 (by decide) ?_
  refine lv_istore_n (lv' := [(3, .int (0 : Int32)), (0, .ref qt), (1, .ref qp1), (2, .ref qp2)]) hx hb d_Frame_placeCodewords_6 rfl hl (by decide) rfl (fun ls hl => ?_)
  have L1 : ∀ (m1 : Nat), ∀ (x1 : Int32) (b2 : Int32) (b3 : Int32) (b4 : Int32) (b5 : Nat → Int64), fn_Frame_placeCodewords_L1 n0 vp1_total vp1_holds vp1_blocks vp1_checks vp1_shortLength vp1_shortBlocks vp2_side vt_side vp1_bytes vt_fixed_side vt_fixed_words m1 x1 b2 b3 b4 b5 = some (nvt_next, nvt_x, nvt_y, nvp2_words) → ∀ (H : Heap) (locs : List Loc), va_P (dC, dI) cl_All (ww_Frame_placeCodewords qp1 qp2 qt qp1_bytes qp2_words qt_fixed qt_fixed_words qp1_field qp1_generator qp1_rest qt_dark qt_maskRows cp1_bytes cp2_words ct_fixed_words vp1_version vp1_total vp1_holds vp1_blocks vp1_checks vp1_shortLength vp1_shortBlocks vp1_filled vp1_waiting vp1_waitingBits vp2_side vt_side b2 b3 b4 vp1_bytes b5 vt_fixed_side vt_fixed_words) H → va_D A (ww_Frame_placeCodewords qp1 qp2 qt qp1_bytes qp2_words qt_fixed qt_fixed_words qp1_field qp1_generator qp1_rest qt_dark qt_maskRows cp1_bytes cp2_words ct_fixed_words vp1_version vp1_total vp1_holds vp1_blocks vp1_checks vp1_shortLength vp1_shortBlocks vp1_filled vp1_waiting vp1_waitingBits vp2_side vt_side b2 b3 b4 vp1_bytes b5 vt_fixed_side vt_fixed_words) → va_S A s.heap H locs → ∀ ls : Array Slot, lv_has ls 6 [(0, .ref qt), (1, .ref qp1), (2, .ref qp2), (3, .int x1)] → W p l e (headSpec w_Frame_placeCodewords rm_Frame_placeCodewords).room s m (([.ref qt, .ref qp1, .ref qp2] : List Value).toArray) below meth c H locs 0 0 (MQ below (qc_Frame_placeCodewords dC dI A qp1 qp2 qt qp1_bytes qp2_words qt_fixed qt_fixed_words qp1_field qp1_generator qp1_rest qt_dark qt_maskRows cp1_bytes cp2_words ct_fixed_words vp1_version vp1_total vp1_holds vp1_blocks vp1_checks vp1_shortLength vp1_shortBlocks vp1_filled vp1_waiting vp1_waitingBits vp2_side vt_side nvt_next nvt_x nvt_y vp1_bytes nvp2_words vt_fixed_side vt_fixed_words) (([.ref qt, .ref qp1, .ref qp2] : List Value).toArray) s 0 0 A) (F0 m 7 ls []) := by
    intro m1
    induction m1 with
    | zero => intro x1 b2 b3 b4 b5 Hf; exact sq_none Hf
    | succ m1 ih1 =>
      intro x1 b2 b3 b4 b5 Hf H locs  hP hD hS ls hl
      replace Hf := (fn_Frame_placeCodewords_L1_s n0 vp1_total vp1_holds vp1_blocks vp1_checks vp1_shortLength vp1_shortBlocks vp2_side vt_side vp1_bytes vt_fixed_side vt_fixed_words m1 x1 b2 b3 b4 b5).symm.trans Hf
      refine lv_iload_n hx hb d_Frame_placeCodewords_7 rfl (lv_at hl 3 rfl) ?_
      refine lv_aload_n hx hb d_Frame_placeCodewords_8 rfl (lv_at hl 1 rfl) ?_
      obtain ⟨r6, hc7, Hf⟩ := sq_cb1_e Hf
      refine sq_roi (va_runV (As := []) (rest := [.int x1]) ⟨hx, hb, hml, hown, ht⟩ (kt_Codewords_total l dC dI qp1 qp1_field qp1_bytes qp1_generator qp1_rest vp1_version vp1_total vp1_holds vp1_blocks vp1_checks vp1_shortLength vp1_shortBlocks vp1_filled vp1_waiting vp1_waitingBits r6 hc7) (cwV 0 ht (sq_gV tb_489 tb_490 tb_491 tb_5 tb_492) rfl rfl rfl (by decide +kernel) ⟨Nat.le_of_ble_eq_true rfl, Nat.le_of_ble_eq_true rfl⟩) (sq_roV (hP.sub (ws' := (ww_Codewords_total qp1 qp1_field qp1_bytes qp1_generator qp1_rest vp1_version vp1_total vp1_holds vp1_blocks vp1_checks vp1_shortLength vp1_shortBlocks vp1_filled vp1_waiting vp1_waitingBits)) [0] rfl) (hK.sub (tys' := []) [] rfl) (va_recv hK hP (ci := 3) (q0 := 0) rfl rfl)) rfl rfl hl.1 rfl (lv_room (Nat.le_of_ble_eq_true rfl)) d_Frame_placeCodewords_9 ⟨Nat.le_of_ble_eq_true rfl, Nat.le_of_ble_eq_true rfl⟩) ?_
      refine lv_icmp_ge (tgt := 82) hx hb d_Frame_placeCodewords_12 (by decide) (fun c8 => ?_) (fun c8 => ?_)
      · replace Hf := sq_ite_t Hf c8
        obtain ⟨rfl, rfl, rfl, rfl⟩ := sq_so4 Hf
        exact W.vret hx hb hr (fun t ht hW => ⟨⟨(), rfl, trivial, by rw [ht]; exact hP, hD⟩, hS.F ht⟩) hS.2.2 d_Frame_placeCodewords_82
      · replace Hf := sq_ite_f Hf c8
        refine lv_aload_n hx hb d_Frame_placeCodewords_15 rfl (lv_at hl 1 rfl) ?_
        refine lv_aload_n hx hb d_Frame_placeCodewords_16 rfl (lv_at hl 1 rfl) ?_
        refine lv_iload_n hx hb d_Frame_placeCodewords_17 rfl (lv_at hl 3 rfl) ?_
        obtain ⟨r9, hc10, Hf⟩ := sq_cb1_e Hf
        refine sq_roi (va_runV (As := [.int x1]) (rest := [.ref qp1]) ⟨hx, hb, hml, hown, ht⟩ (kt_Codewords_placeInOrder l dC dI qp1 qp1_field qp1_bytes qp1_generator qp1_rest vp1_version vp1_total vp1_holds vp1_blocks vp1_checks vp1_shortLength vp1_shortBlocks vp1_filled vp1_waiting vp1_waitingBits x1 r9 hc10) (cwV 1 ht (sq_gV tb_497 tb_498 tb_499 tb_5 tb_500) rfl rfl rfl (by decide +kernel) ⟨Nat.le_of_ble_eq_true rfl, Nat.le_of_ble_eq_true rfl⟩) (sq_roV (hP.sub (ws' := (ww_Codewords_placeInOrder qp1 qp1_field qp1_bytes qp1_generator qp1_rest vp1_version vp1_total vp1_holds vp1_blocks vp1_checks vp1_shortLength vp1_shortBlocks vp1_filled vp1_waiting vp1_waitingBits)) [0] rfl) (hK.sub (tys' := []) [] rfl) (va_recv hK hP (ci := 3) (q0 := 0) rfl rfl)) rfl rfl hl.1 rfl (lv_room (Nat.le_of_ble_eq_true rfl)) d_Frame_placeCodewords_18 ⟨Nat.le_of_ble_eq_true rfl, Nat.le_of_ble_eq_true rfl⟩) ?_
        obtain ⟨r11, hc12, Hf⟩ := sq_cb1_e Hf
        refine sq_roi (va_runV (As := [.int r9]) (rest := []) ⟨hx, hb, hml, hown, ht⟩ (kt_Codewords_get l dC dI qp1 qp1_bytes qp1_field qp1_generator qp1_rest cp1_bytes vp1_version vp1_total vp1_holds vp1_blocks vp1_checks vp1_shortLength vp1_shortBlocks vp1_filled vp1_waiting vp1_waitingBits vp1_bytes r9 r11 hc12) (cwV 1 ht (sq_gV tb_975 tb_540 tb_541 tb_5 tb_542) rfl rfl rfl (by decide +kernel) ⟨Nat.le_of_ble_eq_true rfl, Nat.le_of_ble_eq_true rfl⟩) (sq_roV (hP.sub (ws' := (ww_Codewords_get qp1 qp1_bytes qp1_field qp1_generator qp1_rest cp1_bytes vp1_version vp1_total vp1_holds vp1_blocks vp1_checks vp1_shortLength vp1_shortBlocks vp1_filled vp1_waiting vp1_waitingBits vp1_bytes)) [0, 3] rfl) (hK.sub (tys' := [(cp1_bytes, .byte)]) [0] rfl) (va_recv hK hP (ci := 3) (q0 := 0) rfl rfl)) rfl rfl hl.1 rfl (lv_room (Nat.le_of_ble_eq_true rfl)) d_Frame_placeCodewords_21 ⟨Nat.le_of_ble_eq_true rfl, Nat.le_of_ble_eq_true rfl⟩) ?_
        refine lv_istore (lv' := [(4, .int r11), (0, .ref qt), (1, .ref qp1), (2, .ref qp2), (3, .int x1)]) hx hb d_Frame_placeCodewords_24 hl (by decide) rfl (fun ls hl => ?_)
        refine lv_bipush (v := (7 : Int32)) hx hb d_Frame_placeCodewords_26 (by decide) ?_
        refine lv_istore (lv' := [(5, .int (7 : Int32)), (4, .int r11), (0, .ref qt), (1, .ref qp1), (2, .ref qp2), (3, .int x1)]) hx hb d_Frame_placeCodewords_28 hl (by decide) rfl (fun ls hl => ?_)
        obtain ⟨k17, hk17, Hf⟩ := sq_jn_e Hf
        have Jk17 : ∀ (b13 : Int32) (b14 : Int32) (b15 : Int32) (b16 : Nat → Int64), k17 b13 b14 b15 b16 = some (nvt_next, nvt_x, nvt_y, nvp2_words) → ∀ (H : Heap) (locs : List Loc), va_P (dC, dI) cl_All (ww_Frame_placeCodewords qp1 qp2 qt qp1_bytes qp2_words qt_fixed qt_fixed_words qp1_field qp1_generator qp1_rest qt_dark qt_maskRows cp1_bytes cp2_words ct_fixed_words vp1_version vp1_total vp1_holds vp1_blocks vp1_checks vp1_shortLength vp1_shortBlocks vp1_filled vp1_waiting vp1_waitingBits vp2_side vt_side b13 b14 b15 vp1_bytes b16 vt_fixed_side vt_fixed_words) H → va_D A (ww_Frame_placeCodewords qp1 qp2 qt qp1_bytes qp2_words qt_fixed qt_fixed_words qp1_field qp1_generator qp1_rest qt_dark qt_maskRows cp1_bytes cp2_words ct_fixed_words vp1_version vp1_total vp1_holds vp1_blocks vp1_checks vp1_shortLength vp1_shortBlocks vp1_filled vp1_waiting vp1_waitingBits vp2_side vt_side b13 b14 b15 vp1_bytes b16 vt_fixed_side vt_fixed_words) → va_S A s.heap H locs → ∀ ls : Array Slot, lv_has ls 6 [(0, .ref qt), (1, .ref qp1), (2, .ref qp2), (3, .int x1)] → W p l e (headSpec w_Frame_placeCodewords rm_Frame_placeCodewords).room s m (([.ref qt, .ref qp1, .ref qp2] : List Value).toArray) below meth c H locs 0 0 (MQ below (qc_Frame_placeCodewords dC dI A qp1 qp2 qt qp1_bytes qp2_words qt_fixed qt_fixed_words qp1_field qp1_generator qp1_rest qt_dark qt_maskRows cp1_bytes cp2_words ct_fixed_words vp1_version vp1_total vp1_holds vp1_blocks vp1_checks vp1_shortLength vp1_shortBlocks vp1_filled vp1_waiting vp1_waitingBits vp2_side vt_side nvt_next nvt_x nvt_y vp1_bytes nvp2_words vt_fixed_side vt_fixed_words) (([.ref qt, .ref qp1, .ref qp2] : List Value).toArray) s 0 0 A) (F0 m 76 ls []) := by
          intro b13 b14 b15 b16 Hf H locs  hP hD hS ls hl
          rw [hk17] at Hf
          obtain ⟨x18, ex18, Hf⟩ := sq_bd_e Hf
          refine lv_iinc (v := x18) (lv' := [(3, .int x18), (0, .ref qt), (1, .ref qp1), (2, .ref qp2)]) hx hb d_Frame_placeCodewords_76 hl (k := 3) rfl (by rw [ex18]; rfl) (by decide) rfl (fun ls hl => ?_)
          refine lv_goto (tgt := 7) hx hb d_Frame_placeCodewords_79 (by decide) ?_
          exact ih1 x18 b13 b14 b15 b16 Hf _ _  hP hD hS _ (lv_sub hl [1, 2, 3, 0] rfl)
        have L2 : ∀ (m2 : Nat), ∀ (x19 : Int32) (b20 : Int32) (b21 : Int32) (b22 : Int32) (b23 : Nat → Int64), fn_Frame_placeCodewords_L2 n0 vp2_side vt_side vt_fixed_side vt_fixed_words r11 k17 m2 x19 b20 b21 b22 b23 = some (nvt_next, nvt_x, nvt_y, nvp2_words) → ∀ (H : Heap) (locs : List Loc), va_P (dC, dI) cl_All (ww_Frame_placeCodewords qp1 qp2 qt qp1_bytes qp2_words qt_fixed qt_fixed_words qp1_field qp1_generator qp1_rest qt_dark qt_maskRows cp1_bytes cp2_words ct_fixed_words vp1_version vp1_total vp1_holds vp1_blocks vp1_checks vp1_shortLength vp1_shortBlocks vp1_filled vp1_waiting vp1_waitingBits vp2_side vt_side b20 b21 b22 vp1_bytes b23 vt_fixed_side vt_fixed_words) H → va_D A (ww_Frame_placeCodewords qp1 qp2 qt qp1_bytes qp2_words qt_fixed qt_fixed_words qp1_field qp1_generator qp1_rest qt_dark qt_maskRows cp1_bytes cp2_words ct_fixed_words vp1_version vp1_total vp1_holds vp1_blocks vp1_checks vp1_shortLength vp1_shortBlocks vp1_filled vp1_waiting vp1_waitingBits vp2_side vt_side b20 b21 b22 vp1_bytes b23 vt_fixed_side vt_fixed_words) → va_S A s.heap H locs → ∀ ls : Array Slot, lv_has ls 6 [(0, .ref qt), (1, .ref qp1), (2, .ref qp2), (3, .int x1), (4, .int r11), (5, .int x19)] → W p l e (headSpec w_Frame_placeCodewords rm_Frame_placeCodewords).room s m (([.ref qt, .ref qp1, .ref qp2] : List Value).toArray) below meth c H locs 0 0 (MQ below (qc_Frame_placeCodewords dC dI A qp1 qp2 qt qp1_bytes qp2_words qt_fixed qt_fixed_words qp1_field qp1_generator qp1_rest qt_dark qt_maskRows cp1_bytes cp2_words ct_fixed_words vp1_version vp1_total vp1_holds vp1_blocks vp1_checks vp1_shortLength vp1_shortBlocks vp1_filled vp1_waiting vp1_waitingBits vp2_side vt_side nvt_next nvt_x nvt_y vp1_bytes nvp2_words vt_fixed_side vt_fixed_words) (([.ref qt, .ref qp1, .ref qp2] : List Value).toArray) s 0 0 A) (F0 m 30 ls []) := by
          intro m2
          induction m2 with
          | zero => intro x19 b20 b21 b22 b23 Hf; exact sq_none Hf
          | succ m2 ih2 =>
            intro x19 b20 b21 b22 b23 Hf H locs  hP hD hS ls hl
            replace Hf := (fn_Frame_placeCodewords_L2_s n0 vp2_side vt_side vt_fixed_side vt_fixed_words r11 k17 m2 x19 b20 b21 b22 b23).symm.trans Hf
            refine lv_iload hx hb d_Frame_placeCodewords_30 (lv_at hl 5 rfl) ?_
            refine lv_if_lt (tgt := 76) hx hb d_Frame_placeCodewords_32 (by decide) (fun c24 => ?_) (fun c24 => ?_)
            · replace Hf := sq_ite_t Hf c24
              exact Jk17 b20 b21 b22 b23 Hf _ _  hP hD hS _ (lv_sub hl [0, 1, 2, 3] rfl)
            · replace Hf := sq_ite_f Hf c24
              refine lv_aload_n hx hb d_Frame_placeCodewords_35 rfl (lv_at hl 0 rfl) ?_
              obtain ⟨r25, y26, y27, y28, hc29, Hf⟩ := sq_cb4_e Hf
              refine sq_rwi (wn := (ww_Frame_placeCodewords qp1 qp2 qt qp1_bytes qp2_words qt_fixed qt_fixed_words qp1_field qp1_generator qp1_rest qt_dark qt_maskRows cp1_bytes cp2_words ct_fixed_words vp1_version vp1_total vp1_holds vp1_blocks vp1_checks vp1_shortLength vp1_shortBlocks vp1_filled vp1_waiting vp1_waitingBits vp2_side vt_side y26 y27 y28 vp1_bytes b23 vt_fixed_side vt_fixed_words)) (va_runV (As := []) (rest := []) ⟨hx, hb, hml, hown, ht⟩ (kt_Frame_step l dC dI qt qt_fixed qt_fixed_words qt_dark qt_maskRows ct_fixed_words vt_side b20 b21 b22 vt_fixed_side vt_fixed_words H.size n0 r25 y26 y27 y28 hc29) (cwV 0 ht (sq_gV tb_493 tb_495 sl_6 tb_9 tb_496) rfl rfl rfl (by decide +kernel) ⟨Nat.le_of_ble_eq_true rfl, Nat.le_of_ble_eq_true rfl⟩) (sq_rwV (hP.sub (ws' := (ww_Frame_step qt qt_fixed qt_fixed_words qt_dark qt_maskRows ct_fixed_words vt_side b20 b21 b22 vt_fixed_side vt_fixed_words)) [2, 5, 6] rfl) (hK.sub (tys' := [(ct_fixed_words, .long)]) [2] rfl) (hD.sub (ws' := (ww_Frame_step qt qt_fixed qt_fixed_words qt_dark qt_maskRows ct_fixed_words vt_side b20 b21 b22 vt_fixed_side vt_fixed_words)) [2, 5, 6] (by decide) rfl) (va_recv hK hP (ci := 7) (q0 := 2) rfl rfl)) rfl rfl hl.1 rfl (lv_room (Nat.le_of_ble_eq_true rfl)) d_Frame_placeCodewords_36 ⟨Nat.le_of_ble_eq_true rfl, Nat.le_of_ble_eq_true rfl⟩) hP hD hS hA [2, 5, 6] [0, 1, 3, 4] [0, 1, 4, 2, 3, 5, 6] rfl rfl (by decide) (by decide) rfl (by decide) (fun H locs hP hD hS => ?_)
              refine lv_if_eq (tgt := 76) hx hb d_Frame_placeCodewords_39 (by decide) (fun c30 => ?_) (fun c30 => ?_)
              · replace Hf := sq_ite_t Hf c30
                exact Jk17 y26 y27 y28 b23 Hf _ _  hP hD hS _ (lv_sub hl [0, 1, 2, 3] rfl)
              · replace Hf := sq_ite_f Hf c30
                refine lv_aload_n hx hb d_Frame_placeCodewords_42 rfl (lv_at hl 2 rfl) ?_
                refine lv_aload_n hx hb d_Frame_placeCodewords_43 rfl (lv_at hl 0 rfl) ?_
                refine va_get (D := (dC, dI)) (ci := 7) (v := .int y27) (C := R_Frame) (T := F_Frame) (N := 7) hx hb ht i_Frame hown hK hP 2 rfl rfl 5 (by decide) (ht _ tb_231) (fun _ h9 => h9) rfl d_Frame_placeCodewords_44 ?_
                refine lv_aload_n hx hb d_Frame_placeCodewords_47 rfl (lv_at hl 0 rfl) ?_
                refine va_get (D := (dC, dI)) (ci := 7) (v := .int y28) (C := R_Frame) (T := F_Frame) (N := 7) hx hb ht i_Frame hown hK hP 2 rfl rfl 6 (by decide) (ht _ tb_232) (fun _ h9 => h9) rfl d_Frame_placeCodewords_48 ?_
                refine lv_iload hx hb d_Frame_placeCodewords_51 (lv_at hl 4 rfl) ?_
                refine lv_iload hx hb d_Frame_placeCodewords_53 (lv_at hl 5 rfl) ?_
                refine lv_ishr hx hb d_Frame_placeCodewords_55 ?_
                refine lv_iconst (v := (1 : Int32)) hx hb d_Frame_placeCodewords_56 (by decide) ?_
                refine lv_iand hx hb d_Frame_placeCodewords_57 ?_
                refine lv_iconst (v := (1 : Int32)) hx hb d_Frame_placeCodewords_58 (by decide) ?_
                obtain ⟨k32, hk32, Hf⟩ := sq_jn_e Hf
                have Jk32 : ∀ (x31 : Int32), k32 x31 = some (nvt_next, nvt_x, nvt_y, nvp2_words) → ∀ (H : Heap) (locs : List Loc), va_P (dC, dI) cl_All (ww_Frame_placeCodewords qp1 qp2 qt qp1_bytes qp2_words qt_fixed qt_fixed_words qp1_field qp1_generator qp1_rest qt_dark qt_maskRows cp1_bytes cp2_words ct_fixed_words vp1_version vp1_total vp1_holds vp1_blocks vp1_checks vp1_shortLength vp1_shortBlocks vp1_filled vp1_waiting vp1_waitingBits vp2_side vt_side y26 y27 y28 vp1_bytes b23 vt_fixed_side vt_fixed_words) H → va_D A (ww_Frame_placeCodewords qp1 qp2 qt qp1_bytes qp2_words qt_fixed qt_fixed_words qp1_field qp1_generator qp1_rest qt_dark qt_maskRows cp1_bytes cp2_words ct_fixed_words vp1_version vp1_total vp1_holds vp1_blocks vp1_checks vp1_shortLength vp1_shortBlocks vp1_filled vp1_waiting vp1_waitingBits vp2_side vt_side y26 y27 y28 vp1_bytes b23 vt_fixed_side vt_fixed_words) → va_S A s.heap H locs → ∀ ls : Array Slot, lv_has ls 6 [(0, .ref qt), (1, .ref qp1), (2, .ref qp2), (3, .int x1), (4, .int r11), (5, .int x19)] → W p l e (headSpec w_Frame_placeCodewords rm_Frame_placeCodewords).room s m (([.ref qt, .ref qp1, .ref qp2] : List Value).toArray) below meth c H locs 0 0 (MQ below (qc_Frame_placeCodewords dC dI A qp1 qp2 qt qp1_bytes qp2_words qt_fixed qt_fixed_words qp1_field qp1_generator qp1_rest qt_dark qt_maskRows cp1_bytes cp2_words ct_fixed_words vp1_version vp1_total vp1_holds vp1_blocks vp1_checks vp1_shortLength vp1_shortBlocks vp1_filled vp1_waiting vp1_waitingBits vp2_side vt_side nvt_next nvt_x nvt_y vp1_bytes nvp2_words vt_fixed_side vt_fixed_words) (([.ref qt, .ref qp1, .ref qp2] : List Value).toArray) s 0 0 A) (F0 m 67 ls [.int x31, .int y28, .int y27, .ref qp2]) := by
                  intro x31 Hf H locs  hP hD hS ls hl
                  rw [hk32] at Hf
                  obtain ⟨b33, hc34, Hf⟩ := sq_cb1_e Hf
                  refine sq_rwv (wn := (ww_Frame_placeCodewords qp1 qp2 qt qp1_bytes qp2_words qt_fixed qt_fixed_words qp1_field qp1_generator qp1_rest qt_dark qt_maskRows cp1_bytes cp2_words ct_fixed_words vp1_version vp1_total vp1_holds vp1_blocks vp1_checks vp1_shortLength vp1_shortBlocks vp1_filled vp1_waiting vp1_waitingBits vp2_side vt_side y26 y27 y28 vp1_bytes b33 vt_fixed_side vt_fixed_words)) (va_runV (As := [.int y27, .int y28, .int x31]) (rest := []) ⟨hx, hb, hml, hown, ht⟩ (kt_Grid_set l dC dI qp2 qp2_words cp2_words vp2_side b23 y27 y28 x31 H.size b33 hc34) (cwV 3 ht (sq_gV tb_449 tb_450 tb_451 tb_8 tb_452) rfl rfl rfl (by decide +kernel) ⟨Nat.le_of_ble_eq_true rfl, Nat.le_of_ble_eq_true rfl⟩) (sq_rwV (hP.sub (ws' := (ww_Grid_set qp2 qp2_words cp2_words vp2_side b23)) [1, 4] rfl) (hK.sub (tys' := [(cp2_words, .long)]) [1] rfl) (hD.sub (ws' := (ww_Grid_set qp2 qp2_words cp2_words vp2_side b23)) [1, 4] (by decide) rfl) (va_recv hK hP (ci := 6) (q0 := 1) rfl rfl)) rfl rfl hl.1 rfl (lv_room (Nat.le_of_ble_eq_true rfl)) d_Frame_placeCodewords_67 ⟨Nat.le_of_ble_eq_true rfl, Nat.le_of_ble_eq_true rfl⟩) hP hD hS hA [1, 4] [0, 2, 3, 5, 6] [0, 5, 1, 2, 6, 3, 4] rfl rfl (by decide) (by decide) rfl (by decide) (fun H locs hP hD hS => ?_)
                  obtain ⟨x35, ex35, Hf⟩ := sq_bd_e Hf
                  refine lv_iinc (v := x35) (lv' := [(5, .int x35), (0, .ref qt), (1, .ref qp1), (2, .ref qp2), (3, .int x1), (4, .int r11)]) hx hb d_Frame_placeCodewords_70 hl (k := 5) rfl (by rw [ex35]; rfl) (by decide) rfl (fun ls hl => ?_)
                  refine lv_goto (tgt := 30) hx hb d_Frame_placeCodewords_73 (by decide) ?_
                  exact ih2 x35 y26 y27 y28 b33 Hf _ _  hP hD hS _ (lv_sub hl [1, 2, 3, 4, 5, 0] rfl)
                refine lv_icmp_ne (tgt := 66) hx hb d_Frame_placeCodewords_59 (by decide) (fun c36 => ?_) (fun c36 => ?_)
                · replace Hf := sq_ite_f Hf c36
                  refine lv_iconst (v := (0 : Int32)) hx hb d_Frame_placeCodewords_66 (by decide) ?_
                  exact Jk32 (0 : Int32) Hf _ _  hP hD hS _ (lv_sub hl [0, 1, 2, 3, 4, 5] rfl)
                · replace Hf := sq_ite_t Hf c36
                  refine lv_iconst (v := (1 : Int32)) hx hb d_Frame_placeCodewords_62 (by decide) ?_
                  refine lv_goto (tgt := 67) hx hb d_Frame_placeCodewords_63 (by decide) ?_
                  exact Jk32 (1 : Int32) Hf _ _  hP hD hS _ (lv_sub hl [0, 1, 2, 3, 4, 5] rfl)
        exact L2 n0 (7 : Int32) b2 b3 b4 b5 Hf _ _  hP hD hS _ (lv_sub hl [2, 3, 4, 5, 1, 0] rfl)
  exact L1 n0 (0 : Int32) (0 : Int32) vt_x vt_y vp2_words Hf _ _  hP hD hS _ (lv_sub hl [1, 2, 3, 0] rfl)

def fn_Frame_drawForm_L1 (vp1_side : Int32) (r1 : Int32) (r3 : Int32) : Nat → Int32 → (Nat → Int64) → Option ((Nat → Int64))
  | 0, _, _ => none
  | m1 + 1, x5, b6 => if (15 : Int32) ≤ x5 then (some b6) else (sq_jn (fun (x8 : Int32) => sq_cb1 (fn_Frame_formX (0 : Int32) x5 r3) fun r10 => sq_cb1 (fn_Frame_formY (0 : Int32) x5 r3) fun r12 => sq_cb1 (fn_Grid_set r10 r12 x8 vp1_side b6) fun b14 => sq_cb1 (fn_Frame_formX (1 : Int32) x5 r3) fun r16 => sq_cb1 (fn_Frame_formY (1 : Int32) x5 r3) fun r18 => sq_cb1 (fn_Grid_set r16 r18 x8 vp1_side b14) fun b20 => sq_bd (x5 + (1 : Int32)) fun x22 => fn_Frame_drawForm_L1 vp1_side r1 r3 m1 x22 b20) fun k9 => if ((r1 >>> (x5 &&& 31)) &&& (1 : Int32)) = (1 : Int32) then (k9 (1 : Int32)) else (k9 (0 : Int32)))
theorem fn_Frame_drawForm_L1_s (vp1_side : Int32) (r1 : Int32) (r3 : Int32) (m1 : Nat) (x5 : Int32) (b6 : Nat → Int64) : fn_Frame_drawForm_L1 vp1_side r1 r3 (m1 + 1) x5 b6 = if (15 : Int32) ≤ x5 then (some b6) else (sq_jn (fun (x8 : Int32) => sq_cb1 (fn_Frame_formX (0 : Int32) x5 r3) fun r10 => sq_cb1 (fn_Frame_formY (0 : Int32) x5 r3) fun r12 => sq_cb1 (fn_Grid_set r10 r12 x8 vp1_side b6) fun b14 => sq_cb1 (fn_Frame_formX (1 : Int32) x5 r3) fun r16 => sq_cb1 (fn_Frame_formY (1 : Int32) x5 r3) fun r18 => sq_cb1 (fn_Grid_set r16 r18 x8 vp1_side b14) fun b20 => sq_bd (x5 + (1 : Int32)) fun x22 => fn_Frame_drawForm_L1 vp1_side r1 r3 m1 x22 b20) fun k9 => if ((r1 >>> (x5 &&& 31)) &&& (1 : Int32)) = (1 : Int32) then (k9 (1 : Int32)) else (k9 (0 : Int32))) := rfl
def fn_Frame_drawForm (n0 : Nat) (p2 : Int32) (p3 : Int32) (vp1_side : Int32) (vp1_words : Nat → Int64) : Option ((Nat → Int64)) :=
  sq_cb1 (fn_Frame_formWord n0 (((8 : Int32) * (p2 ^^^ (1 : Int32))) + p3)) fun r1 => sq_cb1 (fn_Grid_side vp1_side) fun r3 => fn_Frame_drawForm_L1 vp1_side r1 r3 n0 (0 : Int32) vp1_words
abbrev ww_Frame_drawForm (qp1 qp1_words : Nat) (cp1_words : ClassId) (vp1_side : Int32) (vp1_words : Nat → Int64) : va_W := [(qp1, .inr (6, [.ref qp1_words, .int vp1_side])), (qp1_words, .inl (cp1_words, 531, .inr (.inl vp1_words)))]

def rm_Frame_drawForm : Room := { frames := 2, cells := 0, slots := 0, locals := 48 }
abbrev qc_Frame_drawForm (dC : Nat → ClassId) (dI : Nat → Nat → Nat) (A : Nat → Prop) (qp1 qp1_words : Nat) (cp1_words : ClassId) (vp1_side : Int32) (vp1_words : Nat → Int64) : Array Value → State → Outcome → State → Prop := va_Qv (fun (_ : Unit) => True) (fun _ t => va_P (dC, dI) cl_All (ww_Frame_drawForm qp1 qp1_words cp1_words vp1_side vp1_words) t.heap ∧ va_D A (ww_Frame_drawForm qp1 qp1_words cp1_words vp1_side vp1_words)) A

set_option maxHeartbeats 4000000 in
set_option maxRecDepth 100000 in
theorem kt_Frame_drawForm (l : Launch) (dC : Nat → ClassId) (dI : Nat → Nat → Nat) (qp1 qp1_words : Nat) (cp1_words : ClassId) (vp1_side : Int32) (vp1_words : Nat → Int64) (p2 : Int32) (p3 : Int32) (sz : Nat) (n0 : Nat) (nvp1_words : Nat → Int64) (Hf : fn_Frame_drawForm n0 p2 p3 vp1_side vp1_words = some nvp1_words) : Met l y_Frame_drawForm w_Frame_drawForm rm_Frame_drawForm (va_Pc [.ref qp1, .int p2, .int p3] (fun U => U.heap.size = sz ∧ va_P (dC, dI) cl_All (ww_Frame_drawForm qp1 qp1_words cp1_words vp1_side vp1_words) U.heap ∧ va_K (dC, dI) cl_All [(cp1_words, .long)] U ∧ va_D (fun _ => True) (ww_Frame_drawForm qp1 qp1_words cp1_words vp1_side vp1_words))) (qc_Frame_drawForm dC dI (va_A (ww_Frame_drawForm qp1 qp1_words cp1_words vp1_side vp1_words) sz) qp1 qp1_words cp1_words vp1_side nvp1_words) 0 0 (va_A (ww_Frame_drawForm qp1 qp1_words cp1_words vp1_side vp1_words) sz) := by
  refine Met.ofW (cc := prog_6_method_11_code) (maxL := 7) (ret := none) (by decide) rfl ?_
  intro p e s m args below meth c s₁ B hml hv
  obtain ⟨rfl, hsz, hP, hK, hD0⟩ := hv
  have hx := B.exec; have hb := B.bytes; have hr := B.returns; have hlocks := B.notSynchronized
  have ht : ∀ w ∈ lw_g, w.before _ s = true := fun w h => atoms_spec (ws := w_Frame_drawForm) B.pre w (List.mem_cons_of_mem _ h)
  have hown : s.vm.findClass "SquareSymbols$Frame" = some m.cls := findClass_of_methodNamed B.named
  subst hsz
  have hD := hD0.self (sz := s.heap.size)
  generalize hAe : va_A (ww_Frame_drawForm qp1 qp1_words cp1_words vp1_side vp1_words) s.heap.size = A at hD ⊢
  have hA : ∀ q : Nat, s.heap.size ≤ q → A q := fun q h => by rw [← hAe]; exact Or.inr h
  have hS : va_S A s.heap s.heap [] := va_S.rf
  have hl := lv_entry ([.ref qp1, .int p2, .int p3]) (n := 7) (Nat.le_of_ble_eq_true rfl)
  rw [lg_entry_eq]
  generalize (lg_sl ([.ref qp1, .int p2, .int p3]) ++ List.replicate (7 - (lg_sl ([.ref qp1, .int p2, .int p3])).length) Slot.unset).toArray = ls at hl ⊢
  have hl : lv_has ls 7 [(0, .ref qp1), (1, .int p2), (2, .int p3)] := hl
  refine lv_bipush (v := (8 : Int32)) hx hb d_Frame_drawForm_0 (by decide) ?_
  refine lv_iload_n hx hb d_Frame_drawForm_2 rfl (lv_at hl 1 rfl) ?_
  refine lv_iconst (v := (1 : Int32)) hx hb d_Frame_drawForm_3 (by decide) ?_
  refine lv_ixor hx hb d_Frame_drawForm_4 ?_
  refine lv_imul hx hb d_Frame_drawForm_5 ?_
  refine lv_iload_n hx hb d_Frame_drawForm_6 rfl (lv_at hl 2 rfl) ?_
  refine lv_iadd hx hb d_Frame_drawForm_7 ?_
  obtain ⟨r1, hc2, Hf⟩ := sq_cb1_e Hf
  refine sq_roi (va_runS (As := [.int (((8 : Int32) * (p2 ^^^ (1 : Int32))) + p3)]) (rest := []) ⟨hx, hb, hml, hown, ht⟩ (kt_Frame_formWord l dC dI (((8 : Int32) * (p2 ^^^ (1 : Int32))) + p3) n0 r1 hc2) (va_cwS 1 ht (sq_gS tb_384 tb_385 tb_9 tb_386) rfl rfl rfl (by decide +kernel) ⟨Nat.le_of_ble_eq_true rfl, Nat.le_of_ble_eq_true rfl⟩) (sq_roS (hP.sub (ws' := ([] : va_W)) [] rfl) (hK.sub (tys' := []) [] rfl)) rfl rfl hl.1 rfl (lv_room (Nat.le_of_ble_eq_true rfl)) d_Frame_drawForm_8 ⟨Nat.le_of_ble_eq_true rfl, Nat.le_of_ble_eq_true rfl⟩) ?_
  refine lv_istore_n (lv' := [(3, .int r1), (0, .ref qp1), (1, .int p2), (2, .int p3)]) hx hb d_Frame_drawForm_11 rfl hl (by decide) rfl (fun ls hl => ?_)
  refine lv_aload_n hx hb d_Frame_drawForm_12 rfl (lv_at hl 1 rfl) ?_
  obtain ⟨r3, hc4, Hf⟩ := sq_cb1_e Hf
  refine sq_roi (va_runV (As := []) (rest := []) ⟨hx, hb, hml, hown, ht⟩ (kt_Grid_side l dC dI qp1 qp1_words vp1_side r3 hc4) (cwV 0 ht (sq_gV tb_369 tb_356 tb_357 tb_8 tb_358) rfl rfl rfl (by decide +kernel) ⟨Nat.le_of_ble_eq_true rfl, Nat.le_of_ble_eq_true rfl⟩) (sq_roV (hP.sub (ws' := (ww_Grid_side qp1 qp1_words vp1_side)) [0] rfl) (hK.sub (tys' := []) [] rfl) (va_recv hK hP (ci := 6) (q0 := 0) rfl rfl)) rfl rfl hl.1 rfl (lv_room (Nat.le_of_ble_eq_true rfl)) d_Frame_drawForm_13 ⟨Nat.le_of_ble_eq_true rfl, Nat.le_of_ble_eq_true rfl⟩) ?_
  refine lv_istore (lv' := [(4, .int r3), (3, .int r1), (0, .ref qp1), (1, .int p2), (2, .int p3)]) hx hb d_Frame_drawForm_16 hl (by decide) rfl (fun ls hl => ?_)
  refine lv_iconst (v := (0 : Int32)) hx hb d_Frame_drawForm_18 (by decide) ?_
  refine lv_istore (lv' := [(5, .int (0 : Int32)), (4, .int r3), (3, .int r1), (0, .ref qp1), (1, .int p2), (2, .int p3)]) hx hb d_Frame_drawForm_19 hl (by decide) rfl (fun ls hl => ?_)
  have L1 : ∀ (m1 : Nat), ∀ (x5 : Int32) (b6 : Nat → Int64), fn_Frame_drawForm_L1 vp1_side r1 r3 m1 x5 b6 = some nvp1_words → ∀ (H : Heap) (locs : List Loc), va_P (dC, dI) cl_All (ww_Frame_drawForm qp1 qp1_words cp1_words vp1_side b6) H → va_D A (ww_Frame_drawForm qp1 qp1_words cp1_words vp1_side b6) → va_S A s.heap H locs → ∀ ls : Array Slot, lv_has ls 7 [(0, .ref qp1), (3, .int r1), (4, .int r3), (5, .int x5)] → W p l e (headSpec w_Frame_drawForm rm_Frame_drawForm).room s m (([.ref qp1, .int p2, .int p3] : List Value).toArray) below meth c H locs 0 0 (MQ below (qc_Frame_drawForm dC dI A qp1 qp1_words cp1_words vp1_side nvp1_words) (([.ref qp1, .int p2, .int p3] : List Value).toArray) s 0 0 A) (F0 m 21 ls []) := by
    intro m1
    induction m1 with
    | zero => intro x5 b6 Hf; exact sq_none Hf
    | succ m1 ih1 =>
      intro x5 b6 Hf H locs  hP hD hS ls hl
      replace Hf := (fn_Frame_drawForm_L1_s vp1_side r1 r3 m1 x5 b6).symm.trans Hf
      refine lv_iload hx hb d_Frame_drawForm_21 (lv_at hl 3 rfl) ?_
      refine lv_bipush (v := (15 : Int32)) hx hb d_Frame_drawForm_23 (by decide) ?_
      refine lv_icmp_ge (tgt := 95) hx hb d_Frame_drawForm_25 (by decide) (fun c7 => ?_) (fun c7 => ?_)
      · replace Hf := sq_ite_t Hf c7
        obtain rfl := Option.some.inj Hf
        exact W.vret hx hb hr (fun t ht hW => ⟨⟨(), rfl, trivial, by rw [ht]; exact hP, hD⟩, hS.F ht⟩) hS.2.2 d_Frame_drawForm_95
      · replace Hf := sq_ite_f Hf c7
        refine lv_iload_n hx hb d_Frame_drawForm_28 rfl (lv_at hl 1 rfl) ?_
        refine lv_iload hx hb d_Frame_drawForm_29 (lv_at hl 3 rfl) ?_
        refine lv_ishr hx hb d_Frame_drawForm_31 ?_
        refine lv_iconst (v := (1 : Int32)) hx hb d_Frame_drawForm_32 (by decide) ?_
        refine lv_iand hx hb d_Frame_drawForm_33 ?_
        refine lv_iconst (v := (1 : Int32)) hx hb d_Frame_drawForm_34 (by decide) ?_
        obtain ⟨k9, hk9, Hf⟩ := sq_jn_e Hf
        have Jk9 : ∀ (x8 : Int32), k9 x8 = some nvp1_words → ∀ (H : Heap) (locs : List Loc), va_P (dC, dI) cl_All (ww_Frame_drawForm qp1 qp1_words cp1_words vp1_side b6) H → va_D A (ww_Frame_drawForm qp1 qp1_words cp1_words vp1_side b6) → va_S A s.heap H locs → ∀ ls : Array Slot, lv_has ls 7 [(0, .ref qp1), (3, .int r1), (4, .int r3), (5, .int x5)] → W p l e (headSpec w_Frame_drawForm rm_Frame_drawForm).room s m (([.ref qp1, .int p2, .int p3] : List Value).toArray) below meth c H locs 0 0 (MQ below (qc_Frame_drawForm dC dI A qp1 qp1_words cp1_words vp1_side nvp1_words) (([.ref qp1, .int p2, .int p3] : List Value).toArray) s 0 0 A) (F0 m 43 ls [.int x8]) := by
          intro x8 Hf H locs  hP hD hS ls hl
          rw [hk9] at Hf
          refine lv_istore (lv' := [(6, .int x8), (0, .ref qp1), (3, .int r1), (4, .int r3), (5, .int x5)]) hx hb d_Frame_drawForm_43 hl (by decide) rfl (fun ls hl => ?_)
          refine lv_aload_n hx hb d_Frame_drawForm_45 rfl (lv_at hl 1 rfl) ?_
          refine lv_iconst (v := (0 : Int32)) hx hb d_Frame_drawForm_46 (by decide) ?_
          refine lv_iload hx hb d_Frame_drawForm_47 (lv_at hl 4 rfl) ?_
          refine lv_iload hx hb d_Frame_drawForm_49 (lv_at hl 3 rfl) ?_
          obtain ⟨r10, hc11, Hf⟩ := sq_cb1_e Hf
          refine sq_roi (va_runS (As := [.int (0 : Int32), .int x5, .int r3]) (rest := [.ref qp1]) ⟨hx, hb, hml, hown, ht⟩ (kt_Frame_formX l dC dI (0 : Int32) x5 r3 r10 hc11) (va_cwS 3 ht (sq_gS tb_370 tb_371 tb_9 tb_372) rfl rfl rfl (by decide +kernel) ⟨Nat.le_of_ble_eq_true rfl, Nat.le_of_ble_eq_true rfl⟩) (sq_roS (hP.sub (ws' := ([] : va_W)) [] rfl) (hK.sub (tys' := []) [] rfl)) rfl rfl hl.1 rfl (lv_room (Nat.le_of_ble_eq_true rfl)) d_Frame_drawForm_51 ⟨Nat.le_of_ble_eq_true rfl, Nat.le_of_ble_eq_true rfl⟩) ?_
          refine lv_iconst (v := (0 : Int32)) hx hb d_Frame_drawForm_54 (by decide) ?_
          refine lv_iload hx hb d_Frame_drawForm_55 (lv_at hl 4 rfl) ?_
          refine lv_iload hx hb d_Frame_drawForm_57 (lv_at hl 3 rfl) ?_
          obtain ⟨r12, hc13, Hf⟩ := sq_cb1_e Hf
          refine sq_roi (va_runS (As := [.int (0 : Int32), .int x5, .int r3]) (rest := [.int r10, .ref qp1]) ⟨hx, hb, hml, hown, ht⟩ (kt_Frame_formY l dC dI (0 : Int32) x5 r3 r12 hc13) (va_cwS 3 ht (sq_gS tb_373 tb_374 tb_9 tb_375) rfl rfl rfl (by decide +kernel) ⟨Nat.le_of_ble_eq_true rfl, Nat.le_of_ble_eq_true rfl⟩) (sq_roS (hP.sub (ws' := ([] : va_W)) [] rfl) (hK.sub (tys' := []) [] rfl)) rfl rfl hl.1 rfl (lv_room (Nat.le_of_ble_eq_true rfl)) d_Frame_drawForm_59 ⟨Nat.le_of_ble_eq_true rfl, Nat.le_of_ble_eq_true rfl⟩) ?_
          refine lv_iload hx hb d_Frame_drawForm_62 (lv_at hl 0 rfl) ?_
          obtain ⟨b14, hc15, Hf⟩ := sq_cb1_e Hf
          refine sq_rwv (wn := (ww_Frame_drawForm qp1 qp1_words cp1_words vp1_side b14)) (va_runV (As := [.int r10, .int r12, .int x8]) (rest := []) ⟨hx, hb, hml, hown, ht⟩ (kt_Grid_set l dC dI qp1 qp1_words cp1_words vp1_side b6 r10 r12 x8 H.size b14 hc15) (cwV 3 ht (sq_gV tb_449 tb_450 tb_451 tb_8 tb_452) rfl rfl rfl (by decide +kernel) ⟨Nat.le_of_ble_eq_true rfl, Nat.le_of_ble_eq_true rfl⟩) (sq_rwV (hP.sub (ws' := (ww_Grid_set qp1 qp1_words cp1_words vp1_side b6)) [0, 1] rfl) (hK.sub (tys' := [(cp1_words, .long)]) [0] rfl) (hD.sub (ws' := (ww_Grid_set qp1 qp1_words cp1_words vp1_side b6)) [0, 1] (by decide) rfl) (va_recv hK hP (ci := 6) (q0 := 0) rfl rfl)) rfl rfl hl.1 rfl (lv_room (Nat.le_of_ble_eq_true rfl)) d_Frame_drawForm_64 ⟨Nat.le_of_ble_eq_true rfl, Nat.le_of_ble_eq_true rfl⟩) hP hD hS hA [0, 1] [] [0, 1] rfl rfl (by decide) (by decide) rfl (by decide) (fun H locs hP hD hS => ?_)
          refine lv_aload_n hx hb d_Frame_drawForm_67 rfl (lv_at hl 1 rfl) ?_
          refine lv_iconst (v := (1 : Int32)) hx hb d_Frame_drawForm_68 (by decide) ?_
          refine lv_iload hx hb d_Frame_drawForm_69 (lv_at hl 4 rfl) ?_
          refine lv_iload hx hb d_Frame_drawForm_71 (lv_at hl 3 rfl) ?_
          obtain ⟨r16, hc17, Hf⟩ := sq_cb1_e Hf
          refine sq_roi (va_runS (As := [.int (1 : Int32), .int x5, .int r3]) (rest := [.ref qp1]) ⟨hx, hb, hml, hown, ht⟩ (kt_Frame_formX l dC dI (1 : Int32) x5 r3 r16 hc17) (va_cwS 3 ht (sq_gS tb_370 tb_371 tb_9 tb_372) rfl rfl rfl (by decide +kernel) ⟨Nat.le_of_ble_eq_true rfl, Nat.le_of_ble_eq_true rfl⟩) (sq_roS (hP.sub (ws' := ([] : va_W)) [] rfl) (hK.sub (tys' := []) [] rfl)) rfl rfl hl.1 rfl (lv_room (Nat.le_of_ble_eq_true rfl)) d_Frame_drawForm_73 ⟨Nat.le_of_ble_eq_true rfl, Nat.le_of_ble_eq_true rfl⟩) ?_
          refine lv_iconst (v := (1 : Int32)) hx hb d_Frame_drawForm_76 (by decide) ?_
          refine lv_iload hx hb d_Frame_drawForm_77 (lv_at hl 4 rfl) ?_
          refine lv_iload hx hb d_Frame_drawForm_79 (lv_at hl 3 rfl) ?_
          obtain ⟨r18, hc19, Hf⟩ := sq_cb1_e Hf
          refine sq_roi (va_runS (As := [.int (1 : Int32), .int x5, .int r3]) (rest := [.int r16, .ref qp1]) ⟨hx, hb, hml, hown, ht⟩ (kt_Frame_formY l dC dI (1 : Int32) x5 r3 r18 hc19) (va_cwS 3 ht (sq_gS tb_373 tb_374 tb_9 tb_375) rfl rfl rfl (by decide +kernel) ⟨Nat.le_of_ble_eq_true rfl, Nat.le_of_ble_eq_true rfl⟩) (sq_roS (hP.sub (ws' := ([] : va_W)) [] rfl) (hK.sub (tys' := []) [] rfl)) rfl rfl hl.1 rfl (lv_room (Nat.le_of_ble_eq_true rfl)) d_Frame_drawForm_81 ⟨Nat.le_of_ble_eq_true rfl, Nat.le_of_ble_eq_true rfl⟩) ?_
          refine lv_iload hx hb d_Frame_drawForm_84 (lv_at hl 0 rfl) ?_
          obtain ⟨b20, hc21, Hf⟩ := sq_cb1_e Hf
          refine sq_rwv (wn := (ww_Frame_drawForm qp1 qp1_words cp1_words vp1_side b20)) (va_runV (As := [.int r16, .int r18, .int x8]) (rest := []) ⟨hx, hb, hml, hown, ht⟩ (kt_Grid_set l dC dI qp1 qp1_words cp1_words vp1_side b14 r16 r18 x8 H.size b20 hc21) (cwV 3 ht (sq_gV tb_449 tb_450 tb_451 tb_8 tb_452) rfl rfl rfl (by decide +kernel) ⟨Nat.le_of_ble_eq_true rfl, Nat.le_of_ble_eq_true rfl⟩) (sq_rwV (hP.sub (ws' := (ww_Grid_set qp1 qp1_words cp1_words vp1_side b14)) [0, 1] rfl) (hK.sub (tys' := [(cp1_words, .long)]) [0] rfl) (hD.sub (ws' := (ww_Grid_set qp1 qp1_words cp1_words vp1_side b14)) [0, 1] (by decide) rfl) (va_recv hK hP (ci := 6) (q0 := 0) rfl rfl)) rfl rfl hl.1 rfl (lv_room (Nat.le_of_ble_eq_true rfl)) d_Frame_drawForm_86 ⟨Nat.le_of_ble_eq_true rfl, Nat.le_of_ble_eq_true rfl⟩) hP hD hS hA [0, 1] [] [0, 1] rfl rfl (by decide) (by decide) rfl (by decide) (fun H locs hP hD hS => ?_)
          obtain ⟨x22, ex22, Hf⟩ := sq_bd_e Hf
          refine lv_iinc (v := x22) (lv' := [(5, .int x22), (6, .int x8), (0, .ref qp1), (3, .int r1), (4, .int r3)]) hx hb d_Frame_drawForm_89 hl (k := 4) rfl (by rw [ex22]; rfl) (by decide) rfl (fun ls hl => ?_)
          refine lv_goto (tgt := 21) hx hb d_Frame_drawForm_92 (by decide) ?_
          exact ih1 x22 b20 Hf _ _  hP hD hS _ (lv_sub hl [2, 3, 4, 0] rfl)
        refine lv_icmp_ne (tgt := 42) hx hb d_Frame_drawForm_35 (by decide) (fun c23 => ?_) (fun c23 => ?_)
        · replace Hf := sq_ite_f Hf c23
          refine lv_iconst (v := (0 : Int32)) hx hb d_Frame_drawForm_42 (by decide) ?_
          exact Jk9 (0 : Int32) Hf _ _  hP hD hS _ (lv_sub hl [0, 1, 2, 3] rfl)
        · replace Hf := sq_ite_t Hf c23
          refine lv_iconst (v := (1 : Int32)) hx hb d_Frame_drawForm_38 (by decide) ?_
          refine lv_goto (tgt := 43) hx hb d_Frame_drawForm_39 (by decide) ?_
          exact Jk9 (1 : Int32) Hf _ _  hP hD hS _ (lv_sub hl [0, 1, 2, 3] rfl)
  exact L1 n0 (0 : Int32) vp1_words Hf _ _  hP hD hS _ (lv_sub hl [3, 2, 1, 0] rfl)

