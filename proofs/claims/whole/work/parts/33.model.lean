def fn_Md_shortWord_L1 (p1 : Int32) (p2 : Int32) (p3 : Int32) : Nat → Int32 → Int32 → Option (Int32)
  | 0, _, _ => none
  | m1 + 1, x2, x3 => if x3 < p2 then (some ((p1 <<< (p2 &&& 31)) ||| x2)) else (sq_jn (fun (x5 : Int32) => sq_bd (x3 + (-1 : Int32)) fun x7 => fn_Md_shortWord_L1 p1 p2 p3 m1 x5 x7) fun k6 => if ((x2 >>> (x3 &&& 31)) &&& (1 : Int32)) = (1 : Int32) then (k6 (x2 ^^^ (p3 <<< ((x3 - p2) &&& 31)))) else (k6 x2))
theorem fn_Md_shortWord_L1_s (p1 : Int32) (p2 : Int32) (p3 : Int32) (m1 : Nat) (x2 : Int32) (x3 : Int32) : fn_Md_shortWord_L1 p1 p2 p3 (m1 + 1) x2 x3 = if x3 < p2 then (some ((p1 <<< (p2 &&& 31)) ||| x2)) else (sq_jn (fun (x5 : Int32) => sq_bd (x3 + (-1 : Int32)) fun x7 => fn_Md_shortWord_L1 p1 p2 p3 m1 x5 x7) fun k6 => if ((x2 >>> (x3 &&& 31)) &&& (1 : Int32)) = (1 : Int32) then (k6 (x2 ^^^ (p3 <<< ((x3 - p2) &&& 31)))) else (k6 x2)) := rfl
def fn_Md_shortWord (n0 : Nat) (p1 : Int32) (p2 : Int32) (p3 : Int32) : Option (Int32) :=
  sq_bd (p1 <<< (p2 &&& 31)) fun x1 => fn_Md_shortWord_L1 p1 p2 p3 n0 x1 (17 : Int32)
def rm_Md_shortWord : Room := { frames := 0, cells := 0, slots := 0, locals := 0 }
abbrev qc_Md_shortWord (r0 : Int32) : Array Value → State → Outcome → State → Prop := vp_Si (fun r => r = r0)

set_option maxHeartbeats 4000000 in
set_option maxRecDepth 100000 in
theorem kt_Md_shortWord (l : Launch) (dC : Nat → ClassId) (dI : Nat → Nat → Nat) (p1 : Int32) (p2 : Int32) (p3 : Int32) (n0 : Nat) (r0 : Int32) (Hf : fn_Md_shortWord n0 p1 p2 p3 = some r0) : Met l y_Md_shortWord w_Md_shortWord rm_Md_shortWord (va_Pc [.int p1, .int p2, .int p3] (fun U => va_P (dC, dI) cl_All ([] : va_W) U.heap ∧ va_K (dC, dI) cl_All [] U)) (qc_Md_shortWord r0) 0 0 (fun _ => False) := by
  refine Met.ofW (cc := prog_14_method_37_code) (maxL := 5) (ret := (some .int)) (by decide) rfl ?_
  intro p e s m args below meth c s₁ B hml hv
  obtain ⟨rfl, hP, hK⟩ := hv
  have hx := B.exec; have hb := B.bytes; have hr := B.returns; have hlocks := B.notSynchronized
  have ht : ∀ w ∈ lw_g, w.before _ s = true := fun w h => atoms_spec (ws := w_Md_shortWord) B.pre w (List.mem_cons_of_mem _ h)
  have hown : s.vm.findClass "SquareSymbolsModel" = some m.cls := findClass_of_methodNamed B.named
  have hl := lv_entry ([.int p1, .int p2, .int p3]) (n := 5) (Nat.le_of_ble_eq_true rfl)
  rw [lg_entry_eq]
  generalize (lg_sl ([.int p1, .int p2, .int p3]) ++ List.replicate (5 - (lg_sl ([.int p1, .int p2, .int p3])).length) Slot.unset).toArray = ls at hl ⊢
  have hl : lv_has ls 5 [(0, .int p1), (1, .int p2), (2, .int p3)] := hl
  refine lv_iload_n hx hb d_Md_shortWord_0 rfl (lv_at hl 0 rfl) ?_
  refine lv_iload_n hx hb d_Md_shortWord_1 rfl (lv_at hl 1 rfl) ?_
  refine lv_ishl hx hb d_Md_shortWord_2 ?_
  obtain ⟨x1, ex1, Hf⟩ := sq_bd_e Hf
  refine sq_top ex1 ?_
  refine lv_istore_n (lv' := [(3, .int x1), (0, .int p1), (1, .int p2), (2, .int p3)]) hx hb d_Md_shortWord_3 rfl hl (by decide) rfl (fun ls hl => ?_)
  refine lv_bipush (v := (17 : Int32)) hx hb d_Md_shortWord_4 (by decide) ?_
  refine lv_istore (lv' := [(4, .int (17 : Int32)), (3, .int x1), (0, .int p1), (1, .int p2), (2, .int p3)]) hx hb d_Md_shortWord_6 hl (by decide) rfl (fun ls hl => ?_)
  have L1 : ∀ (m1 : Nat), ∀ (x2 : Int32) (x3 : Int32), fn_Md_shortWord_L1 p1 p2 p3 m1 x2 x3 = some r0 → ∀ ls : Array Slot, lv_has ls 5 [(0, .int p1), (1, .int p2), (2, .int p3), (3, .int x2), (4, .int x3)] → W p l e (headSpec w_Md_shortWord rm_Md_shortWord).room s m (([.int p1, .int p2, .int p3] : List Value).toArray) below meth c s.heap [] 0 0 (MQ below (qc_Md_shortWord r0) (([.int p1, .int p2, .int p3] : List Value).toArray) s 0 0 (fun _ => False)) (F0 m 8 ls []) := by
    intro m1
    induction m1 with
    | zero => intro x2 x3 Hf; exact sq_none Hf
    | succ m1 ih1 =>
      intro x2 x3 Hf ls hl
      replace Hf := (fn_Md_shortWord_L1_s p1 p2 p3 m1 x2 x3).symm.trans Hf
      refine lv_iload hx hb d_Md_shortWord_8 (lv_at hl 4 rfl) ?_
      refine lv_iload_n hx hb d_Md_shortWord_10 rfl (lv_at hl 1 rfl) ?_
      refine lv_icmp_lt (tgt := 43) hx hb d_Md_shortWord_11 (by decide) (fun c4 => ?_) (fun c4 => ?_)
      · replace Hf := sq_ite_t Hf c4
        refine lv_iload_n hx hb d_Md_shortWord_43 rfl (lv_at hl 0 rfl) ?_
        refine lv_iload_n hx hb d_Md_shortWord_44 rfl (lv_at hl 1 rfl) ?_
        refine lv_ishl hx hb d_Md_shortWord_45 ?_
        refine lv_iload_n hx hb d_Md_shortWord_46 rfl (lv_at hl 3 rfl) ?_
        refine lv_ior hx hb d_Md_shortWord_47 ?_
        have er := Option.some.inj Hf
        exact W.iret hx hb hr (fun t ht hW => ⟨_, rfl, er, ht⟩) (fun q h => by cases h) d_Md_shortWord_48
      · replace Hf := sq_ite_f Hf c4
        refine lv_iload_n hx hb d_Md_shortWord_14 rfl (lv_at hl 3 rfl) ?_
        refine lv_iload hx hb d_Md_shortWord_15 (lv_at hl 4 rfl) ?_
        refine lv_ishr hx hb d_Md_shortWord_17 ?_
        refine lv_iconst (v := (1 : Int32)) hx hb d_Md_shortWord_18 (by decide) ?_
        refine lv_iand hx hb d_Md_shortWord_19 ?_
        refine lv_iconst (v := (1 : Int32)) hx hb d_Md_shortWord_20 (by decide) ?_
        obtain ⟨k6, hk6, Hf⟩ := sq_jn_e Hf
        have Jk6 : ∀ (x5 : Int32), k6 x5 = some r0 → ∀ ls : Array Slot, lv_has ls 5 [(0, .int p1), (1, .int p2), (2, .int p3), (4, .int x3)] → W p l e (headSpec w_Md_shortWord rm_Md_shortWord).room s m (([.int p1, .int p2, .int p3] : List Value).toArray) below meth c s.heap [] 0 0 (MQ below (qc_Md_shortWord r0) (([.int p1, .int p2, .int p3] : List Value).toArray) s 0 0 (fun _ => False)) (F0 m 36 ls [.int x5]) := by
          intro x5 Hf ls hl
          rw [hk6] at Hf
          refine lv_istore_n (lv' := [(3, .int x5), (0, .int p1), (1, .int p2), (2, .int p3), (4, .int x3)]) hx hb d_Md_shortWord_36 rfl hl (by decide) rfl (fun ls hl => ?_)
          obtain ⟨x7, ex7, Hf⟩ := sq_bd_e Hf
          refine lv_iinc (v := x7) (lv' := [(4, .int x7), (3, .int x5), (0, .int p1), (1, .int p2), (2, .int p3)]) hx hb d_Md_shortWord_37 hl (k := 4) rfl (by rw [ex7]; rfl) (by decide) rfl (fun ls hl => ?_)
          refine lv_goto (tgt := 8) hx hb d_Md_shortWord_40 (by decide) ?_
          exact ih1 x5 x7 Hf _ (lv_sub hl [2, 3, 4, 1, 0] rfl)
        refine lv_icmp_ne (tgt := 35) hx hb d_Md_shortWord_21 (by decide) (fun c8 => ?_) (fun c8 => ?_)
        · replace Hf := sq_ite_f Hf c8
          refine lv_iload_n hx hb d_Md_shortWord_35 rfl (lv_at hl 3 rfl) ?_
          exact Jk6 x2 Hf _ (lv_sub hl [0, 1, 2, 4] rfl)
        · replace Hf := sq_ite_t Hf c8
          refine lv_iload_n hx hb d_Md_shortWord_24 rfl (lv_at hl 3 rfl) ?_
          refine lv_iload_n hx hb d_Md_shortWord_25 rfl (lv_at hl 2 rfl) ?_
          refine lv_iload hx hb d_Md_shortWord_26 (lv_at hl 4 rfl) ?_
          refine lv_iload_n hx hb d_Md_shortWord_28 rfl (lv_at hl 1 rfl) ?_
          refine lv_isub hx hb d_Md_shortWord_29 ?_
          refine lv_ishl hx hb d_Md_shortWord_30 ?_
          refine lv_ixor hx hb d_Md_shortWord_31 ?_
          refine lv_goto (tgt := 36) hx hb d_Md_shortWord_32 (by decide) ?_
          exact Jk6 (x2 ^^^ (p3 <<< ((x3 - p2) &&& 31))) Hf _ (lv_sub hl [0, 1, 2, 4] rfl)
  exact L1 n0 x1 (17 : Int32) Hf _ (lv_sub hl [2, 3, 4, 1, 0] rfl)

def fn_Md_formWord (n0 : Nat) (p1 : Int32) : Option (Int32) :=
  sq_cb1 (fn_Md_shortWord n0 p1 (10 : Int32) (1335 : Int32)) fun r1 => some (r1 ^^^ (21522 : Int32))
def rm_Md_formWord : Room := { frames := 1, cells := 0, slots := 0, locals := 24 }
abbrev qc_Md_formWord (r0 : Int32) : Array Value → State → Outcome → State → Prop := vp_Si (fun r => r = r0)

set_option maxHeartbeats 4000000 in
set_option maxRecDepth 100000 in
theorem kt_Md_formWord (l : Launch) (dC : Nat → ClassId) (dI : Nat → Nat → Nat) (p1 : Int32) (n0 : Nat) (r0 : Int32) (Hf : fn_Md_formWord n0 p1 = some r0) : Met l y_Md_formWord w_Md_formWord rm_Md_formWord (va_Pc [.int p1] (fun U => va_P (dC, dI) cl_All ([] : va_W) U.heap ∧ va_K (dC, dI) cl_All [] U)) (qc_Md_formWord r0) 0 0 (fun _ => False) := by
  refine Met.ofW (cc := prog_14_method_38_code) (maxL := 1) (ret := (some .int)) (by decide) rfl ?_
  intro p e s m args below meth c s₁ B hml hv
  obtain ⟨rfl, hP, hK⟩ := hv
  have hx := B.exec; have hb := B.bytes; have hr := B.returns; have hlocks := B.notSynchronized
  have ht : ∀ w ∈ lw_g, w.before _ s = true := fun w h => atoms_spec (ws := w_Md_formWord) B.pre w (List.mem_cons_of_mem _ h)
  have hown : s.vm.findClass "SquareSymbolsModel" = some m.cls := findClass_of_methodNamed B.named
  have hl := lv_entry ([.int p1]) (n := 1) (Nat.le_of_ble_eq_true rfl)
  rw [lg_entry_eq]
  generalize (lg_sl ([.int p1]) ++ List.replicate (1 - (lg_sl ([.int p1])).length) Slot.unset).toArray = ls at hl ⊢
  have hl : lv_has ls 1 [(0, .int p1)] := hl
  refine lv_iload_n hx hb d_Md_formWord_0 rfl (lv_at hl 0 rfl) ?_
  refine lv_bipush (v := (10 : Int32)) hx hb d_Md_formWord_1 (by decide) ?_
  refine lv_sipush (v := (1335 : Int32)) hx hb d_Md_formWord_3 (by decide) ?_
  obtain ⟨r1, hc2, Hf⟩ := sq_cb1_e Hf
  refine sq_roi (va_runS (As := [.int p1, .int (10 : Int32), .int (1335 : Int32)]) (rest := []) ⟨hx, hb, hml, hown, ht⟩ (kt_Md_shortWord l dC dI p1 (10 : Int32) (1335 : Int32) n0 r1 hc2) (va_cwS 3 ht (sq_gS tb_1317 tb_1318 tb_11 tb_1319) rfl rfl rfl (by decide +kernel) ⟨Nat.le_of_ble_eq_true rfl, Nat.le_of_ble_eq_true rfl⟩) (sq_roS (hP.sub (ws' := ([] : va_W)) [] rfl) (hK.sub (tys' := []) [] rfl)) rfl rfl hl.1 rfl (lv_room (Nat.le_of_ble_eq_true rfl)) d_Md_formWord_6 ⟨Nat.le_of_ble_eq_true rfl, Nat.le_of_ble_eq_true rfl⟩) ?_
  refine lv_sipush (v := (21522 : Int32)) hx hb d_Md_formWord_9 (by decide) ?_
  refine lv_ixor hx hb d_Md_formWord_12 ?_
  have er := Option.some.inj Hf
  exact W.iret hx hb hr (fun t ht hW => ⟨_, rfl, er, ht⟩) (fun q h => by cases h) d_Md_formWord_13

def fn_Md_formX (p1 : Int32) (p2 : Int32) (p3 : Int32) : Option (Int32) :=
  if p2 = 0 then (if (8 : Int32) ≤ p1 then (if p1 = (8 : Int32) then (some ((7 : Int32))) else (some ((14 : Int32) - p1))) else (some ((8 : Int32)))) else (if (8 : Int32) ≤ p1 then (some ((8 : Int32))) else (some ((p3 - (1 : Int32)) - p1)))
def rm_Md_formX : Room := { frames := 0, cells := 0, slots := 0, locals := 0 }
abbrev qc_Md_formX (r0 : Int32) : Array Value → State → Outcome → State → Prop := vp_Si (fun r => r = r0)

set_option maxHeartbeats 4000000 in
set_option maxRecDepth 100000 in
theorem kt_Md_formX (l : Launch) (dC : Nat → ClassId) (dI : Nat → Nat → Nat) (p1 : Int32) (p2 : Int32) (p3 : Int32) (r0 : Int32) (Hf : fn_Md_formX p1 p2 p3 = some r0) : Met l y_Md_formX w_Md_formX rm_Md_formX (va_Pc [.int p1, .int p2, .int p3] (fun U => va_P (dC, dI) cl_All ([] : va_W) U.heap ∧ va_K (dC, dI) cl_All [] U)) (qc_Md_formX r0) 0 0 (fun _ => False) := by
  refine Met.ofW (cc := prog_14_method_39_code) (maxL := 3) (ret := (some .int)) (by decide) rfl ?_
  intro p e s m args below meth c s₁ B hml hv
  obtain ⟨rfl, hP, hK⟩ := hv
  have hx := B.exec; have hb := B.bytes; have hr := B.returns; have hlocks := B.notSynchronized
  have ht : ∀ w ∈ lw_g, w.before _ s = true := fun w h => atoms_spec (ws := w_Md_formX) B.pre w (List.mem_cons_of_mem _ h)
  have hown : s.vm.findClass "SquareSymbolsModel" = some m.cls := findClass_of_methodNamed B.named
  have hl := lv_entry ([.int p1, .int p2, .int p3]) (n := 3) (Nat.le_of_ble_eq_true rfl)
  rw [lg_entry_eq]
  generalize (lg_sl ([.int p1, .int p2, .int p3]) ++ List.replicate (3 - (lg_sl ([.int p1, .int p2, .int p3])).length) Slot.unset).toArray = ls at hl ⊢
  have hl : lv_has ls 3 [(0, .int p1), (1, .int p2), (2, .int p3)] := hl
  refine lv_iload_n hx hb d_Md_formX_0 rfl (lv_at hl 1 rfl) ?_
  refine lv_if_eq (tgt := 21) hx hb d_Md_formX_1 (by decide) (fun c1 => ?_) (fun c1 => ?_)
  · replace Hf := sq_ite_t Hf c1
    refine lv_iload_n hx hb d_Md_formX_21 rfl (lv_at hl 0 rfl) ?_
    refine lv_bipush (v := (8 : Int32)) hx hb d_Md_formX_22 (by decide) ?_
    refine lv_icmp_ge (tgt := 32) hx hb d_Md_formX_24 (by decide) (fun c2 => ?_) (fun c2 => ?_)
    · replace Hf := sq_ite_t Hf c2
      refine lv_iload_n hx hb d_Md_formX_32 rfl (lv_at hl 0 rfl) ?_
      refine lv_bipush (v := (8 : Int32)) hx hb d_Md_formX_33 (by decide) ?_
      refine lv_icmp_ne (tgt := 43) hx hb d_Md_formX_35 (by decide) (fun c3 => ?_) (fun c3 => ?_)
      · replace Hf := sq_ite_f Hf c3
        refine lv_bipush (v := (14 : Int32)) hx hb d_Md_formX_43 (by decide) ?_
        refine lv_iload_n hx hb d_Md_formX_45 rfl (lv_at hl 0 rfl) ?_
        refine lv_isub hx hb d_Md_formX_46 ?_
        have er := Option.some.inj Hf
        exact W.iret hx hb hr (fun t ht hW => ⟨_, rfl, er, ht⟩) (fun q h => by cases h) d_Md_formX_47
      · replace Hf := sq_ite_t Hf c3
        refine lv_bipush (v := (7 : Int32)) hx hb d_Md_formX_38 (by decide) ?_
        refine lv_goto (tgt := 47) hx hb d_Md_formX_40 (by decide) ?_
        have er := Option.some.inj Hf
        exact W.iret hx hb hr (fun t ht hW => ⟨_, rfl, er, ht⟩) (fun q h => by cases h) d_Md_formX_47
    · replace Hf := sq_ite_f Hf c2
      refine lv_bipush (v := (8 : Int32)) hx hb d_Md_formX_27 (by decide) ?_
      refine lv_goto (tgt := 47) hx hb d_Md_formX_29 (by decide) ?_
      have er := Option.some.inj Hf
      exact W.iret hx hb hr (fun t ht hW => ⟨_, rfl, er, ht⟩) (fun q h => by cases h) d_Md_formX_47
  · replace Hf := sq_ite_f Hf c1
    refine lv_iload_n hx hb d_Md_formX_4 rfl (lv_at hl 0 rfl) ?_
    refine lv_bipush (v := (8 : Int32)) hx hb d_Md_formX_5 (by decide) ?_
    refine lv_icmp_ge (tgt := 18) hx hb d_Md_formX_7 (by decide) (fun c4 => ?_) (fun c4 => ?_)
    · replace Hf := sq_ite_t Hf c4
      refine lv_bipush (v := (8 : Int32)) hx hb d_Md_formX_18 (by decide) ?_
      have er := Option.some.inj Hf
      exact W.iret hx hb hr (fun t ht hW => ⟨_, rfl, er, ht⟩) (fun q h => by cases h) d_Md_formX_20
    · replace Hf := sq_ite_f Hf c4
      refine lv_iload_n hx hb d_Md_formX_10 rfl (lv_at hl 2 rfl) ?_
      refine lv_iconst (v := (1 : Int32)) hx hb d_Md_formX_11 (by decide) ?_
      refine lv_isub hx hb d_Md_formX_12 ?_
      refine lv_iload_n hx hb d_Md_formX_13 rfl (lv_at hl 0 rfl) ?_
      refine lv_isub hx hb d_Md_formX_14 ?_
      refine lv_goto (tgt := 20) hx hb d_Md_formX_15 (by decide) ?_
      have er := Option.some.inj Hf
      exact W.iret hx hb hr (fun t ht hW => ⟨_, rfl, er, ht⟩) (fun q h => by cases h) d_Md_formX_20

def fn_Md_formY (p1 : Int32) (p2 : Int32) (p3 : Int32) : Option (Int32) :=
  if p2 = 0 then (if (6 : Int32) ≤ p1 then (if (8 : Int32) ≤ p1 then (some ((8 : Int32))) else (some (p1 + (1 : Int32)))) else (some (p1))) else (if (8 : Int32) ≤ p1 then (some ((p3 - (15 : Int32)) + p1)) else (some ((8 : Int32))))
def rm_Md_formY : Room := { frames := 0, cells := 0, slots := 0, locals := 0 }
abbrev qc_Md_formY (r0 : Int32) : Array Value → State → Outcome → State → Prop := vp_Si (fun r => r = r0)

set_option maxHeartbeats 4000000 in
set_option maxRecDepth 100000 in
theorem kt_Md_formY (l : Launch) (dC : Nat → ClassId) (dI : Nat → Nat → Nat) (p1 : Int32) (p2 : Int32) (p3 : Int32) (r0 : Int32) (Hf : fn_Md_formY p1 p2 p3 = some r0) : Met l y_Md_formY w_Md_formY rm_Md_formY (va_Pc [.int p1, .int p2, .int p3] (fun U => va_P (dC, dI) cl_All ([] : va_W) U.heap ∧ va_K (dC, dI) cl_All [] U)) (qc_Md_formY r0) 0 0 (fun _ => False) := by
  refine Met.ofW (cc := prog_14_method_40_code) (maxL := 3) (ret := (some .int)) (by decide) rfl ?_
  intro p e s m args below meth c s₁ B hml hv
  obtain ⟨rfl, hP, hK⟩ := hv
  have hx := B.exec; have hb := B.bytes; have hr := B.returns; have hlocks := B.notSynchronized
  have ht : ∀ w ∈ lw_g, w.before _ s = true := fun w h => atoms_spec (ws := w_Md_formY) B.pre w (List.mem_cons_of_mem _ h)
  have hown : s.vm.findClass "SquareSymbolsModel" = some m.cls := findClass_of_methodNamed B.named
  have hl := lv_entry ([.int p1, .int p2, .int p3]) (n := 3) (Nat.le_of_ble_eq_true rfl)
  rw [lg_entry_eq]
  generalize (lg_sl ([.int p1, .int p2, .int p3]) ++ List.replicate (3 - (lg_sl ([.int p1, .int p2, .int p3])).length) Slot.unset).toArray = ls at hl ⊢
  have hl : lv_has ls 3 [(0, .int p1), (1, .int p2), (2, .int p3)] := hl
  refine lv_iload_n hx hb d_Md_formY_0 rfl (lv_at hl 1 rfl) ?_
  refine lv_if_eq (tgt := 22) hx hb d_Md_formY_1 (by decide) (fun c1 => ?_) (fun c1 => ?_)
  · replace Hf := sq_ite_t Hf c1
    refine lv_iload_n hx hb d_Md_formY_22 rfl (lv_at hl 0 rfl) ?_
    refine lv_bipush (v := (6 : Int32)) hx hb d_Md_formY_23 (by decide) ?_
    refine lv_icmp_ge (tgt := 32) hx hb d_Md_formY_25 (by decide) (fun c2 => ?_) (fun c2 => ?_)
    · replace Hf := sq_ite_t Hf c2
      refine lv_iload_n hx hb d_Md_formY_32 rfl (lv_at hl 0 rfl) ?_
      refine lv_bipush (v := (8 : Int32)) hx hb d_Md_formY_33 (by decide) ?_
      refine lv_icmp_ge (tgt := 44) hx hb d_Md_formY_35 (by decide) (fun c3 => ?_) (fun c3 => ?_)
      · replace Hf := sq_ite_t Hf c3
        refine lv_bipush (v := (8 : Int32)) hx hb d_Md_formY_44 (by decide) ?_
        have er := Option.some.inj Hf
        exact W.iret hx hb hr (fun t ht hW => ⟨_, rfl, er, ht⟩) (fun q h => by cases h) d_Md_formY_46
      · replace Hf := sq_ite_f Hf c3
        refine lv_iload_n hx hb d_Md_formY_38 rfl (lv_at hl 0 rfl) ?_
        refine lv_iconst (v := (1 : Int32)) hx hb d_Md_formY_39 (by decide) ?_
        refine lv_iadd hx hb d_Md_formY_40 ?_
        refine lv_goto (tgt := 46) hx hb d_Md_formY_41 (by decide) ?_
        have er := Option.some.inj Hf
        exact W.iret hx hb hr (fun t ht hW => ⟨_, rfl, er, ht⟩) (fun q h => by cases h) d_Md_formY_46
    · replace Hf := sq_ite_f Hf c2
      refine lv_iload_n hx hb d_Md_formY_28 rfl (lv_at hl 0 rfl) ?_
      refine lv_goto (tgt := 46) hx hb d_Md_formY_29 (by decide) ?_
      have er := Option.some.inj Hf
      exact W.iret hx hb hr (fun t ht hW => ⟨_, rfl, er, ht⟩) (fun q h => by cases h) d_Md_formY_46
  · replace Hf := sq_ite_f Hf c1
    refine lv_iload_n hx hb d_Md_formY_4 rfl (lv_at hl 0 rfl) ?_
    refine lv_bipush (v := (8 : Int32)) hx hb d_Md_formY_5 (by decide) ?_
    refine lv_icmp_ge (tgt := 15) hx hb d_Md_formY_7 (by decide) (fun c4 => ?_) (fun c4 => ?_)
    · replace Hf := sq_ite_t Hf c4
      refine lv_iload_n hx hb d_Md_formY_15 rfl (lv_at hl 2 rfl) ?_
      refine lv_bipush (v := (15 : Int32)) hx hb d_Md_formY_16 (by decide) ?_
      refine lv_isub hx hb d_Md_formY_18 ?_
      refine lv_iload_n hx hb d_Md_formY_19 rfl (lv_at hl 0 rfl) ?_
      refine lv_iadd hx hb d_Md_formY_20 ?_
      have er := Option.some.inj Hf
      exact W.iret hx hb hr (fun t ht hW => ⟨_, rfl, er, ht⟩) (fun q h => by cases h) d_Md_formY_21
    · replace Hf := sq_ite_f Hf c4
      refine lv_bipush (v := (8 : Int32)) hx hb d_Md_formY_10 (by decide) ?_
      refine lv_goto (tgt := 21) hx hb d_Md_formY_12 (by decide) ?_
      have er := Option.some.inj Hf
      exact W.iret hx hb hr (fun t ht hW => ⟨_, rfl, er, ht⟩) (fun q h => by cases h) d_Md_formY_21

def fn_Md_layForm_L1 (vt_side : Int32) (r1 : Int32) : Nat → Int32 → (Nat → Int32) → (Nat → Int32) → Option ((Nat → Int32) × (Nat → Int32))
  | 0, _, _, _ => none
  | m1 + 1, x3, b4, b5 => if (15 : Int32) ≤ x3 then (some (b4, b5)) else (sq_cb1 (fn_Md_formX x3 (0 : Int32) vt_side) fun r7 => sq_cb1 (fn_Md_formY x3 (0 : Int32) vt_side) fun r9 => sq_jn (fun (x11 : Int32) => sq_cb2 (fn_Md_fix r7 r9 x11 vt_side b4 b5) fun b13 b14 => sq_cb1 (fn_Md_formX x3 (1 : Int32) vt_side) fun r16 => sq_cb1 (fn_Md_formY x3 (1 : Int32) vt_side) fun r18 => sq_jn (fun (x20 : Int32) => sq_cb2 (fn_Md_fix r16 r18 x20 vt_side b13 b14) fun b22 b23 => sq_bd (x3 + (1 : Int32)) fun x25 => fn_Md_layForm_L1 vt_side r1 m1 x25 b22 b23) fun k21 => if ((r1 >>> (x3 &&& 31)) &&& (1 : Int32)) = (1 : Int32) then (k21 (1 : Int32)) else (k21 (0 : Int32))) fun k12 => if ((r1 >>> (x3 &&& 31)) &&& (1 : Int32)) = (1 : Int32) then (k12 (1 : Int32)) else (k12 (0 : Int32)))
theorem fn_Md_layForm_L1_s (vt_side : Int32) (r1 : Int32) (m1 : Nat) (x3 : Int32) (b4 : Nat → Int32) (b5 : Nat → Int32) : fn_Md_layForm_L1 vt_side r1 (m1 + 1) x3 b4 b5 = if (15 : Int32) ≤ x3 then (some (b4, b5)) else (sq_cb1 (fn_Md_formX x3 (0 : Int32) vt_side) fun r7 => sq_cb1 (fn_Md_formY x3 (0 : Int32) vt_side) fun r9 => sq_jn (fun (x11 : Int32) => sq_cb2 (fn_Md_fix r7 r9 x11 vt_side b4 b5) fun b13 b14 => sq_cb1 (fn_Md_formX x3 (1 : Int32) vt_side) fun r16 => sq_cb1 (fn_Md_formY x3 (1 : Int32) vt_side) fun r18 => sq_jn (fun (x20 : Int32) => sq_cb2 (fn_Md_fix r16 r18 x20 vt_side b13 b14) fun b22 b23 => sq_bd (x3 + (1 : Int32)) fun x25 => fn_Md_layForm_L1 vt_side r1 m1 x25 b22 b23) fun k21 => if ((r1 >>> (x3 &&& 31)) &&& (1 : Int32)) = (1 : Int32) then (k21 (1 : Int32)) else (k21 (0 : Int32))) fun k12 => if ((r1 >>> (x3 &&& 31)) &&& (1 : Int32)) = (1 : Int32) then (k12 (1 : Int32)) else (k12 (0 : Int32))) := rfl
def fn_Md_layForm (n0 : Nat) (p1 : Int32) (vt_side : Int32) (vt_fixed : Nat → Int32) (vt_modules : Nat → Int32) : Option ((Nat → Int32) × (Nat → Int32)) :=
  sq_cb1 (fn_Md_formWord n0 p1) fun r1 => fn_Md_layForm_L1 vt_side r1 n0 (0 : Int32) vt_fixed vt_modules
abbrev ww_Md_layForm (qt qt_fixed qt_modules qt_checkBytes qt_blocks qt_data qt_tells qt_segmentModes qt_segmentLengths qt_modes qt_takes qt_bytes qt_words qt_block qt_tried qt_values qt_system qt_solved qt_places qt_generator qt_readBytes qt_readings : Nat) (ct_fixed ct_modules : ClassId) (vt_thrown : Int32) (vt_length : Int32) (vt_version : Int32) (vt_side : Int32) (vt_made : Int32) (vt_segments : Int32) (vt_bits : Int32) (vt_filled : Int32) (vt_readLength : Int32) (vt_at : Int32) (vt_all : Int32) (vt_fault : Int32) (vt_good : Int32) (vt_fixed : Nat → Int32) (vt_modules : Nat → Int32) : va_W := [(qt, .inr (10, [.int vt_thrown, .ref qt_checkBytes, .ref qt_blocks, .ref qt_data, .int vt_length, .ref qt_modules, .ref qt_fixed, .int vt_version, .int vt_side, .int vt_made, .ref qt_tells, .ref qt_segmentModes, .ref qt_segmentLengths, .int vt_segments, .ref qt_modes, .ref qt_takes, .int vt_bits, .ref qt_bytes, .ref qt_words, .int vt_filled, .ref qt_block, .ref qt_tried, .ref qt_values, .ref qt_system, .ref qt_solved, .ref qt_places, .ref qt_generator, .ref qt_readBytes, .int vt_readLength, .int vt_at, .int vt_all, .int vt_fault, .int vt_good, .ref qt_readings])), (qt_fixed, .inl (ct_fixed, 31329, .inl vt_fixed)), (qt_modules, .inl (ct_modules, 31329, .inl vt_modules))]

def rm_Md_layForm : Room := { frames := 2, cells := 0, slots := 0, locals := 45 }
abbrev qc_Md_layForm (dC : Nat → ClassId) (dI : Nat → Nat → Nat) (A : Nat → Prop) (qt qt_fixed qt_modules qt_checkBytes qt_blocks qt_data qt_tells qt_segmentModes qt_segmentLengths qt_modes qt_takes qt_bytes qt_words qt_block qt_tried qt_values qt_system qt_solved qt_places qt_generator qt_readBytes qt_readings : Nat) (ct_fixed ct_modules : ClassId) (vt_thrown : Int32) (vt_length : Int32) (vt_version : Int32) (vt_side : Int32) (vt_made : Int32) (vt_segments : Int32) (vt_bits : Int32) (vt_filled : Int32) (vt_readLength : Int32) (vt_at : Int32) (vt_all : Int32) (vt_fault : Int32) (vt_good : Int32) (vt_fixed : Nat → Int32) (vt_modules : Nat → Int32) : Array Value → State → Outcome → State → Prop := va_Qv (fun (_ : Unit) => True) (fun _ t => va_P (dC, dI) cl_All (ww_Md_layForm qt qt_fixed qt_modules qt_checkBytes qt_blocks qt_data qt_tells qt_segmentModes qt_segmentLengths qt_modes qt_takes qt_bytes qt_words qt_block qt_tried qt_values qt_system qt_solved qt_places qt_generator qt_readBytes qt_readings ct_fixed ct_modules vt_thrown vt_length vt_version vt_side vt_made vt_segments vt_bits vt_filled vt_readLength vt_at vt_all vt_fault vt_good vt_fixed vt_modules) t.heap ∧ va_D A (ww_Md_layForm qt qt_fixed qt_modules qt_checkBytes qt_blocks qt_data qt_tells qt_segmentModes qt_segmentLengths qt_modes qt_takes qt_bytes qt_words qt_block qt_tried qt_values qt_system qt_solved qt_places qt_generator qt_readBytes qt_readings ct_fixed ct_modules vt_thrown vt_length vt_version vt_side vt_made vt_segments vt_bits vt_filled vt_readLength vt_at vt_all vt_fault vt_good vt_fixed vt_modules)) A

set_option maxHeartbeats 4000000 in
set_option maxRecDepth 100000 in
theorem kt_Md_layForm (l : Launch) (dC : Nat → ClassId) (dI : Nat → Nat → Nat) (qt qt_fixed qt_modules qt_checkBytes qt_blocks qt_data qt_tells qt_segmentModes qt_segmentLengths qt_modes qt_takes qt_bytes qt_words qt_block qt_tried qt_values qt_system qt_solved qt_places qt_generator qt_readBytes qt_readings : Nat) (ct_fixed ct_modules : ClassId) (vt_thrown : Int32) (vt_length : Int32) (vt_version : Int32) (vt_side : Int32) (vt_made : Int32) (vt_segments : Int32) (vt_bits : Int32) (vt_filled : Int32) (vt_readLength : Int32) (vt_at : Int32) (vt_all : Int32) (vt_fault : Int32) (vt_good : Int32) (vt_fixed : Nat → Int32) (vt_modules : Nat → Int32) (p1 : Int32) (sz : Nat) (n0 : Nat) (nvt_fixed : Nat → Int32) (nvt_modules : Nat → Int32) (Hf : fn_Md_layForm n0 p1 vt_side vt_fixed vt_modules = some (nvt_fixed, nvt_modules)) : Met l y_Md_layForm w_Md_layForm rm_Md_layForm (va_Pc [.ref qt, .int p1] (fun U => U.heap.size = sz ∧ va_P (dC, dI) cl_All (ww_Md_layForm qt qt_fixed qt_modules qt_checkBytes qt_blocks qt_data qt_tells qt_segmentModes qt_segmentLengths qt_modes qt_takes qt_bytes qt_words qt_block qt_tried qt_values qt_system qt_solved qt_places qt_generator qt_readBytes qt_readings ct_fixed ct_modules vt_thrown vt_length vt_version vt_side vt_made vt_segments vt_bits vt_filled vt_readLength vt_at vt_all vt_fault vt_good vt_fixed vt_modules) U.heap ∧ va_K (dC, dI) cl_All [(ct_fixed, .int), (ct_modules, .int)] U ∧ va_D (fun _ => True) (ww_Md_layForm qt qt_fixed qt_modules qt_checkBytes qt_blocks qt_data qt_tells qt_segmentModes qt_segmentLengths qt_modes qt_takes qt_bytes qt_words qt_block qt_tried qt_values qt_system qt_solved qt_places qt_generator qt_readBytes qt_readings ct_fixed ct_modules vt_thrown vt_length vt_version vt_side vt_made vt_segments vt_bits vt_filled vt_readLength vt_at vt_all vt_fault vt_good vt_fixed vt_modules))) (qc_Md_layForm dC dI (va_A (ww_Md_layForm qt qt_fixed qt_modules qt_checkBytes qt_blocks qt_data qt_tells qt_segmentModes qt_segmentLengths qt_modes qt_takes qt_bytes qt_words qt_block qt_tried qt_values qt_system qt_solved qt_places qt_generator qt_readBytes qt_readings ct_fixed ct_modules vt_thrown vt_length vt_version vt_side vt_made vt_segments vt_bits vt_filled vt_readLength vt_at vt_all vt_fault vt_good vt_fixed vt_modules) sz) qt qt_fixed qt_modules qt_checkBytes qt_blocks qt_data qt_tells qt_segmentModes qt_segmentLengths qt_modes qt_takes qt_bytes qt_words qt_block qt_tried qt_values qt_system qt_solved qt_places qt_generator qt_readBytes qt_readings ct_fixed ct_modules vt_thrown vt_length vt_version vt_side vt_made vt_segments vt_bits vt_filled vt_readLength vt_at vt_all vt_fault vt_good nvt_fixed nvt_modules) 0 0 (va_A (ww_Md_layForm qt qt_fixed qt_modules qt_checkBytes qt_blocks qt_data qt_tells qt_segmentModes qt_segmentLengths qt_modes qt_takes qt_bytes qt_words qt_block qt_tried qt_values qt_system qt_solved qt_places qt_generator qt_readBytes qt_readings ct_fixed ct_modules vt_thrown vt_length vt_version vt_side vt_made vt_segments vt_bits vt_filled vt_readLength vt_at vt_all vt_fault vt_good vt_fixed vt_modules) sz) := by
  refine Met.ofW (cc := prog_14_method_41_code) (maxL := 4) (ret := none) (by decide) rfl ?_
  intro p e s m args below meth c s₁ B hml hv
  obtain ⟨rfl, hsz, hP, hK, hD0⟩ := hv
  have hx := B.exec; have hb := B.bytes; have hr := B.returns; have hlocks := B.notSynchronized
  have ht : ∀ w ∈ lw_g, w.before _ s = true := fun w h => atoms_spec (ws := w_Md_layForm) B.pre w (List.mem_cons_of_mem _ h)
  have hown : s.vm.findClass "SquareSymbolsModel" = some m.cls := findClass_of_methodNamed B.named
  subst hsz
  have hD := hD0.self (sz := s.heap.size)
  generalize hAe : va_A (ww_Md_layForm qt qt_fixed qt_modules qt_checkBytes qt_blocks qt_data qt_tells qt_segmentModes qt_segmentLengths qt_modes qt_takes qt_bytes qt_words qt_block qt_tried qt_values qt_system qt_solved qt_places qt_generator qt_readBytes qt_readings ct_fixed ct_modules vt_thrown vt_length vt_version vt_side vt_made vt_segments vt_bits vt_filled vt_readLength vt_at vt_all vt_fault vt_good vt_fixed vt_modules) s.heap.size = A at hD ⊢
  have hA : ∀ q : Nat, s.heap.size ≤ q → A q := fun q h => by rw [← hAe]; exact Or.inr h
  have hS : va_S A s.heap s.heap [] := va_S.rf
  have hl := lv_entry ([.ref qt, .int p1]) (n := 4) (Nat.le_of_ble_eq_true rfl)
  rw [lg_entry_eq]
  generalize (lg_sl ([.ref qt, .int p1]) ++ List.replicate (4 - (lg_sl ([.ref qt, .int p1])).length) Slot.unset).toArray = ls at hl ⊢
  have hl : lv_has ls 4 [(0, .ref qt), (1, .int p1)] := hl
  refine lv_iload_n hx hb d_Md_layForm_0 rfl (lv_at hl 1 rfl) ?_
  obtain ⟨r1, hc2, Hf⟩ := sq_cb1_e Hf
  refine sq_roi (va_runS (As := [.int p1]) (rest := []) ⟨hx, hb, hml, hown, ht⟩ (kt_Md_formWord l dC dI p1 n0 r1 hc2) (va_cwS 1 ht (sq_gS tb_1314 tb_1315 tb_11 tb_1316) rfl rfl rfl (by decide +kernel) ⟨Nat.le_of_ble_eq_true rfl, Nat.le_of_ble_eq_true rfl⟩) (sq_roS (hP.sub (ws' := ([] : va_W)) [] rfl) (hK.sub (tys' := []) [] rfl)) rfl rfl hl.1 rfl (lv_room (Nat.le_of_ble_eq_true rfl)) d_Md_layForm_1 ⟨Nat.le_of_ble_eq_true rfl, Nat.le_of_ble_eq_true rfl⟩) ?_
  refine lv_istore_n (lv' := [(2, .int r1), (0, .ref qt), (1, .int p1)]) hx hb d_Md_layForm_4 rfl hl (by decide) rfl (fun ls hl => ?_)
  refine lv_iconst (v := (0 : Int32)) hx hb d_Md_layForm_5 (by decide) ?_
  refine lv_istore_n (lv' := [(3, .int (0 : Int32)), (2, .int r1), (0, .ref qt), (1, .int p1)]) hx hb d_Md_layForm_6 rfl hl (by decide) rfl (fun ls hl => ?_)
  have L1 : ∀ (m1 : Nat), ∀ (x3 : Int32) (b4 : Nat → Int32) (b5 : Nat → Int32), fn_Md_layForm_L1 vt_side r1 m1 x3 b4 b5 = some (nvt_fixed, nvt_modules) → ∀ (H : Heap) (locs : List Loc), va_P (dC, dI) cl_All (ww_Md_layForm qt qt_fixed qt_modules qt_checkBytes qt_blocks qt_data qt_tells qt_segmentModes qt_segmentLengths qt_modes qt_takes qt_bytes qt_words qt_block qt_tried qt_values qt_system qt_solved qt_places qt_generator qt_readBytes qt_readings ct_fixed ct_modules vt_thrown vt_length vt_version vt_side vt_made vt_segments vt_bits vt_filled vt_readLength vt_at vt_all vt_fault vt_good b4 b5) H → va_D A (ww_Md_layForm qt qt_fixed qt_modules qt_checkBytes qt_blocks qt_data qt_tells qt_segmentModes qt_segmentLengths qt_modes qt_takes qt_bytes qt_words qt_block qt_tried qt_values qt_system qt_solved qt_places qt_generator qt_readBytes qt_readings ct_fixed ct_modules vt_thrown vt_length vt_version vt_side vt_made vt_segments vt_bits vt_filled vt_readLength vt_at vt_all vt_fault vt_good b4 b5) → va_S A s.heap H locs → ∀ ls : Array Slot, lv_has ls 4 [(0, .ref qt), (2, .int r1), (3, .int x3)] → W p l e (headSpec w_Md_layForm rm_Md_layForm).room s m (([.ref qt, .int p1] : List Value).toArray) below meth c H locs 0 0 (MQ below (qc_Md_layForm dC dI A qt qt_fixed qt_modules qt_checkBytes qt_blocks qt_data qt_tells qt_segmentModes qt_segmentLengths qt_modes qt_takes qt_bytes qt_words qt_block qt_tried qt_values qt_system qt_solved qt_places qt_generator qt_readBytes qt_readings ct_fixed ct_modules vt_thrown vt_length vt_version vt_side vt_made vt_segments vt_bits vt_filled vt_readLength vt_at vt_all vt_fault vt_good nvt_fixed nvt_modules) (([.ref qt, .int p1] : List Value).toArray) s 0 0 A) (F0 m 7 ls []) := by
    intro m1
    induction m1 with
    | zero => intro x3 b4 b5 Hf; exact sq_none Hf
    | succ m1 ih1 =>
      intro x3 b4 b5 Hf H locs  hP hD hS ls hl
      replace Hf := (fn_Md_layForm_L1_s vt_side r1 m1 x3 b4 b5).symm.trans Hf
      refine lv_iload_n hx hb d_Md_layForm_7 rfl (lv_at hl 2 rfl) ?_
      refine lv_bipush (v := (15 : Int32)) hx hb d_Md_layForm_8 (by decide) ?_
      refine lv_icmp_ge (tgt := 91) hx hb d_Md_layForm_10 (by decide) (fun c6 => ?_) (fun c6 => ?_)
      · replace Hf := sq_ite_t Hf c6
        obtain ⟨rfl, rfl⟩ := sq_so2 Hf
        exact W.vret hx hb hr (fun t ht hW => ⟨⟨(), rfl, trivial, by rw [ht]; exact hP, hD⟩, hS.F ht⟩) hS.2.2 d_Md_layForm_91
      · replace Hf := sq_ite_f Hf c6
        refine lv_aload_n hx hb d_Md_layForm_13 rfl (lv_at hl 0 rfl) ?_
        refine lv_iload_n hx hb d_Md_layForm_14 rfl (lv_at hl 2 rfl) ?_
        refine lv_iconst (v := (0 : Int32)) hx hb d_Md_layForm_15 (by decide) ?_
        refine lv_aload_n hx hb d_Md_layForm_16 rfl (lv_at hl 0 rfl) ?_
        refine va_get (D := (dC, dI)) (ci := 10) (v := .int vt_side) (C := R_Md) (T := F_Md) (N := 34) hx hb ht i_Md hown hK hP 0 rfl rfl 8 (by decide) (ht _ tb_1070) (fun _ h9 => h9) rfl d_Md_layForm_17 ?_
        obtain ⟨r7, hc8, Hf⟩ := sq_cb1_e Hf
        refine sq_roi (va_runS (As := [.int x3, .int (0 : Int32), .int vt_side]) (rest := [.ref qt]) ⟨hx, hb, hml, hown, ht⟩ (kt_Md_formX l dC dI x3 (0 : Int32) vt_side r7 hc8) (va_cwS 3 ht (sq_gS tb_1320 tb_1321 tb_11 tb_1322) rfl rfl rfl (by decide +kernel) ⟨Nat.le_of_ble_eq_true rfl, Nat.le_of_ble_eq_true rfl⟩) (sq_roS (hP.sub (ws' := ([] : va_W)) [] rfl) (hK.sub (tys' := []) [] rfl)) rfl rfl hl.1 rfl (lv_room (Nat.le_of_ble_eq_true rfl)) d_Md_layForm_20 ⟨Nat.le_of_ble_eq_true rfl, Nat.le_of_ble_eq_true rfl⟩) ?_
        refine lv_iload_n hx hb d_Md_layForm_23 rfl (lv_at hl 2 rfl) ?_
        refine lv_iconst (v := (0 : Int32)) hx hb d_Md_layForm_24 (by decide) ?_
        refine lv_aload_n hx hb d_Md_layForm_25 rfl (lv_at hl 0 rfl) ?_
        refine va_get (D := (dC, dI)) (ci := 10) (v := .int vt_side) (C := R_Md) (T := F_Md) (N := 34) hx hb ht i_Md hown hK hP 0 rfl rfl 8 (by decide) (ht _ tb_1070) (fun _ h9 => h9) rfl d_Md_layForm_26 ?_
        obtain ⟨r9, hc10, Hf⟩ := sq_cb1_e Hf
        refine sq_roi (va_runS (As := [.int x3, .int (0 : Int32), .int vt_side]) (rest := [.int r7, .ref qt]) ⟨hx, hb, hml, hown, ht⟩ (kt_Md_formY l dC dI x3 (0 : Int32) vt_side r9 hc10) (va_cwS 3 ht (sq_gS tb_1323 tb_1324 tb_11 tb_1325) rfl rfl rfl (by decide +kernel) ⟨Nat.le_of_ble_eq_true rfl, Nat.le_of_ble_eq_true rfl⟩) (sq_roS (hP.sub (ws' := ([] : va_W)) [] rfl) (hK.sub (tys' := []) [] rfl)) rfl rfl hl.1 rfl (lv_room (Nat.le_of_ble_eq_true rfl)) d_Md_layForm_29 ⟨Nat.le_of_ble_eq_true rfl, Nat.le_of_ble_eq_true rfl⟩) ?_
        refine lv_iload_n hx hb d_Md_layForm_32 rfl (lv_at hl 1 rfl) ?_
        refine lv_iload_n hx hb d_Md_layForm_33 rfl (lv_at hl 2 rfl) ?_
        refine lv_ishr hx hb d_Md_layForm_34 ?_
        refine lv_iconst (v := (1 : Int32)) hx hb d_Md_layForm_35 (by decide) ?_
        refine lv_iand hx hb d_Md_layForm_36 ?_
        refine lv_iconst (v := (1 : Int32)) hx hb d_Md_layForm_37 (by decide) ?_
        obtain ⟨k12, hk12, Hf⟩ := sq_jn_e Hf
        have Jk12 : ∀ (x11 : Int32), k12 x11 = some (nvt_fixed, nvt_modules) → ∀ (H : Heap) (locs : List Loc), va_P (dC, dI) cl_All (ww_Md_layForm qt qt_fixed qt_modules qt_checkBytes qt_blocks qt_data qt_tells qt_segmentModes qt_segmentLengths qt_modes qt_takes qt_bytes qt_words qt_block qt_tried qt_values qt_system qt_solved qt_places qt_generator qt_readBytes qt_readings ct_fixed ct_modules vt_thrown vt_length vt_version vt_side vt_made vt_segments vt_bits vt_filled vt_readLength vt_at vt_all vt_fault vt_good b4 b5) H → va_D A (ww_Md_layForm qt qt_fixed qt_modules qt_checkBytes qt_blocks qt_data qt_tells qt_segmentModes qt_segmentLengths qt_modes qt_takes qt_bytes qt_words qt_block qt_tried qt_values qt_system qt_solved qt_places qt_generator qt_readBytes qt_readings ct_fixed ct_modules vt_thrown vt_length vt_version vt_side vt_made vt_segments vt_bits vt_filled vt_readLength vt_at vt_all vt_fault vt_good b4 b5) → va_S A s.heap H locs → ∀ ls : Array Slot, lv_has ls 4 [(0, .ref qt), (2, .int r1), (3, .int x3)] → W p l e (headSpec w_Md_layForm rm_Md_layForm).room s m (([.ref qt, .int p1] : List Value).toArray) below meth c H locs 0 0 (MQ below (qc_Md_layForm dC dI A qt qt_fixed qt_modules qt_checkBytes qt_blocks qt_data qt_tells qt_segmentModes qt_segmentLengths qt_modes qt_takes qt_bytes qt_words qt_block qt_tried qt_values qt_system qt_solved qt_places qt_generator qt_readBytes qt_readings ct_fixed ct_modules vt_thrown vt_length vt_version vt_side vt_made vt_segments vt_bits vt_filled vt_readLength vt_at vt_all vt_fault vt_good nvt_fixed nvt_modules) (([.ref qt, .int p1] : List Value).toArray) s 0 0 A) (F0 m 46 ls [.int x11, .int r9, .int r7, .ref qt]) := by
          intro x11 Hf H locs  hP hD hS ls hl
          rw [hk12] at Hf
          obtain ⟨b13, b14, hc15, Hf⟩ := sq_cb2_e Hf
          refine sq_rwv (wn := (ww_Md_layForm qt qt_fixed qt_modules qt_checkBytes qt_blocks qt_data qt_tells qt_segmentModes qt_segmentLengths qt_modes qt_takes qt_bytes qt_words qt_block qt_tried qt_values qt_system qt_solved qt_places qt_generator qt_readBytes qt_readings ct_fixed ct_modules vt_thrown vt_length vt_version vt_side vt_made vt_segments vt_bits vt_filled vt_readLength vt_at vt_all vt_fault vt_good b13 b14)) (va_runV (As := [.int r7, .int r9, .int x11]) (rest := []) ⟨hx, hb, hml, hown, ht⟩ (kt_Md_fix l dC dI qt qt_fixed qt_modules qt_checkBytes qt_blocks qt_data qt_tells qt_segmentModes qt_segmentLengths qt_modes qt_takes qt_bytes qt_words qt_block qt_tried qt_values qt_system qt_solved qt_places qt_generator qt_readBytes qt_readings ct_fixed ct_modules vt_thrown vt_length vt_version vt_side vt_made vt_segments vt_bits vt_filled vt_readLength vt_at vt_all vt_fault vt_good b4 b5 r7 r9 x11 H.size b13 b14 hc15) (cwV 3 ht (sq_gV tb_1292 tb_1294 sl_48 tb_11 tb_1295) rfl rfl rfl (by decide +kernel) ⟨Nat.le_of_ble_eq_true rfl, Nat.le_of_ble_eq_true rfl⟩) (sq_rwV (hP.sub (ws' := (ww_Md_fix qt qt_fixed qt_modules qt_checkBytes qt_blocks qt_data qt_tells qt_segmentModes qt_segmentLengths qt_modes qt_takes qt_bytes qt_words qt_block qt_tried qt_values qt_system qt_solved qt_places qt_generator qt_readBytes qt_readings ct_fixed ct_modules vt_thrown vt_length vt_version vt_side vt_made vt_segments vt_bits vt_filled vt_readLength vt_at vt_all vt_fault vt_good b4 b5)) [0, 1, 2] rfl) (hK.sub (tys' := [(ct_fixed, .int), (ct_modules, .int)]) [0, 1] rfl) (hD.sub (ws' := (ww_Md_fix qt qt_fixed qt_modules qt_checkBytes qt_blocks qt_data qt_tells qt_segmentModes qt_segmentLengths qt_modes qt_takes qt_bytes qt_words qt_block qt_tried qt_values qt_system qt_solved qt_places qt_generator qt_readBytes qt_readings ct_fixed ct_modules vt_thrown vt_length vt_version vt_side vt_made vt_segments vt_bits vt_filled vt_readLength vt_at vt_all vt_fault vt_good b4 b5)) [0, 1, 2] (by decide) rfl) (va_recv hK hP (ci := 10) (q0 := 0) rfl rfl)) rfl rfl hl.1 rfl (lv_room (Nat.le_of_ble_eq_true rfl)) d_Md_layForm_46 ⟨Nat.le_of_ble_eq_true rfl, Nat.le_of_ble_eq_true rfl⟩) hP hD hS hA [0, 1, 2] [] [0, 1, 2] rfl rfl (by decide) (by decide) rfl (by decide) (fun H locs hP hD hS => ?_)
          refine lv_aload_n hx hb d_Md_layForm_49 rfl (lv_at hl 0 rfl) ?_
          refine lv_iload_n hx hb d_Md_layForm_50 rfl (lv_at hl 2 rfl) ?_
          refine lv_iconst (v := (1 : Int32)) hx hb d_Md_layForm_51 (by decide) ?_
          refine lv_aload_n hx hb d_Md_layForm_52 rfl (lv_at hl 0 rfl) ?_
          refine va_get (D := (dC, dI)) (ci := 10) (v := .int vt_side) (C := R_Md) (T := F_Md) (N := 34) hx hb ht i_Md hown hK hP 0 rfl rfl 8 (by decide) (ht _ tb_1070) (fun _ h9 => h9) rfl d_Md_layForm_53 ?_
          obtain ⟨r16, hc17, Hf⟩ := sq_cb1_e Hf
          refine sq_roi (va_runS (As := [.int x3, .int (1 : Int32), .int vt_side]) (rest := [.ref qt]) ⟨hx, hb, hml, hown, ht⟩ (kt_Md_formX l dC dI x3 (1 : Int32) vt_side r16 hc17) (va_cwS 3 ht (sq_gS tb_1320 tb_1321 tb_11 tb_1322) rfl rfl rfl (by decide +kernel) ⟨Nat.le_of_ble_eq_true rfl, Nat.le_of_ble_eq_true rfl⟩) (sq_roS (hP.sub (ws' := ([] : va_W)) [] rfl) (hK.sub (tys' := []) [] rfl)) rfl rfl hl.1 rfl (lv_room (Nat.le_of_ble_eq_true rfl)) d_Md_layForm_56 ⟨Nat.le_of_ble_eq_true rfl, Nat.le_of_ble_eq_true rfl⟩) ?_
          refine lv_iload_n hx hb d_Md_layForm_59 rfl (lv_at hl 2 rfl) ?_
          refine lv_iconst (v := (1 : Int32)) hx hb d_Md_layForm_60 (by decide) ?_
          refine lv_aload_n hx hb d_Md_layForm_61 rfl (lv_at hl 0 rfl) ?_
          refine va_get (D := (dC, dI)) (ci := 10) (v := .int vt_side) (C := R_Md) (T := F_Md) (N := 34) hx hb ht i_Md hown hK hP 0 rfl rfl 8 (by decide) (ht _ tb_1070) (fun _ h9 => h9) rfl d_Md_layForm_62 ?_
          obtain ⟨r18, hc19, Hf⟩ := sq_cb1_e Hf
          refine sq_roi (va_runS (As := [.int x3, .int (1 : Int32), .int vt_side]) (rest := [.int r16, .ref qt]) ⟨hx, hb, hml, hown, ht⟩ (kt_Md_formY l dC dI x3 (1 : Int32) vt_side r18 hc19) (va_cwS 3 ht (sq_gS tb_1323 tb_1324 tb_11 tb_1325) rfl rfl rfl (by decide +kernel) ⟨Nat.le_of_ble_eq_true rfl, Nat.le_of_ble_eq_true rfl⟩) (sq_roS (hP.sub (ws' := ([] : va_W)) [] rfl) (hK.sub (tys' := []) [] rfl)) rfl rfl hl.1 rfl (lv_room (Nat.le_of_ble_eq_true rfl)) d_Md_layForm_65 ⟨Nat.le_of_ble_eq_true rfl, Nat.le_of_ble_eq_true rfl⟩) ?_
          refine lv_iload_n hx hb d_Md_layForm_68 rfl (lv_at hl 1 rfl) ?_
          refine lv_iload_n hx hb d_Md_layForm_69 rfl (lv_at hl 2 rfl) ?_
          refine lv_ishr hx hb d_Md_layForm_70 ?_
          refine lv_iconst (v := (1 : Int32)) hx hb d_Md_layForm_71 (by decide) ?_
          refine lv_iand hx hb d_Md_layForm_72 ?_
          refine lv_iconst (v := (1 : Int32)) hx hb d_Md_layForm_73 (by decide) ?_
          obtain ⟨k21, hk21, Hf⟩ := sq_jn_e Hf
          have Jk21 : ∀ (x20 : Int32), k21 x20 = some (nvt_fixed, nvt_modules) → ∀ (H : Heap) (locs : List Loc), va_P (dC, dI) cl_All (ww_Md_layForm qt qt_fixed qt_modules qt_checkBytes qt_blocks qt_data qt_tells qt_segmentModes qt_segmentLengths qt_modes qt_takes qt_bytes qt_words qt_block qt_tried qt_values qt_system qt_solved qt_places qt_generator qt_readBytes qt_readings ct_fixed ct_modules vt_thrown vt_length vt_version vt_side vt_made vt_segments vt_bits vt_filled vt_readLength vt_at vt_all vt_fault vt_good b13 b14) H → va_D A (ww_Md_layForm qt qt_fixed qt_modules qt_checkBytes qt_blocks qt_data qt_tells qt_segmentModes qt_segmentLengths qt_modes qt_takes qt_bytes qt_words qt_block qt_tried qt_values qt_system qt_solved qt_places qt_generator qt_readBytes qt_readings ct_fixed ct_modules vt_thrown vt_length vt_version vt_side vt_made vt_segments vt_bits vt_filled vt_readLength vt_at vt_all vt_fault vt_good b13 b14) → va_S A s.heap H locs → ∀ ls : Array Slot, lv_has ls 4 [(0, .ref qt), (2, .int r1), (3, .int x3)] → W p l e (headSpec w_Md_layForm rm_Md_layForm).room s m (([.ref qt, .int p1] : List Value).toArray) below meth c H locs 0 0 (MQ below (qc_Md_layForm dC dI A qt qt_fixed qt_modules qt_checkBytes qt_blocks qt_data qt_tells qt_segmentModes qt_segmentLengths qt_modes qt_takes qt_bytes qt_words qt_block qt_tried qt_values qt_system qt_solved qt_places qt_generator qt_readBytes qt_readings ct_fixed ct_modules vt_thrown vt_length vt_version vt_side vt_made vt_segments vt_bits vt_filled vt_readLength vt_at vt_all vt_fault vt_good nvt_fixed nvt_modules) (([.ref qt, .int p1] : List Value).toArray) s 0 0 A) (F0 m 82 ls [.int x20, .int r18, .int r16, .ref qt]) := by
            intro x20 Hf H locs  hP hD hS ls hl
            rw [hk21] at Hf
            obtain ⟨b22, b23, hc24, Hf⟩ := sq_cb2_e Hf
            refine sq_rwv (wn := (ww_Md_layForm qt qt_fixed qt_modules qt_checkBytes qt_blocks qt_data qt_tells qt_segmentModes qt_segmentLengths qt_modes qt_takes qt_bytes qt_words qt_block qt_tried qt_values qt_system qt_solved qt_places qt_generator qt_readBytes qt_readings ct_fixed ct_modules vt_thrown vt_length vt_version vt_side vt_made vt_segments vt_bits vt_filled vt_readLength vt_at vt_all vt_fault vt_good b22 b23)) (va_runV (As := [.int r16, .int r18, .int x20]) (rest := []) ⟨hx, hb, hml, hown, ht⟩ (kt_Md_fix l dC dI qt qt_fixed qt_modules qt_checkBytes qt_blocks qt_data qt_tells qt_segmentModes qt_segmentLengths qt_modes qt_takes qt_bytes qt_words qt_block qt_tried qt_values qt_system qt_solved qt_places qt_generator qt_readBytes qt_readings ct_fixed ct_modules vt_thrown vt_length vt_version vt_side vt_made vt_segments vt_bits vt_filled vt_readLength vt_at vt_all vt_fault vt_good b13 b14 r16 r18 x20 H.size b22 b23 hc24) (cwV 3 ht (sq_gV tb_1292 tb_1294 sl_48 tb_11 tb_1295) rfl rfl rfl (by decide +kernel) ⟨Nat.le_of_ble_eq_true rfl, Nat.le_of_ble_eq_true rfl⟩) (sq_rwV (hP.sub (ws' := (ww_Md_fix qt qt_fixed qt_modules qt_checkBytes qt_blocks qt_data qt_tells qt_segmentModes qt_segmentLengths qt_modes qt_takes qt_bytes qt_words qt_block qt_tried qt_values qt_system qt_solved qt_places qt_generator qt_readBytes qt_readings ct_fixed ct_modules vt_thrown vt_length vt_version vt_side vt_made vt_segments vt_bits vt_filled vt_readLength vt_at vt_all vt_fault vt_good b13 b14)) [0, 1, 2] rfl) (hK.sub (tys' := [(ct_fixed, .int), (ct_modules, .int)]) [0, 1] rfl) (hD.sub (ws' := (ww_Md_fix qt qt_fixed qt_modules qt_checkBytes qt_blocks qt_data qt_tells qt_segmentModes qt_segmentLengths qt_modes qt_takes qt_bytes qt_words qt_block qt_tried qt_values qt_system qt_solved qt_places qt_generator qt_readBytes qt_readings ct_fixed ct_modules vt_thrown vt_length vt_version vt_side vt_made vt_segments vt_bits vt_filled vt_readLength vt_at vt_all vt_fault vt_good b13 b14)) [0, 1, 2] (by decide) rfl) (va_recv hK hP (ci := 10) (q0 := 0) rfl rfl)) rfl rfl hl.1 rfl (lv_room (Nat.le_of_ble_eq_true rfl)) d_Md_layForm_82 ⟨Nat.le_of_ble_eq_true rfl, Nat.le_of_ble_eq_true rfl⟩) hP hD hS hA [0, 1, 2] [] [0, 1, 2] rfl rfl (by decide) (by decide) rfl (by decide) (fun H locs hP hD hS => ?_)
            obtain ⟨x25, ex25, Hf⟩ := sq_bd_e Hf
            refine lv_iinc (v := x25) (lv' := [(3, .int x25), (0, .ref qt), (2, .int r1)]) hx hb d_Md_layForm_85 hl (k := 2) rfl (by rw [ex25]; rfl) (by decide) rfl (fun ls hl => ?_)
            refine lv_goto (tgt := 7) hx hb d_Md_layForm_88 (by decide) ?_
            exact ih1 x25 b22 b23 Hf _ _  hP hD hS _ (lv_sub hl [1, 2, 0] rfl)
          refine lv_icmp_ne (tgt := 81) hx hb d_Md_layForm_74 (by decide) (fun c26 => ?_) (fun c26 => ?_)
          · replace Hf := sq_ite_f Hf c26
            refine lv_iconst (v := (0 : Int32)) hx hb d_Md_layForm_81 (by decide) ?_
            exact Jk21 (0 : Int32) Hf _ _  hP hD hS _ (lv_sub hl [0, 1, 2] rfl)
          · replace Hf := sq_ite_t Hf c26
            refine lv_iconst (v := (1 : Int32)) hx hb d_Md_layForm_77 (by decide) ?_
            refine lv_goto (tgt := 82) hx hb d_Md_layForm_78 (by decide) ?_
            exact Jk21 (1 : Int32) Hf _ _  hP hD hS _ (lv_sub hl [0, 1, 2] rfl)
        refine lv_icmp_ne (tgt := 45) hx hb d_Md_layForm_38 (by decide) (fun c27 => ?_) (fun c27 => ?_)
        · replace Hf := sq_ite_f Hf c27
          refine lv_iconst (v := (0 : Int32)) hx hb d_Md_layForm_45 (by decide) ?_
          exact Jk12 (0 : Int32) Hf _ _  hP hD hS _ (lv_sub hl [0, 1, 2] rfl)
        · replace Hf := sq_ite_t Hf c27
          refine lv_iconst (v := (1 : Int32)) hx hb d_Md_layForm_41 (by decide) ?_
          refine lv_goto (tgt := 46) hx hb d_Md_layForm_42 (by decide) ?_
          exact Jk12 (1 : Int32) Hf _ _  hP hD hS _ (lv_sub hl [0, 1, 2] rfl)
  exact L1 n0 (0 : Int32) vt_fixed vt_modules Hf _ _  hP hD hS _ (lv_sub hl [2, 1, 0] rfl)

def fn_Md_alignmentAt (p1 : Int32) (p2 : Int32) : Option (Int32) :=
  sq_bd ((p1 / (7 : Int32)) + (2 : Int32)) fun x1 => sq_jn (fun (x2 : Int32) => if p2 = 0 then (some ((6 : Int32))) else (sq_cb1 (fn_Md_sideOf p1) fun r5 => some ((r5 - (7 : Int32)) - (x2 * ((x1 - (1 : Int32)) - p2))))) fun k3 => if p1 = (32 : Int32) then (k3 (26 : Int32)) else (sq_bd (((2 : Int32) * x1) - (2 : Int32)) fun x8 => sq_gz x8 <| k3 ((2 : Int32) * (((((4 : Int32) * p1) + ((2 : Int32) * x1)) + (1 : Int32)) / x8)))
def rm_Md_alignmentAt : Room := { frames := 1, cells := 0, slots := 0, locals := 20 }
abbrev qc_Md_alignmentAt (r0 : Int32) : Array Value → State → Outcome → State → Prop := vp_Si (fun r => r = r0)

set_option maxHeartbeats 4000000 in
set_option maxRecDepth 100000 in
theorem kt_Md_alignmentAt (l : Launch) (dC : Nat → ClassId) (dI : Nat → Nat → Nat) (p1 : Int32) (p2 : Int32) (r0 : Int32) (Hf : fn_Md_alignmentAt p1 p2 = some r0) : Met l y_Md_alignmentAt w_Md_alignmentAt rm_Md_alignmentAt (va_Pc [.int p1, .int p2] (fun U => va_P (dC, dI) cl_All ([] : va_W) U.heap ∧ va_K (dC, dI) cl_All [] U)) (qc_Md_alignmentAt r0) 0 0 (fun _ => False) := by
  refine Met.ofW (cc := prog_14_method_36_code) (maxL := 4) (ret := (some .int)) (by decide) rfl ?_
  intro p e s m args below meth c s₁ B hml hv
  obtain ⟨rfl, hP, hK⟩ := hv
  have hx := B.exec; have hb := B.bytes; have hr := B.returns; have hlocks := B.notSynchronized
  have ht : ∀ w ∈ lw_g, w.before _ s = true := fun w h => atoms_spec (ws := w_Md_alignmentAt) B.pre w (List.mem_cons_of_mem _ h)
  have hown : s.vm.findClass "SquareSymbolsModel" = some m.cls := findClass_of_methodNamed B.named
  have hl := lv_entry ([.int p1, .int p2]) (n := 4) (Nat.le_of_ble_eq_true rfl)
  rw [lg_entry_eq]
  generalize (lg_sl ([.int p1, .int p2]) ++ List.replicate (4 - (lg_sl ([.int p1, .int p2])).length) Slot.unset).toArray = ls at hl ⊢
  have hl : lv_has ls 4 [(0, .int p1), (1, .int p2)] := hl
  refine lv_iload_n hx hb d_Md_alignmentAt_0 rfl (lv_at hl 0 rfl) ?_
  refine lv_bipush (v := (7 : Int32)) hx hb d_Md_alignmentAt_1 (by decide) ?_
  refine lv_idiv hx hb d_Md_alignmentAt_3 (by decide) ?_
  refine lv_iconst (v := (2 : Int32)) hx hb d_Md_alignmentAt_4 (by decide) ?_
  refine lv_iadd hx hb d_Md_alignmentAt_5 ?_
  obtain ⟨x1, ex1, Hf⟩ := sq_bd_e Hf
  refine sq_top ex1 ?_
  refine lv_istore_n (lv' := [(2, .int x1), (0, .int p1), (1, .int p2)]) hx hb d_Md_alignmentAt_6 rfl hl (by decide) rfl (fun ls hl => ?_)
  refine lv_iload_n hx hb d_Md_alignmentAt_7 rfl (lv_at hl 1 rfl) ?_
  refine lv_bipush (v := (32 : Int32)) hx hb d_Md_alignmentAt_8 (by decide) ?_
  obtain ⟨k3, hk3, Hf⟩ := sq_jn_e Hf
  have Jk3 : ∀ (x2 : Int32), k3 x2 = some r0 → ∀ ls : Array Slot, lv_has ls 4 [(0, .int p1), (1, .int p2), (2, .int x1)] → W p l e (headSpec w_Md_alignmentAt rm_Md_alignmentAt).room s m (([.int p1, .int p2] : List Value).toArray) below meth c s.heap [] 0 0 (MQ below (qc_Md_alignmentAt r0) (([.int p1, .int p2] : List Value).toArray) s 0 0 (fun _ => False)) (F0 m 35 ls [.int x2]) := by
    intro x2 Hf ls hl
    rw [hk3] at Hf
    refine lv_istore_n (lv' := [(3, .int x2), (0, .int p1), (1, .int p2), (2, .int x1)]) hx hb d_Md_alignmentAt_35 rfl hl (by decide) rfl (fun ls hl => ?_)
    refine lv_iload_n hx hb d_Md_alignmentAt_36 rfl (lv_at hl 2 rfl) ?_
    refine lv_if_ne (tgt := 45) hx hb d_Md_alignmentAt_37 (by decide) (fun c4 => ?_) (fun c4 => ?_)
    · replace Hf := sq_ite_f Hf c4
      refine lv_iload_n hx hb d_Md_alignmentAt_45 rfl (lv_at hl 1 rfl) ?_
      obtain ⟨r5, hc6, Hf⟩ := sq_cb1_e Hf
      refine sq_roi (va_runS (As := [.int p1]) (rest := []) ⟨hx, hb, hml, hown, ht⟩ (kt_Md_sideOf l dC dI p1 r5 hc6) (va_cwS 1 ht (sq_gS tb_1289 tb_1290 tb_11 tb_1291) rfl rfl rfl (by decide +kernel) ⟨Nat.le_of_ble_eq_true rfl, Nat.le_of_ble_eq_true rfl⟩) (sq_roS (hP.sub (ws' := ([] : va_W)) [] rfl) (hK.sub (tys' := []) [] rfl)) rfl rfl hl.1 rfl (lv_room (Nat.le_of_ble_eq_true rfl)) d_Md_alignmentAt_46 ⟨Nat.le_of_ble_eq_true rfl, Nat.le_of_ble_eq_true rfl⟩) ?_
      refine lv_bipush (v := (7 : Int32)) hx hb d_Md_alignmentAt_49 (by decide) ?_
      refine lv_isub hx hb d_Md_alignmentAt_51 ?_
      refine lv_iload_n hx hb d_Md_alignmentAt_52 rfl (lv_at hl 0 rfl) ?_
      refine lv_iload_n hx hb d_Md_alignmentAt_53 rfl (lv_at hl 3 rfl) ?_
      refine lv_iconst (v := (1 : Int32)) hx hb d_Md_alignmentAt_54 (by decide) ?_
      refine lv_isub hx hb d_Md_alignmentAt_55 ?_
      refine lv_iload_n hx hb d_Md_alignmentAt_56 rfl (lv_at hl 2 rfl) ?_
      refine lv_isub hx hb d_Md_alignmentAt_57 ?_
      refine lv_imul hx hb d_Md_alignmentAt_58 ?_
      refine lv_isub hx hb d_Md_alignmentAt_59 ?_
      have er := Option.some.inj Hf
      exact W.iret hx hb hr (fun t ht hW => ⟨_, rfl, er, ht⟩) (fun q h => by cases h) d_Md_alignmentAt_60
    · replace Hf := sq_ite_t Hf c4
      refine lv_bipush (v := (6 : Int32)) hx hb d_Md_alignmentAt_40 (by decide) ?_
      refine lv_goto (tgt := 60) hx hb d_Md_alignmentAt_42 (by decide) ?_
      have er := Option.some.inj Hf
      exact W.iret hx hb hr (fun t ht hW => ⟨_, rfl, er, ht⟩) (fun q h => by cases h) d_Md_alignmentAt_60
  refine lv_icmp_ne (tgt := 18) hx hb d_Md_alignmentAt_10 (by decide) (fun c7 => ?_) (fun c7 => ?_)
  · replace Hf := sq_ite_f Hf c7
    refine lv_iconst (v := (2 : Int32)) hx hb d_Md_alignmentAt_18 (by decide) ?_
    refine lv_iconst (v := (4 : Int32)) hx hb d_Md_alignmentAt_19 (by decide) ?_
    refine lv_iload_n hx hb d_Md_alignmentAt_20 rfl (lv_at hl 1 rfl) ?_
    refine lv_imul hx hb d_Md_alignmentAt_21 ?_
    refine lv_iconst (v := (2 : Int32)) hx hb d_Md_alignmentAt_22 (by decide) ?_
    refine lv_iload_n hx hb d_Md_alignmentAt_23 rfl (lv_at hl 0 rfl) ?_
    refine lv_imul hx hb d_Md_alignmentAt_24 ?_
    refine lv_iadd hx hb d_Md_alignmentAt_25 ?_
    refine lv_iconst (v := (1 : Int32)) hx hb d_Md_alignmentAt_26 (by decide) ?_
    refine lv_iadd hx hb d_Md_alignmentAt_27 ?_
    refine lv_iconst (v := (2 : Int32)) hx hb d_Md_alignmentAt_28 (by decide) ?_
    refine lv_iload_n hx hb d_Md_alignmentAt_29 rfl (lv_at hl 0 rfl) ?_
    refine lv_imul hx hb d_Md_alignmentAt_30 ?_
    refine lv_iconst (v := (2 : Int32)) hx hb d_Md_alignmentAt_31 (by decide) ?_
    refine lv_isub hx hb d_Md_alignmentAt_32 ?_
    obtain ⟨x8, ex8, Hf⟩ := sq_bd_e Hf
    refine sq_top ex8 ?_
    obtain ⟨hz9, Hf⟩ := sq_gz_e Hf
    refine lv_idiv hx hb d_Md_alignmentAt_33 hz9 ?_
    refine lv_imul hx hb d_Md_alignmentAt_34 ?_
    exact Jk3 ((2 : Int32) * (((((4 : Int32) * p1) + ((2 : Int32) * x1)) + (1 : Int32)) / x8)) Hf _ (lv_sub hl [1, 2, 0] rfl)
  · replace Hf := sq_ite_t Hf c7
    refine lv_bipush (v := (26 : Int32)) hx hb d_Md_alignmentAt_13 (by decide) ?_
    refine lv_goto (tgt := 35) hx hb d_Md_alignmentAt_15 (by decide) ?_
    exact Jk3 (26 : Int32) Hf _ (lv_sub hl [1, 2, 0] rfl)

def fn_Md_frame_L1 (p1 : Int32) (r1 : Int32) (r28 : Int32) : Nat → Int32 → (Nat → Int32) → (Nat → Int32) → Option (Int32 × (Nat → Int32) × (Nat → Int32))
  | 0, _, _, _ => none
  | m1 + 1, x30, b31, b32 => if (18 : Int32) ≤ x30 then (some (r1, b31, b32)) else (if p1 ≤ (6 : Int32) then (some (r1, b31, b32)) else (sq_bd (sq_rem x30 (3 : Int32)) fun x35 => sq_jn (fun (x36 : Int32) => sq_cb2 (fn_Md_fix ((r1 - (11 : Int32)) + x35) (x30 / (3 : Int32)) x36 r1 b31 b32) fun b38 b39 => sq_bd (sq_rem x30 (3 : Int32)) fun x41 => sq_jn (fun (x42 : Int32) => sq_cb2 (fn_Md_fix (x30 / (3 : Int32)) ((r1 - (11 : Int32)) + x41) x42 r1 b38 b39) fun b44 b45 => sq_bd (x30 + (1 : Int32)) fun x47 => fn_Md_frame_L1 p1 r1 r28 m1 x47 b44 b45) fun k43 => if ((r28 >>> (x30 &&& 31)) &&& (1 : Int32)) = (1 : Int32) then (k43 (1 : Int32)) else (k43 (0 : Int32))) fun k37 => if ((r28 >>> (x30 &&& 31)) &&& (1 : Int32)) = (1 : Int32) then (k37 (1 : Int32)) else (k37 (0 : Int32))))
theorem fn_Md_frame_L1_s (p1 : Int32) (r1 : Int32) (r28 : Int32) (m1 : Nat) (x30 : Int32) (b31 : Nat → Int32) (b32 : Nat → Int32) : fn_Md_frame_L1 p1 r1 r28 (m1 + 1) x30 b31 b32 = if (18 : Int32) ≤ x30 then (some (r1, b31, b32)) else (if p1 ≤ (6 : Int32) then (some (r1, b31, b32)) else (sq_bd (sq_rem x30 (3 : Int32)) fun x35 => sq_jn (fun (x36 : Int32) => sq_cb2 (fn_Md_fix ((r1 - (11 : Int32)) + x35) (x30 / (3 : Int32)) x36 r1 b31 b32) fun b38 b39 => sq_bd (sq_rem x30 (3 : Int32)) fun x41 => sq_jn (fun (x42 : Int32) => sq_cb2 (fn_Md_fix (x30 / (3 : Int32)) ((r1 - (11 : Int32)) + x41) x42 r1 b38 b39) fun b44 b45 => sq_bd (x30 + (1 : Int32)) fun x47 => fn_Md_frame_L1 p1 r1 r28 m1 x47 b44 b45) fun k43 => if ((r28 >>> (x30 &&& 31)) &&& (1 : Int32)) = (1 : Int32) then (k43 (1 : Int32)) else (k43 (0 : Int32))) fun k37 => if ((r28 >>> (x30 &&& 31)) &&& (1 : Int32)) = (1 : Int32) then (k37 (1 : Int32)) else (k37 (0 : Int32)))) := rfl
def fn_Md_frame_L3 (p1 : Int32) (n0 : Nat) (r1 : Int32) (x18 : Int32) (x50 : Int32) (k57 : (Nat → Int32) → (Nat → Int32) → Option (Int32 × (Nat → Int32) × (Nat → Int32))) : Nat → Int32 → (Nat → Int32) → (Nat → Int32) → Option (Int32 × (Nat → Int32) × (Nat → Int32))
  | 0, _, _, _ => none
  | m3 + 1, x59, b60, b61 => if x18 ≤ x59 then (k57 b60 b61) else (sq_jn (fun (x63 : Int32) => sq_jn (fun (b65 : Nat → Int32) (b66 : Nat → Int32) => sq_bd (x59 + (1 : Int32)) fun x68 => fn_Md_frame_L3 p1 n0 r1 x18 x50 k57 m3 x68 b65 b66) fun k67 => if x63 = 0 then (sq_cb1 (fn_Md_alignmentAt p1 x50) fun r70 => sq_cb1 (fn_Md_alignmentAt p1 x59) fun r72 => sq_cb2 (fn_Md_square n0 r70 r72 (2 : Int32) (0 : Int32) r1 b60 b61) fun b74 b75 => k67 b74 b75) else (k67 b60 b61)) fun k64 => sq_jn (fun (_ : Unit) => k64 (1 : Int32)) fun k77 => sq_jn (fun (_ : Unit) => sq_jn (fun (_ : Unit) => k64 (0 : Int32)) fun k79 => if x50 = (x18 - (1 : Int32)) then (if x59 = 0 then (k77 ()) else (k79 ())) else (k79 ())) fun k78 => if x50 = 0 then (if x59 = 0 then (k77 ()) else (if x59 = (x18 - (1 : Int32)) then (k77 ()) else (k78 ()))) else (k78 ()))
theorem fn_Md_frame_L3_s (p1 : Int32) (n0 : Nat) (r1 : Int32) (x18 : Int32) (x50 : Int32) (k57 : (Nat → Int32) → (Nat → Int32) → Option (Int32 × (Nat → Int32) × (Nat → Int32))) (m3 : Nat) (x59 : Int32) (b60 : Nat → Int32) (b61 : Nat → Int32) : fn_Md_frame_L3 p1 n0 r1 x18 x50 k57 (m3 + 1) x59 b60 b61 = if x18 ≤ x59 then (k57 b60 b61) else (sq_jn (fun (x63 : Int32) => sq_jn (fun (b65 : Nat → Int32) (b66 : Nat → Int32) => sq_bd (x59 + (1 : Int32)) fun x68 => fn_Md_frame_L3 p1 n0 r1 x18 x50 k57 m3 x68 b65 b66) fun k67 => if x63 = 0 then (sq_cb1 (fn_Md_alignmentAt p1 x50) fun r70 => sq_cb1 (fn_Md_alignmentAt p1 x59) fun r72 => sq_cb2 (fn_Md_square n0 r70 r72 (2 : Int32) (0 : Int32) r1 b60 b61) fun b74 b75 => k67 b74 b75) else (k67 b60 b61)) fun k64 => sq_jn (fun (_ : Unit) => k64 (1 : Int32)) fun k77 => sq_jn (fun (_ : Unit) => sq_jn (fun (_ : Unit) => k64 (0 : Int32)) fun k79 => if x50 = (x18 - (1 : Int32)) then (if x59 = 0 then (k77 ()) else (k79 ())) else (k79 ())) fun k78 => if x50 = 0 then (if x59 = 0 then (k77 ()) else (if x59 = (x18 - (1 : Int32)) then (k77 ()) else (k78 ()))) else (k78 ())) := rfl
def fn_Md_frame_L2 (p1 : Int32) (n0 : Nat) (r1 : Int32) (x18 : Int32) (k21 : (Nat → Int32) → (Nat → Int32) → Option (Int32 × (Nat → Int32) × (Nat → Int32))) : Nat → Int32 → (Nat → Int32) → (Nat → Int32) → Option (Int32 × (Nat → Int32) × (Nat → Int32))
  | 0, _, _, _ => none
  | m2 + 1, x50, b51, b52 => if x18 ≤ x50 then (k21 b51 b52) else (if p1 ≤ (1 : Int32) then (k21 b51 b52) else (sq_jn (fun (b55 : Nat → Int32) (b56 : Nat → Int32) => sq_bd (x50 + (1 : Int32)) fun x58 => fn_Md_frame_L2 p1 n0 r1 x18 k21 m2 x58 b55 b56) fun k57 => fn_Md_frame_L3 p1 n0 r1 x18 x50 k57 n0 (0 : Int32) b51 b52))
theorem fn_Md_frame_L2_s (p1 : Int32) (n0 : Nat) (r1 : Int32) (x18 : Int32) (k21 : (Nat → Int32) → (Nat → Int32) → Option (Int32 × (Nat → Int32) × (Nat → Int32))) (m2 : Nat) (x50 : Int32) (b51 : Nat → Int32) (b52 : Nat → Int32) : fn_Md_frame_L2 p1 n0 r1 x18 k21 (m2 + 1) x50 b51 b52 = if x18 ≤ x50 then (k21 b51 b52) else (if p1 ≤ (1 : Int32) then (k21 b51 b52) else (sq_jn (fun (b55 : Nat → Int32) (b56 : Nat → Int32) => sq_bd (x50 + (1 : Int32)) fun x58 => fn_Md_frame_L2 p1 n0 r1 x18 k21 m2 x58 b55 b56) fun k57 => fn_Md_frame_L3 p1 n0 r1 x18 x50 k57 n0 (0 : Int32) b51 b52)) := rfl
def fn_Md_frame_L4 (r1 : Int32) (k8 : (Nat → Int32) → (Nat → Int32) → Option (Int32 × (Nat → Int32) × (Nat → Int32))) : Nat → Int32 → (Nat → Int32) → (Nat → Int32) → Option (Int32 × (Nat → Int32) × (Nat → Int32))
  | 0, _, _, _ => none
  | m4 + 1, x85, b86, b87 => if r1 ≤ x85 then (k8 b86 b87) else (sq_bd (sq_rem x85 (2 : Int32)) fun x89 => sq_jn (fun (x90 : Int32) => sq_cb2 (fn_Md_fix x85 (6 : Int32) x90 r1 b86 b87) fun b92 b93 => sq_bd (sq_rem x85 (2 : Int32)) fun x95 => sq_jn (fun (x96 : Int32) => sq_cb2 (fn_Md_fix (6 : Int32) x85 x96 r1 b92 b93) fun b98 b99 => sq_bd (x85 + (1 : Int32)) fun x101 => fn_Md_frame_L4 r1 k8 m4 x101 b98 b99) fun k97 => if x95 = 0 then (k97 (1 : Int32)) else (k97 (0 : Int32))) fun k91 => if x89 = 0 then (k91 (1 : Int32)) else (k91 (0 : Int32)))
theorem fn_Md_frame_L4_s (r1 : Int32) (k8 : (Nat → Int32) → (Nat → Int32) → Option (Int32 × (Nat → Int32) × (Nat → Int32))) (m4 : Nat) (x85 : Int32) (b86 : Nat → Int32) (b87 : Nat → Int32) : fn_Md_frame_L4 r1 k8 (m4 + 1) x85 b86 b87 = if r1 ≤ x85 then (k8 b86 b87) else (sq_bd (sq_rem x85 (2 : Int32)) fun x89 => sq_jn (fun (x90 : Int32) => sq_cb2 (fn_Md_fix x85 (6 : Int32) x90 r1 b86 b87) fun b92 b93 => sq_bd (sq_rem x85 (2 : Int32)) fun x95 => sq_jn (fun (x96 : Int32) => sq_cb2 (fn_Md_fix (6 : Int32) x85 x96 r1 b92 b93) fun b98 b99 => sq_bd (x85 + (1 : Int32)) fun x101 => fn_Md_frame_L4 r1 k8 m4 x101 b98 b99) fun k97 => if x95 = 0 then (k97 (1 : Int32)) else (k97 (0 : Int32))) fun k91 => if x89 = 0 then (k91 (1 : Int32)) else (k91 (0 : Int32))) := rfl
def fn_Md_frame_L5 (k5 : (Nat → Int32) → (Nat → Int32) → Option (Int32 × (Nat → Int32) × (Nat → Int32))) : Nat → Int32 → (Nat → Int32) → (Nat → Int32) → Option (Int32 × (Nat → Int32) × (Nat → Int32))
  | 0, _, _, _ => none
  | m5 + 1, x104, b105, b106 => if (31329 : Int32) ≤ x104 then (k5 b105 b106) else (sq_gi x104 31329 <| sq_bd (upd b106 x104.toNatClampNeg (0 : Int32)) fun b109 => sq_gi x104 31329 <| sq_bd (upd b105 x104.toNatClampNeg (0 : Int32)) fun b111 => sq_bd (x104 + (1 : Int32)) fun x112 => fn_Md_frame_L5 k5 m5 x112 b111 b109)
theorem fn_Md_frame_L5_s (k5 : (Nat → Int32) → (Nat → Int32) → Option (Int32 × (Nat → Int32) × (Nat → Int32))) (m5 : Nat) (x104 : Int32) (b105 : Nat → Int32) (b106 : Nat → Int32) : fn_Md_frame_L5 k5 (m5 + 1) x104 b105 b106 = if (31329 : Int32) ≤ x104 then (k5 b105 b106) else (sq_gi x104 31329 <| sq_bd (upd b106 x104.toNatClampNeg (0 : Int32)) fun b109 => sq_gi x104 31329 <| sq_bd (upd b105 x104.toNatClampNeg (0 : Int32)) fun b111 => sq_bd (x104 + (1 : Int32)) fun x112 => fn_Md_frame_L5 k5 m5 x112 b111 b109) := rfl
def fn_Md_frame (n0 : Nat) (p1 : Int32) (vt_side : Int32) (vt_fixed : Nat → Int32) (vt_modules : Nat → Int32) : Option (Int32 × (Nat → Int32) × (Nat → Int32)) :=
  sq_cb1 (fn_Md_sideOf p1) fun r1 => sq_jn (fun (b3 : Nat → Int32) (b4 : Nat → Int32) => sq_jn (fun (b6 : Nat → Int32) (b7 : Nat → Int32) => sq_cb2 (fn_Md_square n0 (3 : Int32) (3 : Int32) (4 : Int32) (1 : Int32) r1 b6 b7) fun b9 b10 => sq_cb2 (fn_Md_square n0 (r1 - (4 : Int32)) (3 : Int32) (4 : Int32) (1 : Int32) r1 b9 b10) fun b12 b13 => sq_cb2 (fn_Md_square n0 (3 : Int32) (r1 - (4 : Int32)) (4 : Int32) (1 : Int32) r1 b12 b13) fun b15 b16 => sq_bd ((p1 / (7 : Int32)) + (2 : Int32)) fun x18 => sq_jn (fun (b19 : Nat → Int32) (b20 : Nat → Int32) => sq_cb2 (fn_Md_layForm n0 (0 : Int32) r1 b19 b20) fun b22 b23 => sq_cb2 (fn_Md_fix (8 : Int32) (r1 - (8 : Int32)) (1 : Int32) r1 b22 b23) fun b25 b26 => sq_cb1 (fn_Md_shortWord n0 p1 (12 : Int32) (7973 : Int32)) fun r28 => fn_Md_frame_L1 p1 r1 r28 n0 (0 : Int32) b25 b26) fun k21 => fn_Md_frame_L2 p1 n0 r1 x18 k21 n0 (0 : Int32) b15 b16) fun k8 => fn_Md_frame_L4 r1 k8 n0 (0 : Int32) b3 b4) fun k5 => fn_Md_frame_L5 k5 n0 (0 : Int32) vt_fixed vt_modules
abbrev ww_Md_frame (qt qt_fixed qt_modules qt_checkBytes qt_blocks qt_data qt_tells qt_segmentModes qt_segmentLengths qt_modes qt_takes qt_bytes qt_words qt_block qt_tried qt_values qt_system qt_solved qt_places qt_generator qt_readBytes qt_readings : Nat) (ct_fixed ct_modules : ClassId) (vt_thrown : Int32) (vt_length : Int32) (vt_version : Int32) (vt_side : Int32) (vt_made : Int32) (vt_segments : Int32) (vt_bits : Int32) (vt_filled : Int32) (vt_readLength : Int32) (vt_at : Int32) (vt_all : Int32) (vt_fault : Int32) (vt_good : Int32) (vt_fixed : Nat → Int32) (vt_modules : Nat → Int32) : va_W := [(qt, .inr (10, [.int vt_thrown, .ref qt_checkBytes, .ref qt_blocks, .ref qt_data, .int vt_length, .ref qt_modules, .ref qt_fixed, .int vt_version, .int vt_side, .int vt_made, .ref qt_tells, .ref qt_segmentModes, .ref qt_segmentLengths, .int vt_segments, .ref qt_modes, .ref qt_takes, .int vt_bits, .ref qt_bytes, .ref qt_words, .int vt_filled, .ref qt_block, .ref qt_tried, .ref qt_values, .ref qt_system, .ref qt_solved, .ref qt_places, .ref qt_generator, .ref qt_readBytes, .int vt_readLength, .int vt_at, .int vt_all, .int vt_fault, .int vt_good, .ref qt_readings])), (qt_fixed, .inl (ct_fixed, 31329, .inl vt_fixed)), (qt_modules, .inl (ct_modules, 31329, .inl vt_modules))]

def rm_Md_frame : Room := { frames := 3, cells := 0, slots := 0, locals := 72 }
abbrev qc_Md_frame (dC : Nat → ClassId) (dI : Nat → Nat → Nat) (A : Nat → Prop) (qt qt_fixed qt_modules qt_checkBytes qt_blocks qt_data qt_tells qt_segmentModes qt_segmentLengths qt_modes qt_takes qt_bytes qt_words qt_block qt_tried qt_values qt_system qt_solved qt_places qt_generator qt_readBytes qt_readings : Nat) (ct_fixed ct_modules : ClassId) (vt_thrown : Int32) (vt_length : Int32) (vt_version : Int32) (vt_side : Int32) (vt_made : Int32) (vt_segments : Int32) (vt_bits : Int32) (vt_filled : Int32) (vt_readLength : Int32) (vt_at : Int32) (vt_all : Int32) (vt_fault : Int32) (vt_good : Int32) (vt_fixed : Nat → Int32) (vt_modules : Nat → Int32) : Array Value → State → Outcome → State → Prop := va_Qv (fun (_ : Unit) => True) (fun _ t => va_P (dC, dI) cl_All (ww_Md_frame qt qt_fixed qt_modules qt_checkBytes qt_blocks qt_data qt_tells qt_segmentModes qt_segmentLengths qt_modes qt_takes qt_bytes qt_words qt_block qt_tried qt_values qt_system qt_solved qt_places qt_generator qt_readBytes qt_readings ct_fixed ct_modules vt_thrown vt_length vt_version vt_side vt_made vt_segments vt_bits vt_filled vt_readLength vt_at vt_all vt_fault vt_good vt_fixed vt_modules) t.heap ∧ va_D A (ww_Md_frame qt qt_fixed qt_modules qt_checkBytes qt_blocks qt_data qt_tells qt_segmentModes qt_segmentLengths qt_modes qt_takes qt_bytes qt_words qt_block qt_tried qt_values qt_system qt_solved qt_places qt_generator qt_readBytes qt_readings ct_fixed ct_modules vt_thrown vt_length vt_version vt_side vt_made vt_segments vt_bits vt_filled vt_readLength vt_at vt_all vt_fault vt_good vt_fixed vt_modules)) A

set_option maxHeartbeats 4000000 in
set_option maxRecDepth 100000 in
theorem kt_Md_frame (l : Launch) (dC : Nat → ClassId) (dI : Nat → Nat → Nat) (qt qt_fixed qt_modules qt_checkBytes qt_blocks qt_data qt_tells qt_segmentModes qt_segmentLengths qt_modes qt_takes qt_bytes qt_words qt_block qt_tried qt_values qt_system qt_solved qt_places qt_generator qt_readBytes qt_readings : Nat) (ct_fixed ct_modules : ClassId) (vt_thrown : Int32) (vt_length : Int32) (vt_version : Int32) (vt_side : Int32) (vt_made : Int32) (vt_segments : Int32) (vt_bits : Int32) (vt_filled : Int32) (vt_readLength : Int32) (vt_at : Int32) (vt_all : Int32) (vt_fault : Int32) (vt_good : Int32) (vt_fixed : Nat → Int32) (vt_modules : Nat → Int32) (p1 : Int32) (sz : Nat) (n0 : Nat) (nvt_side : Int32) (nvt_fixed : Nat → Int32) (nvt_modules : Nat → Int32) (Hf : fn_Md_frame n0 p1 vt_side vt_fixed vt_modules = some (nvt_side, nvt_fixed, nvt_modules)) : Met l y_Md_frame w_Md_frame rm_Md_frame (va_Pc [.ref qt, .int p1] (fun U => U.heap.size = sz ∧ va_P (dC, dI) cl_All (ww_Md_frame qt qt_fixed qt_modules qt_checkBytes qt_blocks qt_data qt_tells qt_segmentModes qt_segmentLengths qt_modes qt_takes qt_bytes qt_words qt_block qt_tried qt_values qt_system qt_solved qt_places qt_generator qt_readBytes qt_readings ct_fixed ct_modules vt_thrown vt_length vt_version vt_side vt_made vt_segments vt_bits vt_filled vt_readLength vt_at vt_all vt_fault vt_good vt_fixed vt_modules) U.heap ∧ va_K (dC, dI) cl_All [(ct_fixed, .int), (ct_modules, .int)] U ∧ va_D (fun _ => True) (ww_Md_frame qt qt_fixed qt_modules qt_checkBytes qt_blocks qt_data qt_tells qt_segmentModes qt_segmentLengths qt_modes qt_takes qt_bytes qt_words qt_block qt_tried qt_values qt_system qt_solved qt_places qt_generator qt_readBytes qt_readings ct_fixed ct_modules vt_thrown vt_length vt_version vt_side vt_made vt_segments vt_bits vt_filled vt_readLength vt_at vt_all vt_fault vt_good vt_fixed vt_modules))) (qc_Md_frame dC dI (va_A (ww_Md_frame qt qt_fixed qt_modules qt_checkBytes qt_blocks qt_data qt_tells qt_segmentModes qt_segmentLengths qt_modes qt_takes qt_bytes qt_words qt_block qt_tried qt_values qt_system qt_solved qt_places qt_generator qt_readBytes qt_readings ct_fixed ct_modules vt_thrown vt_length vt_version vt_side vt_made vt_segments vt_bits vt_filled vt_readLength vt_at vt_all vt_fault vt_good vt_fixed vt_modules) sz) qt qt_fixed qt_modules qt_checkBytes qt_blocks qt_data qt_tells qt_segmentModes qt_segmentLengths qt_modes qt_takes qt_bytes qt_words qt_block qt_tried qt_values qt_system qt_solved qt_places qt_generator qt_readBytes qt_readings ct_fixed ct_modules vt_thrown vt_length vt_version nvt_side vt_made vt_segments vt_bits vt_filled vt_readLength vt_at vt_all vt_fault vt_good nvt_fixed nvt_modules) 0 0 (va_A (ww_Md_frame qt qt_fixed qt_modules qt_checkBytes qt_blocks qt_data qt_tells qt_segmentModes qt_segmentLengths qt_modes qt_takes qt_bytes qt_words qt_block qt_tried qt_values qt_system qt_solved qt_places qt_generator qt_readBytes qt_readings ct_fixed ct_modules vt_thrown vt_length vt_version vt_side vt_made vt_segments vt_bits vt_filled vt_readLength vt_at vt_all vt_fault vt_good vt_fixed vt_modules) sz) := by
  refine Met.ofW (cc := prog_14_method_43_code) (maxL := 6) (ret := none) (by decide) rfl ?_
  intro p e s m args below meth c s₁ B hml hv
  obtain ⟨rfl, hsz, hP, hK, hD0⟩ := hv
  have hx := B.exec; have hb := B.bytes; have hr := B.returns; have hlocks := B.notSynchronized
  have ht : ∀ w ∈ lw_g, w.before _ s = true := fun w h => atoms_spec (ws := w_Md_frame) B.pre w (List.mem_cons_of_mem _ h)
  have hown : s.vm.findClass "SquareSymbolsModel" = some m.cls := findClass_of_methodNamed B.named
  subst hsz
  have hD := hD0.self (sz := s.heap.size)
  generalize hAe : va_A (ww_Md_frame qt qt_fixed qt_modules qt_checkBytes qt_blocks qt_data qt_tells qt_segmentModes qt_segmentLengths qt_modes qt_takes qt_bytes qt_words qt_block qt_tried qt_values qt_system qt_solved qt_places qt_generator qt_readBytes qt_readings ct_fixed ct_modules vt_thrown vt_length vt_version vt_side vt_made vt_segments vt_bits vt_filled vt_readLength vt_at vt_all vt_fault vt_good vt_fixed vt_modules) s.heap.size = A at hD ⊢
  have hA : ∀ q : Nat, s.heap.size ≤ q → A q := fun q h => by rw [← hAe]; exact Or.inr h
  have hS : va_S A s.heap s.heap [] := va_S.rf
  have hl := lv_entry ([.ref qt, .int p1]) (n := 6) (Nat.le_of_ble_eq_true rfl)
  rw [lg_entry_eq]
  generalize (lg_sl ([.ref qt, .int p1]) ++ List.replicate (6 - (lg_sl ([.ref qt, .int p1])).length) Slot.unset).toArray = ls at hl ⊢
  have hl : lv_has ls 6 [(0, .ref qt), (1, .int p1)] := hl
  refine lv_aload_n hx hb d_Md_frame_0 rfl (lv_at hl 0 rfl) ?_
  refine lv_iload_n hx hb d_Md_frame_1 rfl (lv_at hl 1 rfl) ?_
  obtain ⟨r1, hc2, Hf⟩ := sq_cb1_e Hf
  refine sq_roi (va_runS (As := [.int p1]) (rest := [.ref qt]) ⟨hx, hb, hml, hown, ht⟩ (kt_Md_sideOf l dC dI p1 r1 hc2) (va_cwS 1 ht (sq_gS tb_1289 tb_1290 tb_11 tb_1291) rfl rfl rfl (by decide +kernel) ⟨Nat.le_of_ble_eq_true rfl, Nat.le_of_ble_eq_true rfl⟩) (sq_roS (hP.sub (ws' := ([] : va_W)) [] rfl) (hK.sub (tys' := []) [] rfl)) rfl rfl hl.1 rfl (lv_room (Nat.le_of_ble_eq_true rfl)) d_Md_frame_2 ⟨Nat.le_of_ble_eq_true rfl, Nat.le_of_ble_eq_true rfl⟩) ?_
  refine va_put (D := (dC, dI)) (ci := 10) (v := .int r1) (ty := .int) (C := R_Md) (T := F_Md) (N := 34) hx hb ht i_Md t_Md t_Md_ok n_Md hown hK hP hD hS 0 rfl rfl 8 (by decide) (ht _ tb_1070) (fun _ h9 => h9) rfl (by decide +kernel) rfl rfl (Nat.le_of_ble_eq_true rfl) d_Md_frame_5 (fun H locs hP hD hS => ?_)
  replace hP : va_P (dC, dI) cl_All (ww_Md_frame qt qt_fixed qt_modules qt_checkBytes qt_blocks qt_data qt_tells qt_segmentModes qt_segmentLengths qt_modes qt_takes qt_bytes qt_words qt_block qt_tried qt_values qt_system qt_solved qt_places qt_generator qt_readBytes qt_readings ct_fixed ct_modules vt_thrown vt_length vt_version r1 vt_made vt_segments vt_bits vt_filled vt_readLength vt_at vt_all vt_fault vt_good vt_fixed vt_modules) H := hP
  replace hD : va_D A (ww_Md_frame qt qt_fixed qt_modules qt_checkBytes qt_blocks qt_data qt_tells qt_segmentModes qt_segmentLengths qt_modes qt_takes qt_bytes qt_words qt_block qt_tried qt_values qt_system qt_solved qt_places qt_generator qt_readBytes qt_readings ct_fixed ct_modules vt_thrown vt_length vt_version r1 vt_made vt_segments vt_bits vt_filled vt_readLength vt_at vt_all vt_fault vt_good vt_fixed vt_modules) := hD
  refine lv_iconst (v := (0 : Int32)) hx hb d_Md_frame_8 (by decide) ?_
  refine lv_istore_n (lv' := [(2, .int (0 : Int32)), (0, .ref qt), (1, .int p1)]) hx hb d_Md_frame_9 rfl hl (by decide) rfl (fun ls hl => ?_)
  obtain ⟨k5, hk5, Hf⟩ := sq_jn_e Hf
  have Jk5 : ∀ (b3 : Nat → Int32) (b4 : Nat → Int32), k5 b3 b4 = some (nvt_side, nvt_fixed, nvt_modules) → ∀ (H : Heap) (locs : List Loc), va_P (dC, dI) cl_All (ww_Md_frame qt qt_fixed qt_modules qt_checkBytes qt_blocks qt_data qt_tells qt_segmentModes qt_segmentLengths qt_modes qt_takes qt_bytes qt_words qt_block qt_tried qt_values qt_system qt_solved qt_places qt_generator qt_readBytes qt_readings ct_fixed ct_modules vt_thrown vt_length vt_version r1 vt_made vt_segments vt_bits vt_filled vt_readLength vt_at vt_all vt_fault vt_good b3 b4) H → va_D A (ww_Md_frame qt qt_fixed qt_modules qt_checkBytes qt_blocks qt_data qt_tells qt_segmentModes qt_segmentLengths qt_modes qt_takes qt_bytes qt_words qt_block qt_tried qt_values qt_system qt_solved qt_places qt_generator qt_readBytes qt_readings ct_fixed ct_modules vt_thrown vt_length vt_version r1 vt_made vt_segments vt_bits vt_filled vt_readLength vt_at vt_all vt_fault vt_good b3 b4) → va_S A s.heap H locs → ∀ ls : Array Slot, lv_has ls 6 [(0, .ref qt), (1, .int p1)] → W p l e (headSpec w_Md_frame rm_Md_frame).room s m (([.ref qt, .int p1] : List Value).toArray) below meth c H locs 0 0 (MQ below (qc_Md_frame dC dI A qt qt_fixed qt_modules qt_checkBytes qt_blocks qt_data qt_tells qt_segmentModes qt_segmentLengths qt_modes qt_takes qt_bytes qt_words qt_block qt_tried qt_values qt_system qt_solved qt_places qt_generator qt_readBytes qt_readings ct_fixed ct_modules vt_thrown vt_length vt_version nvt_side vt_made vt_segments vt_bits vt_filled vt_readLength vt_at vt_all vt_fault vt_good nvt_fixed nvt_modules) (([.ref qt, .int p1] : List Value).toArray) s 0 0 A) (F0 m 39 ls []) := by
    intro b3 b4 Hf H locs  hP hD hS ls hl
    rw [hk5] at Hf
    refine lv_iconst (v := (0 : Int32)) hx hb d_Md_frame_39 (by decide) ?_
    refine lv_istore_n (lv' := [(2, .int (0 : Int32)), (0, .ref qt), (1, .int p1)]) hx hb d_Md_frame_40 rfl hl (by decide) rfl (fun ls hl => ?_)
    obtain ⟨k8, hk8, Hf⟩ := sq_jn_e Hf
    have Jk8 : ∀ (b6 : Nat → Int32) (b7 : Nat → Int32), k8 b6 b7 = some (nvt_side, nvt_fixed, nvt_modules) → ∀ (H : Heap) (locs : List Loc), va_P (dC, dI) cl_All (ww_Md_frame qt qt_fixed qt_modules qt_checkBytes qt_blocks qt_data qt_tells qt_segmentModes qt_segmentLengths qt_modes qt_takes qt_bytes qt_words qt_block qt_tried qt_values qt_system qt_solved qt_places qt_generator qt_readBytes qt_readings ct_fixed ct_modules vt_thrown vt_length vt_version r1 vt_made vt_segments vt_bits vt_filled vt_readLength vt_at vt_all vt_fault vt_good b6 b7) H → va_D A (ww_Md_frame qt qt_fixed qt_modules qt_checkBytes qt_blocks qt_data qt_tells qt_segmentModes qt_segmentLengths qt_modes qt_takes qt_bytes qt_words qt_block qt_tried qt_values qt_system qt_solved qt_places qt_generator qt_readBytes qt_readings ct_fixed ct_modules vt_thrown vt_length vt_version r1 vt_made vt_segments vt_bits vt_filled vt_readLength vt_at vt_all vt_fault vt_good b6 b7) → va_S A s.heap H locs → ∀ ls : Array Slot, lv_has ls 6 [(0, .ref qt), (1, .int p1)] → W p l e (headSpec w_Md_frame rm_Md_frame).room s m (([.ref qt, .int p1] : List Value).toArray) below meth c H locs 0 0 (MQ below (qc_Md_frame dC dI A qt qt_fixed qt_modules qt_checkBytes qt_blocks qt_data qt_tells qt_segmentModes qt_segmentLengths qt_modes qt_takes qt_bytes qt_words qt_block qt_tried qt_values qt_system qt_solved qt_places qt_generator qt_readBytes qt_readings ct_fixed ct_modules vt_thrown vt_length vt_version nvt_side vt_made vt_segments vt_bits vt_filled vt_readLength vt_at vt_all vt_fault vt_good nvt_fixed nvt_modules) (([.ref qt, .int p1] : List Value).toArray) s 0 0 A) (F0 m 91 ls []) := by
      intro b6 b7 Hf H locs  hP hD hS ls hl
      rw [hk8] at Hf
      refine lv_aload_n hx hb d_Md_frame_91 rfl (lv_at hl 0 rfl) ?_
      refine lv_iconst (v := (3 : Int32)) hx hb d_Md_frame_92 (by decide) ?_
      refine lv_iconst (v := (3 : Int32)) hx hb d_Md_frame_93 (by decide) ?_
      refine lv_iconst (v := (4 : Int32)) hx hb d_Md_frame_94 (by decide) ?_
      refine lv_iconst (v := (1 : Int32)) hx hb d_Md_frame_95 (by decide) ?_
      obtain ⟨b9, b10, hc11, Hf⟩ := sq_cb2_e Hf
      refine sq_rwv (wn := (ww_Md_frame qt qt_fixed qt_modules qt_checkBytes qt_blocks qt_data qt_tells qt_segmentModes qt_segmentLengths qt_modes qt_takes qt_bytes qt_words qt_block qt_tried qt_values qt_system qt_solved qt_places qt_generator qt_readBytes qt_readings ct_fixed ct_modules vt_thrown vt_length vt_version r1 vt_made vt_segments vt_bits vt_filled vt_readLength vt_at vt_all vt_fault vt_good b9 b10)) (va_runV (As := [.int (3 : Int32), .int (3 : Int32), .int (4 : Int32), .int (1 : Int32)]) (rest := []) ⟨hx, hb, hml, hown, ht⟩ (kt_Md_square l dC dI qt qt_fixed qt_modules qt_checkBytes qt_blocks qt_data qt_tells qt_segmentModes qt_segmentLengths qt_modes qt_takes qt_bytes qt_words qt_block qt_tried qt_values qt_system qt_solved qt_places qt_generator qt_readBytes qt_readings ct_fixed ct_modules vt_thrown vt_length vt_version r1 vt_made vt_segments vt_bits vt_filled vt_readLength vt_at vt_all vt_fault vt_good b6 b7 (3 : Int32) (3 : Int32) (4 : Int32) (1 : Int32) H.size n0 b9 b10 hc11) (cwV 4 ht (sq_gV tb_1300 tb_1302 sl_50 tb_11 tb_1303) rfl rfl rfl (by decide +kernel) ⟨Nat.le_of_ble_eq_true rfl, Nat.le_of_ble_eq_true rfl⟩) (sq_rwV (hP.sub (ws' := (ww_Md_square qt qt_fixed qt_modules qt_checkBytes qt_blocks qt_data qt_tells qt_segmentModes qt_segmentLengths qt_modes qt_takes qt_bytes qt_words qt_block qt_tried qt_values qt_system qt_solved qt_places qt_generator qt_readBytes qt_readings ct_fixed ct_modules vt_thrown vt_length vt_version r1 vt_made vt_segments vt_bits vt_filled vt_readLength vt_at vt_all vt_fault vt_good b6 b7)) [0, 1, 2] rfl) (hK.sub (tys' := [(ct_fixed, .int), (ct_modules, .int)]) [0, 1] rfl) (hD.sub (ws' := (ww_Md_square qt qt_fixed qt_modules qt_checkBytes qt_blocks qt_data qt_tells qt_segmentModes qt_segmentLengths qt_modes qt_takes qt_bytes qt_words qt_block qt_tried qt_values qt_system qt_solved qt_places qt_generator qt_readBytes qt_readings ct_fixed ct_modules vt_thrown vt_length vt_version r1 vt_made vt_segments vt_bits vt_filled vt_readLength vt_at vt_all vt_fault vt_good b6 b7)) [0, 1, 2] (by decide) rfl) (va_recv hK hP (ci := 10) (q0 := 0) rfl rfl)) rfl rfl hl.1 rfl (lv_room (Nat.le_of_ble_eq_true rfl)) d_Md_frame_96 ⟨Nat.le_of_ble_eq_true rfl, Nat.le_of_ble_eq_true rfl⟩) hP hD hS hA [0, 1, 2] [] [0, 1, 2] rfl rfl (by decide) (by decide) rfl (by decide) (fun H locs hP hD hS => ?_)
      refine lv_aload_n hx hb d_Md_frame_99 rfl (lv_at hl 0 rfl) ?_
      refine lv_aload_n hx hb d_Md_frame_100 rfl (lv_at hl 0 rfl) ?_
      refine va_get (D := (dC, dI)) (ci := 10) (v := .int r1) (C := R_Md) (T := F_Md) (N := 34) hx hb ht i_Md hown hK hP 0 rfl rfl 8 (by decide) (ht _ tb_1070) (fun _ h9 => h9) rfl d_Md_frame_101 ?_
      refine lv_iconst (v := (4 : Int32)) hx hb d_Md_frame_104 (by decide) ?_
      refine lv_isub hx hb d_Md_frame_105 ?_
      refine lv_iconst (v := (3 : Int32)) hx hb d_Md_frame_106 (by decide) ?_
      refine lv_iconst (v := (4 : Int32)) hx hb d_Md_frame_107 (by decide) ?_
      refine lv_iconst (v := (1 : Int32)) hx hb d_Md_frame_108 (by decide) ?_
      obtain ⟨b12, b13, hc14, Hf⟩ := sq_cb2_e Hf
      refine sq_rwv (wn := (ww_Md_frame qt qt_fixed qt_modules qt_checkBytes qt_blocks qt_data qt_tells qt_segmentModes qt_segmentLengths qt_modes qt_takes qt_bytes qt_words qt_block qt_tried qt_values qt_system qt_solved qt_places qt_generator qt_readBytes qt_readings ct_fixed ct_modules vt_thrown vt_length vt_version r1 vt_made vt_segments vt_bits vt_filled vt_readLength vt_at vt_all vt_fault vt_good b12 b13)) (va_runV (As := [.int (r1 - (4 : Int32)), .int (3 : Int32), .int (4 : Int32), .int (1 : Int32)]) (rest := []) ⟨hx, hb, hml, hown, ht⟩ (kt_Md_square l dC dI qt qt_fixed qt_modules qt_checkBytes qt_blocks qt_data qt_tells qt_segmentModes qt_segmentLengths qt_modes qt_takes qt_bytes qt_words qt_block qt_tried qt_values qt_system qt_solved qt_places qt_generator qt_readBytes qt_readings ct_fixed ct_modules vt_thrown vt_length vt_version r1 vt_made vt_segments vt_bits vt_filled vt_readLength vt_at vt_all vt_fault vt_good b9 b10 (r1 - (4 : Int32)) (3 : Int32) (4 : Int32) (1 : Int32) H.size n0 b12 b13 hc14) (cwV 4 ht (sq_gV tb_1300 tb_1302 sl_50 tb_11 tb_1303) rfl rfl rfl (by decide +kernel) ⟨Nat.le_of_ble_eq_true rfl, Nat.le_of_ble_eq_true rfl⟩) (sq_rwV (hP.sub (ws' := (ww_Md_square qt qt_fixed qt_modules qt_checkBytes qt_blocks qt_data qt_tells qt_segmentModes qt_segmentLengths qt_modes qt_takes qt_bytes qt_words qt_block qt_tried qt_values qt_system qt_solved qt_places qt_generator qt_readBytes qt_readings ct_fixed ct_modules vt_thrown vt_length vt_version r1 vt_made vt_segments vt_bits vt_filled vt_readLength vt_at vt_all vt_fault vt_good b9 b10)) [0, 1, 2] rfl) (hK.sub (tys' := [(ct_fixed, .int), (ct_modules, .int)]) [0, 1] rfl) (hD.sub (ws' := (ww_Md_square qt qt_fixed qt_modules qt_checkBytes qt_blocks qt_data qt_tells qt_segmentModes qt_segmentLengths qt_modes qt_takes qt_bytes qt_words qt_block qt_tried qt_values qt_system qt_solved qt_places qt_generator qt_readBytes qt_readings ct_fixed ct_modules vt_thrown vt_length vt_version r1 vt_made vt_segments vt_bits vt_filled vt_readLength vt_at vt_all vt_fault vt_good b9 b10)) [0, 1, 2] (by decide) rfl) (va_recv hK hP (ci := 10) (q0 := 0) rfl rfl)) rfl rfl hl.1 rfl (lv_room (Nat.le_of_ble_eq_true rfl)) d_Md_frame_109 ⟨Nat.le_of_ble_eq_true rfl, Nat.le_of_ble_eq_true rfl⟩) hP hD hS hA [0, 1, 2] [] [0, 1, 2] rfl rfl (by decide) (by decide) rfl (by decide) (fun H locs hP hD hS => ?_)
      refine lv_aload_n hx hb d_Md_frame_112 rfl (lv_at hl 0 rfl) ?_
      refine lv_iconst (v := (3 : Int32)) hx hb d_Md_frame_113 (by decide) ?_
      refine lv_aload_n hx hb d_Md_frame_114 rfl (lv_at hl 0 rfl) ?_
      refine va_get (D := (dC, dI)) (ci := 10) (v := .int r1) (C := R_Md) (T := F_Md) (N := 34) hx hb ht i_Md hown hK hP 0 rfl rfl 8 (by decide) (ht _ tb_1070) (fun _ h9 => h9) rfl d_Md_frame_115 ?_
      refine lv_iconst (v := (4 : Int32)) hx hb d_Md_frame_118 (by decide) ?_
      refine lv_isub hx hb d_Md_frame_119 ?_
      refine lv_iconst (v := (4 : Int32)) hx hb d_Md_frame_120 (by decide) ?_
      refine lv_iconst (v := (1 : Int32)) hx hb d_Md_frame_121 (by decide) ?_
      obtain ⟨b15, b16, hc17, Hf⟩ := sq_cb2_e Hf
      refine sq_rwv (wn := (ww_Md_frame qt qt_fixed qt_modules qt_checkBytes qt_blocks qt_data qt_tells qt_segmentModes qt_segmentLengths qt_modes qt_takes qt_bytes qt_words qt_block qt_tried qt_values qt_system qt_solved qt_places qt_generator qt_readBytes qt_readings ct_fixed ct_modules vt_thrown vt_length vt_version r1 vt_made vt_segments vt_bits vt_filled vt_readLength vt_at vt_all vt_fault vt_good b15 b16)) (va_runV (As := [.int (3 : Int32), .int (r1 - (4 : Int32)), .int (4 : Int32), .int (1 : Int32)]) (rest := []) ⟨hx, hb, hml, hown, ht⟩ (kt_Md_square l dC dI qt qt_fixed qt_modules qt_checkBytes qt_blocks qt_data qt_tells qt_segmentModes qt_segmentLengths qt_modes qt_takes qt_bytes qt_words qt_block qt_tried qt_values qt_system qt_solved qt_places qt_generator qt_readBytes qt_readings ct_fixed ct_modules vt_thrown vt_length vt_version r1 vt_made vt_segments vt_bits vt_filled vt_readLength vt_at vt_all vt_fault vt_good b12 b13 (3 : Int32) (r1 - (4 : Int32)) (4 : Int32) (1 : Int32) H.size n0 b15 b16 hc17) (cwV 4 ht (sq_gV tb_1300 tb_1302 sl_50 tb_11 tb_1303) rfl rfl rfl (by decide +kernel) ⟨Nat.le_of_ble_eq_true rfl, Nat.le_of_ble_eq_true rfl⟩) (sq_rwV (hP.sub (ws' := (ww_Md_square qt qt_fixed qt_modules qt_checkBytes qt_blocks qt_data qt_tells qt_segmentModes qt_segmentLengths qt_modes qt_takes qt_bytes qt_words qt_block qt_tried qt_values qt_system qt_solved qt_places qt_generator qt_readBytes qt_readings ct_fixed ct_modules vt_thrown vt_length vt_version r1 vt_made vt_segments vt_bits vt_filled vt_readLength vt_at vt_all vt_fault vt_good b12 b13)) [0, 1, 2] rfl) (hK.sub (tys' := [(ct_fixed, .int), (ct_modules, .int)]) [0, 1] rfl) (hD.sub (ws' := (ww_Md_square qt qt_fixed qt_modules qt_checkBytes qt_blocks qt_data qt_tells qt_segmentModes qt_segmentLengths qt_modes qt_takes qt_bytes qt_words qt_block qt_tried qt_values qt_system qt_solved qt_places qt_generator qt_readBytes qt_readings ct_fixed ct_modules vt_thrown vt_length vt_version r1 vt_made vt_segments vt_bits vt_filled vt_readLength vt_at vt_all vt_fault vt_good b12 b13)) [0, 1, 2] (by decide) rfl) (va_recv hK hP (ci := 10) (q0 := 0) rfl rfl)) rfl rfl hl.1 rfl (lv_room (Nat.le_of_ble_eq_true rfl)) d_Md_frame_122 ⟨Nat.le_of_ble_eq_true rfl, Nat.le_of_ble_eq_true rfl⟩) hP hD hS hA [0, 1, 2] [] [0, 1, 2] rfl rfl (by decide) (by decide) rfl (by decide) (fun H locs hP hD hS => ?_)
      refine lv_iload_n hx hb d_Md_frame_125 rfl (lv_at hl 1 rfl) ?_
      refine lv_bipush (v := (7 : Int32)) hx hb d_Md_frame_126 (by decide) ?_
      refine lv_idiv hx hb d_Md_frame_128 (by decide) ?_
      refine lv_iconst (v := (2 : Int32)) hx hb d_Md_frame_129 (by decide) ?_
      refine lv_iadd hx hb d_Md_frame_130 ?_
      obtain ⟨x18, ex18, Hf⟩ := sq_bd_e Hf
      refine sq_top ex18 ?_
      refine lv_istore_n (lv' := [(2, .int x18), (0, .ref qt), (1, .int p1)]) hx hb d_Md_frame_131 rfl hl (by decide) rfl (fun ls hl => ?_)
      refine lv_iconst (v := (0 : Int32)) hx hb d_Md_frame_132 (by decide) ?_
      refine lv_istore_n (lv' := [(3, .int (0 : Int32)), (2, .int x18), (0, .ref qt), (1, .int p1)]) hx hb d_Md_frame_133 rfl hl (by decide) rfl (fun ls hl => ?_)
      obtain ⟨k21, hk21, Hf⟩ := sq_jn_e Hf
      have Jk21 : ∀ (b19 : Nat → Int32) (b20 : Nat → Int32), k21 b19 b20 = some (nvt_side, nvt_fixed, nvt_modules) → ∀ (H : Heap) (locs : List Loc), va_P (dC, dI) cl_All (ww_Md_frame qt qt_fixed qt_modules qt_checkBytes qt_blocks qt_data qt_tells qt_segmentModes qt_segmentLengths qt_modes qt_takes qt_bytes qt_words qt_block qt_tried qt_values qt_system qt_solved qt_places qt_generator qt_readBytes qt_readings ct_fixed ct_modules vt_thrown vt_length vt_version r1 vt_made vt_segments vt_bits vt_filled vt_readLength vt_at vt_all vt_fault vt_good b19 b20) H → va_D A (ww_Md_frame qt qt_fixed qt_modules qt_checkBytes qt_blocks qt_data qt_tells qt_segmentModes qt_segmentLengths qt_modes qt_takes qt_bytes qt_words qt_block qt_tried qt_values qt_system qt_solved qt_places qt_generator qt_readBytes qt_readings ct_fixed ct_modules vt_thrown vt_length vt_version r1 vt_made vt_segments vt_bits vt_filled vt_readLength vt_at vt_all vt_fault vt_good b19 b20) → va_S A s.heap H locs → ∀ ls : Array Slot, lv_has ls 6 [(0, .ref qt), (1, .int p1)] → W p l e (headSpec w_Md_frame rm_Md_frame).room s m (([.ref qt, .int p1] : List Value).toArray) below meth c H locs 0 0 (MQ below (qc_Md_frame dC dI A qt qt_fixed qt_modules qt_checkBytes qt_blocks qt_data qt_tells qt_segmentModes qt_segmentLengths qt_modes qt_takes qt_bytes qt_words qt_block qt_tried qt_values qt_system qt_solved qt_places qt_generator qt_readBytes qt_readings ct_fixed ct_modules vt_thrown vt_length vt_version nvt_side vt_made vt_segments vt_bits vt_filled vt_readLength vt_at vt_all vt_fault vt_good nvt_fixed nvt_modules) (([.ref qt, .int p1] : List Value).toArray) s 0 0 A) (F0 m 223 ls []) := by
        intro b19 b20 Hf H locs  hP hD hS ls hl
        rw [hk21] at Hf
        refine lv_aload_n hx hb d_Md_frame_223 rfl (lv_at hl 0 rfl) ?_
        refine lv_iconst (v := (0 : Int32)) hx hb d_Md_frame_224 (by decide) ?_
        obtain ⟨b22, b23, hc24, Hf⟩ := sq_cb2_e Hf
        refine sq_rwv (wn := (ww_Md_frame qt qt_fixed qt_modules qt_checkBytes qt_blocks qt_data qt_tells qt_segmentModes qt_segmentLengths qt_modes qt_takes qt_bytes qt_words qt_block qt_tried qt_values qt_system qt_solved qt_places qt_generator qt_readBytes qt_readings ct_fixed ct_modules vt_thrown vt_length vt_version r1 vt_made vt_segments vt_bits vt_filled vt_readLength vt_at vt_all vt_fault vt_good b22 b23)) (va_runV (As := [.int (0 : Int32)]) (rest := []) ⟨hx, hb, hml, hown, ht⟩ (kt_Md_layForm l dC dI qt qt_fixed qt_modules qt_checkBytes qt_blocks qt_data qt_tells qt_segmentModes qt_segmentLengths qt_modes qt_takes qt_bytes qt_words qt_block qt_tried qt_values qt_system qt_solved qt_places qt_generator qt_readBytes qt_readings ct_fixed ct_modules vt_thrown vt_length vt_version r1 vt_made vt_segments vt_bits vt_filled vt_readLength vt_at vt_all vt_fault vt_good b19 b20 (0 : Int32) H.size n0 b22 b23 hc24) (cwV 1 ht (sq_gV tb_1310 tb_1312 sl_51 tb_11 tb_1313) rfl rfl rfl (by decide +kernel) ⟨Nat.le_of_ble_eq_true rfl, Nat.le_of_ble_eq_true rfl⟩) (sq_rwV (hP.sub (ws' := (ww_Md_layForm qt qt_fixed qt_modules qt_checkBytes qt_blocks qt_data qt_tells qt_segmentModes qt_segmentLengths qt_modes qt_takes qt_bytes qt_words qt_block qt_tried qt_values qt_system qt_solved qt_places qt_generator qt_readBytes qt_readings ct_fixed ct_modules vt_thrown vt_length vt_version r1 vt_made vt_segments vt_bits vt_filled vt_readLength vt_at vt_all vt_fault vt_good b19 b20)) [0, 1, 2] rfl) (hK.sub (tys' := [(ct_fixed, .int), (ct_modules, .int)]) [0, 1] rfl) (hD.sub (ws' := (ww_Md_layForm qt qt_fixed qt_modules qt_checkBytes qt_blocks qt_data qt_tells qt_segmentModes qt_segmentLengths qt_modes qt_takes qt_bytes qt_words qt_block qt_tried qt_values qt_system qt_solved qt_places qt_generator qt_readBytes qt_readings ct_fixed ct_modules vt_thrown vt_length vt_version r1 vt_made vt_segments vt_bits vt_filled vt_readLength vt_at vt_all vt_fault vt_good b19 b20)) [0, 1, 2] (by decide) rfl) (va_recv hK hP (ci := 10) (q0 := 0) rfl rfl)) rfl rfl hl.1 rfl (lv_room (Nat.le_of_ble_eq_true rfl)) d_Md_frame_225 ⟨Nat.le_of_ble_eq_true rfl, Nat.le_of_ble_eq_true rfl⟩) hP hD hS hA [0, 1, 2] [] [0, 1, 2] rfl rfl (by decide) (by decide) rfl (by decide) (fun H locs hP hD hS => ?_)
        refine lv_aload_n hx hb d_Md_frame_228 rfl (lv_at hl 0 rfl) ?_
        refine lv_bipush (v := (8 : Int32)) hx hb d_Md_frame_229 (by decide) ?_
        refine lv_aload_n hx hb d_Md_frame_231 rfl (lv_at hl 0 rfl) ?_
        refine va_get (D := (dC, dI)) (ci := 10) (v := .int r1) (C := R_Md) (T := F_Md) (N := 34) hx hb ht i_Md hown hK hP 0 rfl rfl 8 (by decide) (ht _ tb_1070) (fun _ h9 => h9) rfl d_Md_frame_232 ?_
        refine lv_bipush (v := (8 : Int32)) hx hb d_Md_frame_235 (by decide) ?_
        refine lv_isub hx hb d_Md_frame_237 ?_
        refine lv_iconst (v := (1 : Int32)) hx hb d_Md_frame_238 (by decide) ?_
        obtain ⟨b25, b26, hc27, Hf⟩ := sq_cb2_e Hf
        refine sq_rwv (wn := (ww_Md_frame qt qt_fixed qt_modules qt_checkBytes qt_blocks qt_data qt_tells qt_segmentModes qt_segmentLengths qt_modes qt_takes qt_bytes qt_words qt_block qt_tried qt_values qt_system qt_solved qt_places qt_generator qt_readBytes qt_readings ct_fixed ct_modules vt_thrown vt_length vt_version r1 vt_made vt_segments vt_bits vt_filled vt_readLength vt_at vt_all vt_fault vt_good b25 b26)) (va_runV (As := [.int (8 : Int32), .int (r1 - (8 : Int32)), .int (1 : Int32)]) (rest := []) ⟨hx, hb, hml, hown, ht⟩ (kt_Md_fix l dC dI qt qt_fixed qt_modules qt_checkBytes qt_blocks qt_data qt_tells qt_segmentModes qt_segmentLengths qt_modes qt_takes qt_bytes qt_words qt_block qt_tried qt_values qt_system qt_solved qt_places qt_generator qt_readBytes qt_readings ct_fixed ct_modules vt_thrown vt_length vt_version r1 vt_made vt_segments vt_bits vt_filled vt_readLength vt_at vt_all vt_fault vt_good b22 b23 (8 : Int32) (r1 - (8 : Int32)) (1 : Int32) H.size b25 b26 hc27) (cwV 3 ht (sq_gV tb_1292 tb_1294 sl_48 tb_11 tb_1295) rfl rfl rfl (by decide +kernel) ⟨Nat.le_of_ble_eq_true rfl, Nat.le_of_ble_eq_true rfl⟩) (sq_rwV (hP.sub (ws' := (ww_Md_fix qt qt_fixed qt_modules qt_checkBytes qt_blocks qt_data qt_tells qt_segmentModes qt_segmentLengths qt_modes qt_takes qt_bytes qt_words qt_block qt_tried qt_values qt_system qt_solved qt_places qt_generator qt_readBytes qt_readings ct_fixed ct_modules vt_thrown vt_length vt_version r1 vt_made vt_segments vt_bits vt_filled vt_readLength vt_at vt_all vt_fault vt_good b22 b23)) [0, 1, 2] rfl) (hK.sub (tys' := [(ct_fixed, .int), (ct_modules, .int)]) [0, 1] rfl) (hD.sub (ws' := (ww_Md_fix qt qt_fixed qt_modules qt_checkBytes qt_blocks qt_data qt_tells qt_segmentModes qt_segmentLengths qt_modes qt_takes qt_bytes qt_words qt_block qt_tried qt_values qt_system qt_solved qt_places qt_generator qt_readBytes qt_readings ct_fixed ct_modules vt_thrown vt_length vt_version r1 vt_made vt_segments vt_bits vt_filled vt_readLength vt_at vt_all vt_fault vt_good b22 b23)) [0, 1, 2] (by decide) rfl) (va_recv hK hP (ci := 10) (q0 := 0) rfl rfl)) rfl rfl hl.1 rfl (lv_room (Nat.le_of_ble_eq_true rfl)) d_Md_frame_239 ⟨Nat.le_of_ble_eq_true rfl, Nat.le_of_ble_eq_true rfl⟩) hP hD hS hA [0, 1, 2] [] [0, 1, 2] rfl rfl (by decide) (by decide) rfl (by decide) (fun H locs hP hD hS => ?_)
        refine lv_iload_n hx hb d_Md_frame_242 rfl (lv_at hl 1 rfl) ?_
        refine lv_bipush (v := (12 : Int32)) hx hb d_Md_frame_243 (by decide) ?_
        refine lv_sipush (v := (7973 : Int32)) hx hb d_Md_frame_245 (by decide) ?_
        obtain ⟨r28, hc29, Hf⟩ := sq_cb1_e Hf
        refine sq_roi (va_runS (As := [.int p1, .int (12 : Int32), .int (7973 : Int32)]) (rest := []) ⟨hx, hb, hml, hown, ht⟩ (kt_Md_shortWord l dC dI p1 (12 : Int32) (7973 : Int32) n0 r28 hc29) (va_cwS 3 ht (sq_gS tb_1317 tb_1318 tb_11 tb_1319) rfl rfl rfl (by decide +kernel) ⟨Nat.le_of_ble_eq_true rfl, Nat.le_of_ble_eq_true rfl⟩) (sq_roS (hP.sub (ws' := ([] : va_W)) [] rfl) (hK.sub (tys' := []) [] rfl)) rfl rfl hl.1 rfl (lv_room (Nat.le_of_ble_eq_true rfl)) d_Md_frame_248 ⟨Nat.le_of_ble_eq_true rfl, Nat.le_of_ble_eq_true rfl⟩) ?_
        refine lv_istore_n (lv' := [(3, .int r28), (0, .ref qt), (1, .int p1)]) hx hb d_Md_frame_251 rfl hl (by decide) rfl (fun ls hl => ?_)
        refine lv_iconst (v := (0 : Int32)) hx hb d_Md_frame_252 (by decide) ?_
        refine lv_istore (lv' := [(4, .int (0 : Int32)), (3, .int r28), (0, .ref qt), (1, .int p1)]) hx hb d_Md_frame_253 hl (by decide) rfl (fun ls hl => ?_)
        have L1 : ∀ (m1 : Nat), ∀ (x30 : Int32) (b31 : Nat → Int32) (b32 : Nat → Int32), fn_Md_frame_L1 p1 r1 r28 m1 x30 b31 b32 = some (nvt_side, nvt_fixed, nvt_modules) → ∀ (H : Heap) (locs : List Loc), va_P (dC, dI) cl_All (ww_Md_frame qt qt_fixed qt_modules qt_checkBytes qt_blocks qt_data qt_tells qt_segmentModes qt_segmentLengths qt_modes qt_takes qt_bytes qt_words qt_block qt_tried qt_values qt_system qt_solved qt_places qt_generator qt_readBytes qt_readings ct_fixed ct_modules vt_thrown vt_length vt_version r1 vt_made vt_segments vt_bits vt_filled vt_readLength vt_at vt_all vt_fault vt_good b31 b32) H → va_D A (ww_Md_frame qt qt_fixed qt_modules qt_checkBytes qt_blocks qt_data qt_tells qt_segmentModes qt_segmentLengths qt_modes qt_takes qt_bytes qt_words qt_block qt_tried qt_values qt_system qt_solved qt_places qt_generator qt_readBytes qt_readings ct_fixed ct_modules vt_thrown vt_length vt_version r1 vt_made vt_segments vt_bits vt_filled vt_readLength vt_at vt_all vt_fault vt_good b31 b32) → va_S A s.heap H locs → ∀ ls : Array Slot, lv_has ls 6 [(0, .ref qt), (1, .int p1), (3, .int r28), (4, .int x30)] → W p l e (headSpec w_Md_frame rm_Md_frame).room s m (([.ref qt, .int p1] : List Value).toArray) below meth c H locs 0 0 (MQ below (qc_Md_frame dC dI A qt qt_fixed qt_modules qt_checkBytes qt_blocks qt_data qt_tells qt_segmentModes qt_segmentLengths qt_modes qt_takes qt_bytes qt_words qt_block qt_tried qt_values qt_system qt_solved qt_places qt_generator qt_readBytes qt_readings ct_fixed ct_modules vt_thrown vt_length vt_version nvt_side vt_made vt_segments vt_bits vt_filled vt_readLength vt_at vt_all vt_fault vt_good nvt_fixed nvt_modules) (([.ref qt, .int p1] : List Value).toArray) s 0 0 A) (F0 m 255 ls []) := by
          intro m1
          induction m1 with
          | zero => intro x30 b31 b32 Hf; exact sq_none Hf
          | succ m1 ih1 =>
            intro x30 b31 b32 Hf H locs  hP hD hS ls hl
            replace Hf := (fn_Md_frame_L1_s p1 r1 r28 m1 x30 b31 b32).symm.trans Hf
            refine lv_iload hx hb d_Md_frame_255 (lv_at hl 3 rfl) ?_
            refine lv_bipush (v := (18 : Int32)) hx hb d_Md_frame_257 (by decide) ?_
            refine lv_icmp_ge (tgt := 344) hx hb d_Md_frame_259 (by decide) (fun c33 => ?_) (fun c33 => ?_)
            · replace Hf := sq_ite_t Hf c33
              obtain ⟨rfl, rfl, rfl⟩ := sq_so3 Hf
              exact W.vret hx hb hr (fun t ht hW => ⟨⟨(), rfl, trivial, by rw [ht]; exact hP, hD⟩, hS.F ht⟩) hS.2.2 d_Md_frame_344
            · replace Hf := sq_ite_f Hf c33
              refine lv_iload_n hx hb d_Md_frame_262 rfl (lv_at hl 1 rfl) ?_
              refine lv_bipush (v := (6 : Int32)) hx hb d_Md_frame_263 (by decide) ?_
              refine lv_icmp_le (tgt := 344) hx hb d_Md_frame_265 (by decide) (fun c34 => ?_) (fun c34 => ?_)
              · replace Hf := sq_ite_t Hf c34
                obtain ⟨rfl, rfl, rfl⟩ := sq_so3 Hf
                exact W.vret hx hb hr (fun t ht hW => ⟨⟨(), rfl, trivial, by rw [ht]; exact hP, hD⟩, hS.F ht⟩) hS.2.2 d_Md_frame_344
              · replace Hf := sq_ite_f Hf c34
                refine lv_aload_n hx hb d_Md_frame_268 rfl (lv_at hl 0 rfl) ?_
                refine lv_aload_n hx hb d_Md_frame_269 rfl (lv_at hl 0 rfl) ?_
                refine va_get (D := (dC, dI)) (ci := 10) (v := .int r1) (C := R_Md) (T := F_Md) (N := 34) hx hb ht i_Md hown hK hP 0 rfl rfl 8 (by decide) (ht _ tb_1070) (fun _ h9 => h9) rfl d_Md_frame_270 ?_
                refine lv_bipush (v := (11 : Int32)) hx hb d_Md_frame_273 (by decide) ?_
                refine lv_isub hx hb d_Md_frame_275 ?_
                refine lv_iload hx hb d_Md_frame_276 (lv_at hl 3 rfl) ?_
                refine lv_iconst (v := (3 : Int32)) hx hb d_Md_frame_278 (by decide) ?_
                refine lv_irem hx hb d_Md_frame_279 (by decide) ?_
                obtain ⟨x35, ex35, Hf⟩ := sq_bd_e Hf
                refine sq_top ex35 ?_
                refine lv_iadd hx hb d_Md_frame_280 ?_
                refine lv_iload hx hb d_Md_frame_281 (lv_at hl 3 rfl) ?_
                refine lv_iconst (v := (3 : Int32)) hx hb d_Md_frame_283 (by decide) ?_
                refine lv_idiv hx hb d_Md_frame_284 (by decide) ?_
                refine lv_iload_n hx hb d_Md_frame_285 rfl (lv_at hl 2 rfl) ?_
                refine lv_iload hx hb d_Md_frame_286 (lv_at hl 3 rfl) ?_
                refine lv_ishr hx hb d_Md_frame_288 ?_
                refine lv_iconst (v := (1 : Int32)) hx hb d_Md_frame_289 (by decide) ?_
                refine lv_iand hx hb d_Md_frame_290 ?_
                refine lv_iconst (v := (1 : Int32)) hx hb d_Md_frame_291 (by decide) ?_
                obtain ⟨k37, hk37, Hf⟩ := sq_jn_e Hf
                have Jk37 : ∀ (x36 : Int32), k37 x36 = some (nvt_side, nvt_fixed, nvt_modules) → ∀ (H : Heap) (locs : List Loc), va_P (dC, dI) cl_All (ww_Md_frame qt qt_fixed qt_modules qt_checkBytes qt_blocks qt_data qt_tells qt_segmentModes qt_segmentLengths qt_modes qt_takes qt_bytes qt_words qt_block qt_tried qt_values qt_system qt_solved qt_places qt_generator qt_readBytes qt_readings ct_fixed ct_modules vt_thrown vt_length vt_version r1 vt_made vt_segments vt_bits vt_filled vt_readLength vt_at vt_all vt_fault vt_good b31 b32) H → va_D A (ww_Md_frame qt qt_fixed qt_modules qt_checkBytes qt_blocks qt_data qt_tells qt_segmentModes qt_segmentLengths qt_modes qt_takes qt_bytes qt_words qt_block qt_tried qt_values qt_system qt_solved qt_places qt_generator qt_readBytes qt_readings ct_fixed ct_modules vt_thrown vt_length vt_version r1 vt_made vt_segments vt_bits vt_filled vt_readLength vt_at vt_all vt_fault vt_good b31 b32) → va_S A s.heap H locs → ∀ ls : Array Slot, lv_has ls 6 [(0, .ref qt), (1, .int p1), (3, .int r28), (4, .int x30)] → W p l e (headSpec w_Md_frame rm_Md_frame).room s m (([.ref qt, .int p1] : List Value).toArray) below meth c H locs 0 0 (MQ below (qc_Md_frame dC dI A qt qt_fixed qt_modules qt_checkBytes qt_blocks qt_data qt_tells qt_segmentModes qt_segmentLengths qt_modes qt_takes qt_bytes qt_words qt_block qt_tried qt_values qt_system qt_solved qt_places qt_generator qt_readBytes qt_readings ct_fixed ct_modules vt_thrown vt_length vt_version nvt_side vt_made vt_segments vt_bits vt_filled vt_readLength vt_at vt_all vt_fault vt_good nvt_fixed nvt_modules) (([.ref qt, .int p1] : List Value).toArray) s 0 0 A) (F0 m 300 ls [.int x36, .int (x30 / (3 : Int32)), .int ((r1 - (11 : Int32)) + x35), .ref qt]) := by
                  intro x36 Hf H locs  hP hD hS ls hl
                  rw [hk37] at Hf
                  obtain ⟨b38, b39, hc40, Hf⟩ := sq_cb2_e Hf
                  refine sq_rwv (wn := (ww_Md_frame qt qt_fixed qt_modules qt_checkBytes qt_blocks qt_data qt_tells qt_segmentModes qt_segmentLengths qt_modes qt_takes qt_bytes qt_words qt_block qt_tried qt_values qt_system qt_solved qt_places qt_generator qt_readBytes qt_readings ct_fixed ct_modules vt_thrown vt_length vt_version r1 vt_made vt_segments vt_bits vt_filled vt_readLength vt_at vt_all vt_fault vt_good b38 b39)) (va_runV (As := [.int ((r1 - (11 : Int32)) + x35), .int (x30 / (3 : Int32)), .int x36]) (rest := []) ⟨hx, hb, hml, hown, ht⟩ (kt_Md_fix l dC dI qt qt_fixed qt_modules qt_checkBytes qt_blocks qt_data qt_tells qt_segmentModes qt_segmentLengths qt_modes qt_takes qt_bytes qt_words qt_block qt_tried qt_values qt_system qt_solved qt_places qt_generator qt_readBytes qt_readings ct_fixed ct_modules vt_thrown vt_length vt_version r1 vt_made vt_segments vt_bits vt_filled vt_readLength vt_at vt_all vt_fault vt_good b31 b32 ((r1 - (11 : Int32)) + x35) (x30 / (3 : Int32)) x36 H.size b38 b39 hc40) (cwV 3 ht (sq_gV tb_1292 tb_1294 sl_48 tb_11 tb_1295) rfl rfl rfl (by decide +kernel) ⟨Nat.le_of_ble_eq_true rfl, Nat.le_of_ble_eq_true rfl⟩) (sq_rwV (hP.sub (ws' := (ww_Md_fix qt qt_fixed qt_modules qt_checkBytes qt_blocks qt_data qt_tells qt_segmentModes qt_segmentLengths qt_modes qt_takes qt_bytes qt_words qt_block qt_tried qt_values qt_system qt_solved qt_places qt_generator qt_readBytes qt_readings ct_fixed ct_modules vt_thrown vt_length vt_version r1 vt_made vt_segments vt_bits vt_filled vt_readLength vt_at vt_all vt_fault vt_good b31 b32)) [0, 1, 2] rfl) (hK.sub (tys' := [(ct_fixed, .int), (ct_modules, .int)]) [0, 1] rfl) (hD.sub (ws' := (ww_Md_fix qt qt_fixed qt_modules qt_checkBytes qt_blocks qt_data qt_tells qt_segmentModes qt_segmentLengths qt_modes qt_takes qt_bytes qt_words qt_block qt_tried qt_values qt_system qt_solved qt_places qt_generator qt_readBytes qt_readings ct_fixed ct_modules vt_thrown vt_length vt_version r1 vt_made vt_segments vt_bits vt_filled vt_readLength vt_at vt_all vt_fault vt_good b31 b32)) [0, 1, 2] (by decide) rfl) (va_recv hK hP (ci := 10) (q0 := 0) rfl rfl)) rfl rfl hl.1 rfl (lv_room (Nat.le_of_ble_eq_true rfl)) d_Md_frame_300 ⟨Nat.le_of_ble_eq_true rfl, Nat.le_of_ble_eq_true rfl⟩) hP hD hS hA [0, 1, 2] [] [0, 1, 2] rfl rfl (by decide) (by decide) rfl (by decide) (fun H locs hP hD hS => ?_)
                  refine lv_aload_n hx hb d_Md_frame_303 rfl (lv_at hl 0 rfl) ?_
                  refine lv_iload hx hb d_Md_frame_304 (lv_at hl 3 rfl) ?_
                  refine lv_iconst (v := (3 : Int32)) hx hb d_Md_frame_306 (by decide) ?_
                  refine lv_idiv hx hb d_Md_frame_307 (by decide) ?_
                  refine lv_aload_n hx hb d_Md_frame_308 rfl (lv_at hl 0 rfl) ?_
                  refine va_get (D := (dC, dI)) (ci := 10) (v := .int r1) (C := R_Md) (T := F_Md) (N := 34) hx hb ht i_Md hown hK hP 0 rfl rfl 8 (by decide) (ht _ tb_1070) (fun _ h9 => h9) rfl d_Md_frame_309 ?_
                  refine lv_bipush (v := (11 : Int32)) hx hb d_Md_frame_312 (by decide) ?_
                  refine lv_isub hx hb d_Md_frame_314 ?_
                  refine lv_iload hx hb d_Md_frame_315 (lv_at hl 3 rfl) ?_
                  refine lv_iconst (v := (3 : Int32)) hx hb d_Md_frame_317 (by decide) ?_
                  refine lv_irem hx hb d_Md_frame_318 (by decide) ?_
                  obtain ⟨x41, ex41, Hf⟩ := sq_bd_e Hf
                  refine sq_top ex41 ?_
                  refine lv_iadd hx hb d_Md_frame_319 ?_
                  refine lv_iload_n hx hb d_Md_frame_320 rfl (lv_at hl 2 rfl) ?_
                  refine lv_iload hx hb d_Md_frame_321 (lv_at hl 3 rfl) ?_
                  refine lv_ishr hx hb d_Md_frame_323 ?_
                  refine lv_iconst (v := (1 : Int32)) hx hb d_Md_frame_324 (by decide) ?_
                  refine lv_iand hx hb d_Md_frame_325 ?_
                  refine lv_iconst (v := (1 : Int32)) hx hb d_Md_frame_326 (by decide) ?_
                  obtain ⟨k43, hk43, Hf⟩ := sq_jn_e Hf
                  have Jk43 : ∀ (x42 : Int32), k43 x42 = some (nvt_side, nvt_fixed, nvt_modules) → ∀ (H : Heap) (locs : List Loc), va_P (dC, dI) cl_All (ww_Md_frame qt qt_fixed qt_modules qt_checkBytes qt_blocks qt_data qt_tells qt_segmentModes qt_segmentLengths qt_modes qt_takes qt_bytes qt_words qt_block qt_tried qt_values qt_system qt_solved qt_places qt_generator qt_readBytes qt_readings ct_fixed ct_modules vt_thrown vt_length vt_version r1 vt_made vt_segments vt_bits vt_filled vt_readLength vt_at vt_all vt_fault vt_good b38 b39) H → va_D A (ww_Md_frame qt qt_fixed qt_modules qt_checkBytes qt_blocks qt_data qt_tells qt_segmentModes qt_segmentLengths qt_modes qt_takes qt_bytes qt_words qt_block qt_tried qt_values qt_system qt_solved qt_places qt_generator qt_readBytes qt_readings ct_fixed ct_modules vt_thrown vt_length vt_version r1 vt_made vt_segments vt_bits vt_filled vt_readLength vt_at vt_all vt_fault vt_good b38 b39) → va_S A s.heap H locs → ∀ ls : Array Slot, lv_has ls 6 [(0, .ref qt), (1, .int p1), (3, .int r28), (4, .int x30)] → W p l e (headSpec w_Md_frame rm_Md_frame).room s m (([.ref qt, .int p1] : List Value).toArray) below meth c H locs 0 0 (MQ below (qc_Md_frame dC dI A qt qt_fixed qt_modules qt_checkBytes qt_blocks qt_data qt_tells qt_segmentModes qt_segmentLengths qt_modes qt_takes qt_bytes qt_words qt_block qt_tried qt_values qt_system qt_solved qt_places qt_generator qt_readBytes qt_readings ct_fixed ct_modules vt_thrown vt_length vt_version nvt_side vt_made vt_segments vt_bits vt_filled vt_readLength vt_at vt_all vt_fault vt_good nvt_fixed nvt_modules) (([.ref qt, .int p1] : List Value).toArray) s 0 0 A) (F0 m 335 ls [.int x42, .int ((r1 - (11 : Int32)) + x41), .int (x30 / (3 : Int32)), .ref qt]) := by
                    intro x42 Hf H locs  hP hD hS ls hl
                    rw [hk43] at Hf
                    obtain ⟨b44, b45, hc46, Hf⟩ := sq_cb2_e Hf
                    refine sq_rwv (wn := (ww_Md_frame qt qt_fixed qt_modules qt_checkBytes qt_blocks qt_data qt_tells qt_segmentModes qt_segmentLengths qt_modes qt_takes qt_bytes qt_words qt_block qt_tried qt_values qt_system qt_solved qt_places qt_generator qt_readBytes qt_readings ct_fixed ct_modules vt_thrown vt_length vt_version r1 vt_made vt_segments vt_bits vt_filled vt_readLength vt_at vt_all vt_fault vt_good b44 b45)) (va_runV (As := [.int (x30 / (3 : Int32)), .int ((r1 - (11 : Int32)) + x41), .int x42]) (rest := []) ⟨hx, hb, hml, hown, ht⟩ (kt_Md_fix l dC dI qt qt_fixed qt_modules qt_checkBytes qt_blocks qt_data qt_tells qt_segmentModes qt_segmentLengths qt_modes qt_takes qt_bytes qt_words qt_block qt_tried qt_values qt_system qt_solved qt_places qt_generator qt_readBytes qt_readings ct_fixed ct_modules vt_thrown vt_length vt_version r1 vt_made vt_segments vt_bits vt_filled vt_readLength vt_at vt_all vt_fault vt_good b38 b39 (x30 / (3 : Int32)) ((r1 - (11 : Int32)) + x41) x42 H.size b44 b45 hc46) (cwV 3 ht (sq_gV tb_1292 tb_1294 sl_48 tb_11 tb_1295) rfl rfl rfl (by decide +kernel) ⟨Nat.le_of_ble_eq_true rfl, Nat.le_of_ble_eq_true rfl⟩) (sq_rwV (hP.sub (ws' := (ww_Md_fix qt qt_fixed qt_modules qt_checkBytes qt_blocks qt_data qt_tells qt_segmentModes qt_segmentLengths qt_modes qt_takes qt_bytes qt_words qt_block qt_tried qt_values qt_system qt_solved qt_places qt_generator qt_readBytes qt_readings ct_fixed ct_modules vt_thrown vt_length vt_version r1 vt_made vt_segments vt_bits vt_filled vt_readLength vt_at vt_all vt_fault vt_good b38 b39)) [0, 1, 2] rfl) (hK.sub (tys' := [(ct_fixed, .int), (ct_modules, .int)]) [0, 1] rfl) (hD.sub (ws' := (ww_Md_fix qt qt_fixed qt_modules qt_checkBytes qt_blocks qt_data qt_tells qt_segmentModes qt_segmentLengths qt_modes qt_takes qt_bytes qt_words qt_block qt_tried qt_values qt_system qt_solved qt_places qt_generator qt_readBytes qt_readings ct_fixed ct_modules vt_thrown vt_length vt_version r1 vt_made vt_segments vt_bits vt_filled vt_readLength vt_at vt_all vt_fault vt_good b38 b39)) [0, 1, 2] (by decide) rfl) (va_recv hK hP (ci := 10) (q0 := 0) rfl rfl)) rfl rfl hl.1 rfl (lv_room (Nat.le_of_ble_eq_true rfl)) d_Md_frame_335 ⟨Nat.le_of_ble_eq_true rfl, Nat.le_of_ble_eq_true rfl⟩) hP hD hS hA [0, 1, 2] [] [0, 1, 2] rfl rfl (by decide) (by decide) rfl (by decide) (fun H locs hP hD hS => ?_)
                    obtain ⟨x47, ex47, Hf⟩ := sq_bd_e Hf
                    refine lv_iinc (v := x47) (lv' := [(4, .int x47), (0, .ref qt), (1, .int p1), (3, .int r28)]) hx hb d_Md_frame_338 hl (k := 3) rfl (by rw [ex47]; rfl) (by decide) rfl (fun ls hl => ?_)
                    refine lv_goto (tgt := 255) hx hb d_Md_frame_341 (by decide) ?_
                    exact ih1 x47 b44 b45 Hf _ _  hP hD hS _ (lv_sub hl [1, 2, 3, 0] rfl)
                  refine lv_icmp_ne (tgt := 334) hx hb d_Md_frame_327 (by decide) (fun c48 => ?_) (fun c48 => ?_)
                  · replace Hf := sq_ite_f Hf c48
                    refine lv_iconst (v := (0 : Int32)) hx hb d_Md_frame_334 (by decide) ?_
                    exact Jk43 (0 : Int32) Hf _ _  hP hD hS _ (lv_sub hl [0, 1, 2, 3] rfl)
                  · replace Hf := sq_ite_t Hf c48
                    refine lv_iconst (v := (1 : Int32)) hx hb d_Md_frame_330 (by decide) ?_
                    refine lv_goto (tgt := 335) hx hb d_Md_frame_331 (by decide) ?_
                    exact Jk43 (1 : Int32) Hf _ _  hP hD hS _ (lv_sub hl [0, 1, 2, 3] rfl)
                refine lv_icmp_ne (tgt := 299) hx hb d_Md_frame_292 (by decide) (fun c49 => ?_) (fun c49 => ?_)
                · replace Hf := sq_ite_f Hf c49
                  refine lv_iconst (v := (0 : Int32)) hx hb d_Md_frame_299 (by decide) ?_
                  exact Jk37 (0 : Int32) Hf _ _  hP hD hS _ (lv_sub hl [0, 1, 2, 3] rfl)
                · replace Hf := sq_ite_t Hf c49
                  refine lv_iconst (v := (1 : Int32)) hx hb d_Md_frame_295 (by decide) ?_
                  refine lv_goto (tgt := 300) hx hb d_Md_frame_296 (by decide) ?_
                  exact Jk37 (1 : Int32) Hf _ _  hP hD hS _ (lv_sub hl [0, 1, 2, 3] rfl)
        exact L1 n0 (0 : Int32) b25 b26 Hf _ _  hP hD hS _ (lv_sub hl [2, 3, 1, 0] rfl)
      have L2 : ∀ (m2 : Nat), ∀ (x50 : Int32) (b51 : Nat → Int32) (b52 : Nat → Int32), fn_Md_frame_L2 p1 n0 r1 x18 k21 m2 x50 b51 b52 = some (nvt_side, nvt_fixed, nvt_modules) → ∀ (H : Heap) (locs : List Loc), va_P (dC, dI) cl_All (ww_Md_frame qt qt_fixed qt_modules qt_checkBytes qt_blocks qt_data qt_tells qt_segmentModes qt_segmentLengths qt_modes qt_takes qt_bytes qt_words qt_block qt_tried qt_values qt_system qt_solved qt_places qt_generator qt_readBytes qt_readings ct_fixed ct_modules vt_thrown vt_length vt_version r1 vt_made vt_segments vt_bits vt_filled vt_readLength vt_at vt_all vt_fault vt_good b51 b52) H → va_D A (ww_Md_frame qt qt_fixed qt_modules qt_checkBytes qt_blocks qt_data qt_tells qt_segmentModes qt_segmentLengths qt_modes qt_takes qt_bytes qt_words qt_block qt_tried qt_values qt_system qt_solved qt_places qt_generator qt_readBytes qt_readings ct_fixed ct_modules vt_thrown vt_length vt_version r1 vt_made vt_segments vt_bits vt_filled vt_readLength vt_at vt_all vt_fault vt_good b51 b52) → va_S A s.heap H locs → ∀ ls : Array Slot, lv_has ls 6 [(0, .ref qt), (1, .int p1), (2, .int x18), (3, .int x50)] → W p l e (headSpec w_Md_frame rm_Md_frame).room s m (([.ref qt, .int p1] : List Value).toArray) below meth c H locs 0 0 (MQ below (qc_Md_frame dC dI A qt qt_fixed qt_modules qt_checkBytes qt_blocks qt_data qt_tells qt_segmentModes qt_segmentLengths qt_modes qt_takes qt_bytes qt_words qt_block qt_tried qt_values qt_system qt_solved qt_places qt_generator qt_readBytes qt_readings ct_fixed ct_modules vt_thrown vt_length vt_version nvt_side vt_made vt_segments vt_bits vt_filled vt_readLength vt_at vt_all vt_fault vt_good nvt_fixed nvt_modules) (([.ref qt, .int p1] : List Value).toArray) s 0 0 A) (F0 m 134 ls []) := by
        intro m2
        induction m2 with
        | zero => intro x50 b51 b52 Hf; exact sq_none Hf
        | succ m2 ih2 =>
          intro x50 b51 b52 Hf H locs  hP hD hS ls hl
          replace Hf := (fn_Md_frame_L2_s p1 n0 r1 x18 k21 m2 x50 b51 b52).symm.trans Hf
          refine lv_iload_n hx hb d_Md_frame_134 rfl (lv_at hl 3 rfl) ?_
          refine lv_iload_n hx hb d_Md_frame_135 rfl (lv_at hl 2 rfl) ?_
          refine lv_icmp_ge (tgt := 223) hx hb d_Md_frame_136 (by decide) (fun c53 => ?_) (fun c53 => ?_)
          · replace Hf := sq_ite_t Hf c53
            exact Jk21 b51 b52 Hf _ _  hP hD hS _ (lv_sub hl [0, 1] rfl)
          · replace Hf := sq_ite_f Hf c53
            refine lv_iload_n hx hb d_Md_frame_139 rfl (lv_at hl 1 rfl) ?_
            refine lv_iconst (v := (1 : Int32)) hx hb d_Md_frame_140 (by decide) ?_
            refine lv_icmp_le (tgt := 223) hx hb d_Md_frame_141 (by decide) (fun c54 => ?_) (fun c54 => ?_)
            · replace Hf := sq_ite_t Hf c54
              exact Jk21 b51 b52 Hf _ _  hP hD hS _ (lv_sub hl [0, 1] rfl)
            · replace Hf := sq_ite_f Hf c54
              refine lv_iconst (v := (0 : Int32)) hx hb d_Md_frame_144 (by decide) ?_
              refine lv_istore (lv' := [(4, .int (0 : Int32)), (0, .ref qt), (1, .int p1), (2, .int x18), (3, .int x50)]) hx hb d_Md_frame_145 hl (by decide) rfl (fun ls hl => ?_)
              obtain ⟨k57, hk57, Hf⟩ := sq_jn_e Hf
              have Jk57 : ∀ (b55 : Nat → Int32) (b56 : Nat → Int32), k57 b55 b56 = some (nvt_side, nvt_fixed, nvt_modules) → ∀ (H : Heap) (locs : List Loc), va_P (dC, dI) cl_All (ww_Md_frame qt qt_fixed qt_modules qt_checkBytes qt_blocks qt_data qt_tells qt_segmentModes qt_segmentLengths qt_modes qt_takes qt_bytes qt_words qt_block qt_tried qt_values qt_system qt_solved qt_places qt_generator qt_readBytes qt_readings ct_fixed ct_modules vt_thrown vt_length vt_version r1 vt_made vt_segments vt_bits vt_filled vt_readLength vt_at vt_all vt_fault vt_good b55 b56) H → va_D A (ww_Md_frame qt qt_fixed qt_modules qt_checkBytes qt_blocks qt_data qt_tells qt_segmentModes qt_segmentLengths qt_modes qt_takes qt_bytes qt_words qt_block qt_tried qt_values qt_system qt_solved qt_places qt_generator qt_readBytes qt_readings ct_fixed ct_modules vt_thrown vt_length vt_version r1 vt_made vt_segments vt_bits vt_filled vt_readLength vt_at vt_all vt_fault vt_good b55 b56) → va_S A s.heap H locs → ∀ ls : Array Slot, lv_has ls 6 [(0, .ref qt), (1, .int p1), (2, .int x18), (3, .int x50)] → W p l e (headSpec w_Md_frame rm_Md_frame).room s m (([.ref qt, .int p1] : List Value).toArray) below meth c H locs 0 0 (MQ below (qc_Md_frame dC dI A qt qt_fixed qt_modules qt_checkBytes qt_blocks qt_data qt_tells qt_segmentModes qt_segmentLengths qt_modes qt_takes qt_bytes qt_words qt_block qt_tried qt_values qt_system qt_solved qt_places qt_generator qt_readBytes qt_readings ct_fixed ct_modules vt_thrown vt_length vt_version nvt_side vt_made vt_segments vt_bits vt_filled vt_readLength vt_at vt_all vt_fault vt_good nvt_fixed nvt_modules) (([.ref qt, .int p1] : List Value).toArray) s 0 0 A) (F0 m 217 ls []) := by
                intro b55 b56 Hf H locs  hP hD hS ls hl
                rw [hk57] at Hf
                obtain ⟨x58, ex58, Hf⟩ := sq_bd_e Hf
                refine lv_iinc (v := x58) (lv' := [(3, .int x58), (0, .ref qt), (1, .int p1), (2, .int x18)]) hx hb d_Md_frame_217 hl (k := 3) rfl (by rw [ex58]; rfl) (by decide) rfl (fun ls hl => ?_)
                refine lv_goto (tgt := 134) hx hb d_Md_frame_220 (by decide) ?_
                exact ih2 x58 b55 b56 Hf _ _  hP hD hS _ (lv_sub hl [1, 2, 3, 0] rfl)
              have L3 : ∀ (m3 : Nat), ∀ (x59 : Int32) (b60 : Nat → Int32) (b61 : Nat → Int32), fn_Md_frame_L3 p1 n0 r1 x18 x50 k57 m3 x59 b60 b61 = some (nvt_side, nvt_fixed, nvt_modules) → ∀ (H : Heap) (locs : List Loc), va_P (dC, dI) cl_All (ww_Md_frame qt qt_fixed qt_modules qt_checkBytes qt_blocks qt_data qt_tells qt_segmentModes qt_segmentLengths qt_modes qt_takes qt_bytes qt_words qt_block qt_tried qt_values qt_system qt_solved qt_places qt_generator qt_readBytes qt_readings ct_fixed ct_modules vt_thrown vt_length vt_version r1 vt_made vt_segments vt_bits vt_filled vt_readLength vt_at vt_all vt_fault vt_good b60 b61) H → va_D A (ww_Md_frame qt qt_fixed qt_modules qt_checkBytes qt_blocks qt_data qt_tells qt_segmentModes qt_segmentLengths qt_modes qt_takes qt_bytes qt_words qt_block qt_tried qt_values qt_system qt_solved qt_places qt_generator qt_readBytes qt_readings ct_fixed ct_modules vt_thrown vt_length vt_version r1 vt_made vt_segments vt_bits vt_filled vt_readLength vt_at vt_all vt_fault vt_good b60 b61) → va_S A s.heap H locs → ∀ ls : Array Slot, lv_has ls 6 [(0, .ref qt), (1, .int p1), (2, .int x18), (3, .int x50), (4, .int x59)] → W p l e (headSpec w_Md_frame rm_Md_frame).room s m (([.ref qt, .int p1] : List Value).toArray) below meth c H locs 0 0 (MQ below (qc_Md_frame dC dI A qt qt_fixed qt_modules qt_checkBytes qt_blocks qt_data qt_tells qt_segmentModes qt_segmentLengths qt_modes qt_takes qt_bytes qt_words qt_block qt_tried qt_values qt_system qt_solved qt_places qt_generator qt_readBytes qt_readings ct_fixed ct_modules vt_thrown vt_length vt_version nvt_side vt_made vt_segments vt_bits vt_filled vt_readLength vt_at vt_all vt_fault vt_good nvt_fixed nvt_modules) (([.ref qt, .int p1] : List Value).toArray) s 0 0 A) (F0 m 147 ls []) := by
                intro m3
                induction m3 with
                | zero => intro x59 b60 b61 Hf; exact sq_none Hf
                | succ m3 ih3 =>
                  intro x59 b60 b61 Hf H locs  hP hD hS ls hl
                  replace Hf := (fn_Md_frame_L3_s p1 n0 r1 x18 x50 k57 m3 x59 b60 b61).symm.trans Hf
                  refine lv_iload hx hb d_Md_frame_147 (lv_at hl 4 rfl) ?_
                  refine lv_iload_n hx hb d_Md_frame_149 rfl (lv_at hl 2 rfl) ?_
                  refine lv_icmp_ge (tgt := 217) hx hb d_Md_frame_150 (by decide) (fun c62 => ?_) (fun c62 => ?_)
                  · replace Hf := sq_ite_t Hf c62
                    exact Jk57 b60 b61 Hf _ _  hP hD hS _ (lv_sub hl [0, 1, 2, 3] rfl)
                  · replace Hf := sq_ite_f Hf c62
                    refine lv_iload_n hx hb d_Md_frame_153 rfl (lv_at hl 3 rfl) ?_
                    obtain ⟨k64, hk64, Hf⟩ := sq_jn_e Hf
                    have Jk64 : ∀ (x63 : Int32), k64 x63 = some (nvt_side, nvt_fixed, nvt_modules) → ∀ (H : Heap) (locs : List Loc), va_P (dC, dI) cl_All (ww_Md_frame qt qt_fixed qt_modules qt_checkBytes qt_blocks qt_data qt_tells qt_segmentModes qt_segmentLengths qt_modes qt_takes qt_bytes qt_words qt_block qt_tried qt_values qt_system qt_solved qt_places qt_generator qt_readBytes qt_readings ct_fixed ct_modules vt_thrown vt_length vt_version r1 vt_made vt_segments vt_bits vt_filled vt_readLength vt_at vt_all vt_fault vt_good b60 b61) H → va_D A (ww_Md_frame qt qt_fixed qt_modules qt_checkBytes qt_blocks qt_data qt_tells qt_segmentModes qt_segmentLengths qt_modes qt_takes qt_bytes qt_words qt_block qt_tried qt_values qt_system qt_solved qt_places qt_generator qt_readBytes qt_readings ct_fixed ct_modules vt_thrown vt_length vt_version r1 vt_made vt_segments vt_bits vt_filled vt_readLength vt_at vt_all vt_fault vt_good b60 b61) → va_S A s.heap H locs → ∀ ls : Array Slot, lv_has ls 6 [(0, .ref qt), (1, .int p1), (2, .int x18), (3, .int x50), (4, .int x59)] → W p l e (headSpec w_Md_frame rm_Md_frame).room s m (([.ref qt, .int p1] : List Value).toArray) below meth c H locs 0 0 (MQ below (qc_Md_frame dC dI A qt qt_fixed qt_modules qt_checkBytes qt_blocks qt_data qt_tells qt_segmentModes qt_segmentLengths qt_modes qt_takes qt_bytes qt_words qt_block qt_tried qt_values qt_system qt_solved qt_places qt_generator qt_readBytes qt_readings ct_fixed ct_modules vt_thrown vt_length vt_version nvt_side vt_made vt_segments vt_bits vt_filled vt_readLength vt_at vt_all vt_fault vt_good nvt_fixed nvt_modules) (([.ref qt, .int p1] : List Value).toArray) s 0 0 A) (F0 m 187 ls [.int x63]) := by
                      intro x63 Hf H locs  hP hD hS ls hl
                      rw [hk64] at Hf
                      refine lv_istore (lv' := [(5, .int x63), (0, .ref qt), (1, .int p1), (2, .int x18), (3, .int x50), (4, .int x59)]) hx hb d_Md_frame_187 hl (by decide) rfl (fun ls hl => ?_)
                      refine lv_iload hx hb d_Md_frame_189 (lv_at hl 0 rfl) ?_
                      obtain ⟨k67, hk67, Hf⟩ := sq_jn_e Hf
                      have Jk67 : ∀ (b65 : Nat → Int32) (b66 : Nat → Int32), k67 b65 b66 = some (nvt_side, nvt_fixed, nvt_modules) → ∀ (H : Heap) (locs : List Loc), va_P (dC, dI) cl_All (ww_Md_frame qt qt_fixed qt_modules qt_checkBytes qt_blocks qt_data qt_tells qt_segmentModes qt_segmentLengths qt_modes qt_takes qt_bytes qt_words qt_block qt_tried qt_values qt_system qt_solved qt_places qt_generator qt_readBytes qt_readings ct_fixed ct_modules vt_thrown vt_length vt_version r1 vt_made vt_segments vt_bits vt_filled vt_readLength vt_at vt_all vt_fault vt_good b65 b66) H → va_D A (ww_Md_frame qt qt_fixed qt_modules qt_checkBytes qt_blocks qt_data qt_tells qt_segmentModes qt_segmentLengths qt_modes qt_takes qt_bytes qt_words qt_block qt_tried qt_values qt_system qt_solved qt_places qt_generator qt_readBytes qt_readings ct_fixed ct_modules vt_thrown vt_length vt_version r1 vt_made vt_segments vt_bits vt_filled vt_readLength vt_at vt_all vt_fault vt_good b65 b66) → va_S A s.heap H locs → ∀ ls : Array Slot, lv_has ls 6 [(0, .ref qt), (1, .int p1), (2, .int x18), (3, .int x50), (4, .int x59)] → W p l e (headSpec w_Md_frame rm_Md_frame).room s m (([.ref qt, .int p1] : List Value).toArray) below meth c H locs 0 0 (MQ below (qc_Md_frame dC dI A qt qt_fixed qt_modules qt_checkBytes qt_blocks qt_data qt_tells qt_segmentModes qt_segmentLengths qt_modes qt_takes qt_bytes qt_words qt_block qt_tried qt_values qt_system qt_solved qt_places qt_generator qt_readBytes qt_readings ct_fixed ct_modules vt_thrown vt_length vt_version nvt_side vt_made vt_segments vt_bits vt_filled vt_readLength vt_at vt_all vt_fault vt_good nvt_fixed nvt_modules) (([.ref qt, .int p1] : List Value).toArray) s 0 0 A) (F0 m 211 ls []) := by
                        intro b65 b66 Hf H locs  hP hD hS ls hl
                        rw [hk67] at Hf
                        obtain ⟨x68, ex68, Hf⟩ := sq_bd_e Hf
                        refine lv_iinc (v := x68) (lv' := [(4, .int x68), (0, .ref qt), (1, .int p1), (2, .int x18), (3, .int x50)]) hx hb d_Md_frame_211 hl (k := 4) rfl (by rw [ex68]; rfl) (by decide) rfl (fun ls hl => ?_)
                        refine lv_goto (tgt := 147) hx hb d_Md_frame_214 (by decide) ?_
                        exact ih3 x68 b65 b66 Hf _ _  hP hD hS _ (lv_sub hl [1, 2, 3, 4, 0] rfl)
                      refine lv_if_ne (tgt := 211) hx hb d_Md_frame_191 (by decide) (fun c69 => ?_) (fun c69 => ?_)
                      · replace Hf := sq_ite_f Hf c69
                        exact Jk67 b60 b61 Hf _ _  hP hD hS _ (lv_sub hl [1, 2, 3, 4, 5] rfl)
                      · replace Hf := sq_ite_t Hf c69
                        refine lv_aload_n hx hb d_Md_frame_194 rfl (lv_at hl 1 rfl) ?_
                        refine lv_iload_n hx hb d_Md_frame_195 rfl (lv_at hl 2 rfl) ?_
                        refine lv_iload_n hx hb d_Md_frame_196 rfl (lv_at hl 4 rfl) ?_
                        obtain ⟨r70, hc71, Hf⟩ := sq_cb1_e Hf
                        refine sq_roi (va_runS (As := [.int p1, .int x50]) (rest := [.ref qt]) ⟨hx, hb, hml, hown, ht⟩ (kt_Md_alignmentAt l dC dI p1 x50 r70 hc71) (va_cwS 2 ht (sq_gS tb_1307 tb_1308 tb_11 tb_1309) rfl rfl rfl (by decide +kernel) ⟨Nat.le_of_ble_eq_true rfl, Nat.le_of_ble_eq_true rfl⟩) (sq_roS (hP.sub (ws' := ([] : va_W)) [] rfl) (hK.sub (tys' := []) [] rfl)) rfl rfl hl.1 rfl (lv_room (Nat.le_of_ble_eq_true rfl)) d_Md_frame_197 ⟨Nat.le_of_ble_eq_true rfl, Nat.le_of_ble_eq_true rfl⟩) ?_
                        refine lv_iload_n hx hb d_Md_frame_200 rfl (lv_at hl 2 rfl) ?_
                        refine lv_iload hx hb d_Md_frame_201 (lv_at hl 5 rfl) ?_
                        obtain ⟨r72, hc73, Hf⟩ := sq_cb1_e Hf
                        refine sq_roi (va_runS (As := [.int p1, .int x59]) (rest := [.int r70, .ref qt]) ⟨hx, hb, hml, hown, ht⟩ (kt_Md_alignmentAt l dC dI p1 x59 r72 hc73) (va_cwS 2 ht (sq_gS tb_1307 tb_1308 tb_11 tb_1309) rfl rfl rfl (by decide +kernel) ⟨Nat.le_of_ble_eq_true rfl, Nat.le_of_ble_eq_true rfl⟩) (sq_roS (hP.sub (ws' := ([] : va_W)) [] rfl) (hK.sub (tys' := []) [] rfl)) rfl rfl hl.1 rfl (lv_room (Nat.le_of_ble_eq_true rfl)) d_Md_frame_203 ⟨Nat.le_of_ble_eq_true rfl, Nat.le_of_ble_eq_true rfl⟩) ?_
                        refine lv_iconst (v := (2 : Int32)) hx hb d_Md_frame_206 (by decide) ?_
                        refine lv_iconst (v := (0 : Int32)) hx hb d_Md_frame_207 (by decide) ?_
                        obtain ⟨b74, b75, hc76, Hf⟩ := sq_cb2_e Hf
                        refine sq_rwv (wn := (ww_Md_frame qt qt_fixed qt_modules qt_checkBytes qt_blocks qt_data qt_tells qt_segmentModes qt_segmentLengths qt_modes qt_takes qt_bytes qt_words qt_block qt_tried qt_values qt_system qt_solved qt_places qt_generator qt_readBytes qt_readings ct_fixed ct_modules vt_thrown vt_length vt_version r1 vt_made vt_segments vt_bits vt_filled vt_readLength vt_at vt_all vt_fault vt_good b74 b75)) (va_runV (As := [.int r70, .int r72, .int (2 : Int32), .int (0 : Int32)]) (rest := []) ⟨hx, hb, hml, hown, ht⟩ (kt_Md_square l dC dI qt qt_fixed qt_modules qt_checkBytes qt_blocks qt_data qt_tells qt_segmentModes qt_segmentLengths qt_modes qt_takes qt_bytes qt_words qt_block qt_tried qt_values qt_system qt_solved qt_places qt_generator qt_readBytes qt_readings ct_fixed ct_modules vt_thrown vt_length vt_version r1 vt_made vt_segments vt_bits vt_filled vt_readLength vt_at vt_all vt_fault vt_good b60 b61 r70 r72 (2 : Int32) (0 : Int32) H.size n0 b74 b75 hc76) (cwV 4 ht (sq_gV tb_1300 tb_1302 sl_50 tb_11 tb_1303) rfl rfl rfl (by decide +kernel) ⟨Nat.le_of_ble_eq_true rfl, Nat.le_of_ble_eq_true rfl⟩) (sq_rwV (hP.sub (ws' := (ww_Md_square qt qt_fixed qt_modules qt_checkBytes qt_blocks qt_data qt_tells qt_segmentModes qt_segmentLengths qt_modes qt_takes qt_bytes qt_words qt_block qt_tried qt_values qt_system qt_solved qt_places qt_generator qt_readBytes qt_readings ct_fixed ct_modules vt_thrown vt_length vt_version r1 vt_made vt_segments vt_bits vt_filled vt_readLength vt_at vt_all vt_fault vt_good b60 b61)) [0, 1, 2] rfl) (hK.sub (tys' := [(ct_fixed, .int), (ct_modules, .int)]) [0, 1] rfl) (hD.sub (ws' := (ww_Md_square qt qt_fixed qt_modules qt_checkBytes qt_blocks qt_data qt_tells qt_segmentModes qt_segmentLengths qt_modes qt_takes qt_bytes qt_words qt_block qt_tried qt_values qt_system qt_solved qt_places qt_generator qt_readBytes qt_readings ct_fixed ct_modules vt_thrown vt_length vt_version r1 vt_made vt_segments vt_bits vt_filled vt_readLength vt_at vt_all vt_fault vt_good b60 b61)) [0, 1, 2] (by decide) rfl) (va_recv hK hP (ci := 10) (q0 := 0) rfl rfl)) rfl rfl hl.1 rfl (lv_room (Nat.le_of_ble_eq_true rfl)) d_Md_frame_208 ⟨Nat.le_of_ble_eq_true rfl, Nat.le_of_ble_eq_true rfl⟩) hP hD hS hA [0, 1, 2] [] [0, 1, 2] rfl rfl (by decide) (by decide) rfl (by decide) (fun H locs hP hD hS => ?_)
                        exact Jk67 b74 b75 Hf _ _  hP hD hS _ (lv_sub hl [1, 2, 3, 4, 5] rfl)
                    obtain ⟨k77, hk77, Hf⟩ := sq_jn_e Hf
                    have Jk77 : ∀ (_u : Unit), k77 _u = some (nvt_side, nvt_fixed, nvt_modules) → ∀ (H : Heap) (locs : List Loc), va_P (dC, dI) cl_All (ww_Md_frame qt qt_fixed qt_modules qt_checkBytes qt_blocks qt_data qt_tells qt_segmentModes qt_segmentLengths qt_modes qt_takes qt_bytes qt_words qt_block qt_tried qt_values qt_system qt_solved qt_places qt_generator qt_readBytes qt_readings ct_fixed ct_modules vt_thrown vt_length vt_version r1 vt_made vt_segments vt_bits vt_filled vt_readLength vt_at vt_all vt_fault vt_good b60 b61) H → va_D A (ww_Md_frame qt qt_fixed qt_modules qt_checkBytes qt_blocks qt_data qt_tells qt_segmentModes qt_segmentLengths qt_modes qt_takes qt_bytes qt_words qt_block qt_tried qt_values qt_system qt_solved qt_places qt_generator qt_readBytes qt_readings ct_fixed ct_modules vt_thrown vt_length vt_version r1 vt_made vt_segments vt_bits vt_filled vt_readLength vt_at vt_all vt_fault vt_good b60 b61) → va_S A s.heap H locs → ∀ ls : Array Slot, lv_has ls 6 [(0, .ref qt), (1, .int p1), (2, .int x18), (3, .int x50), (4, .int x59)] → W p l e (headSpec w_Md_frame rm_Md_frame).room s m (([.ref qt, .int p1] : List Value).toArray) below meth c H locs 0 0 (MQ below (qc_Md_frame dC dI A qt qt_fixed qt_modules qt_checkBytes qt_blocks qt_data qt_tells qt_segmentModes qt_segmentLengths qt_modes qt_takes qt_bytes qt_words qt_block qt_tried qt_values qt_system qt_solved qt_places qt_generator qt_readBytes qt_readings ct_fixed ct_modules vt_thrown vt_length vt_version nvt_side vt_made vt_segments vt_bits vt_filled vt_readLength vt_at vt_all vt_fault vt_good nvt_fixed nvt_modules) (([.ref qt, .int p1] : List Value).toArray) s 0 0 A) (F0 m 182 ls []) := by
                      intro _u Hf H locs  hP hD hS ls hl
                      rw [hk77] at Hf
                      refine lv_iconst (v := (1 : Int32)) hx hb d_Md_frame_182 (by decide) ?_
                      refine lv_goto (tgt := 187) hx hb d_Md_frame_183 (by decide) ?_
                      exact Jk64 (1 : Int32) Hf _ _  hP hD hS _ (lv_sub hl [0, 1, 2, 3, 4] rfl)
                    obtain ⟨k78, hk78, Hf⟩ := sq_jn_e Hf
                    have Jk78 : ∀ (_u : Unit), k78 _u = some (nvt_side, nvt_fixed, nvt_modules) → ∀ (H : Heap) (locs : List Loc), va_P (dC, dI) cl_All (ww_Md_frame qt qt_fixed qt_modules qt_checkBytes qt_blocks qt_data qt_tells qt_segmentModes qt_segmentLengths qt_modes qt_takes qt_bytes qt_words qt_block qt_tried qt_values qt_system qt_solved qt_places qt_generator qt_readBytes qt_readings ct_fixed ct_modules vt_thrown vt_length vt_version r1 vt_made vt_segments vt_bits vt_filled vt_readLength vt_at vt_all vt_fault vt_good b60 b61) H → va_D A (ww_Md_frame qt qt_fixed qt_modules qt_checkBytes qt_blocks qt_data qt_tells qt_segmentModes qt_segmentLengths qt_modes qt_takes qt_bytes qt_words qt_block qt_tried qt_values qt_system qt_solved qt_places qt_generator qt_readBytes qt_readings ct_fixed ct_modules vt_thrown vt_length vt_version r1 vt_made vt_segments vt_bits vt_filled vt_readLength vt_at vt_all vt_fault vt_good b60 b61) → va_S A s.heap H locs → ∀ ls : Array Slot, lv_has ls 6 [(0, .ref qt), (1, .int p1), (2, .int x18), (3, .int x50), (4, .int x59)] → W p l e (headSpec w_Md_frame rm_Md_frame).room s m (([.ref qt, .int p1] : List Value).toArray) below meth c H locs 0 0 (MQ below (qc_Md_frame dC dI A qt qt_fixed qt_modules qt_checkBytes qt_blocks qt_data qt_tells qt_segmentModes qt_segmentLengths qt_modes qt_takes qt_bytes qt_words qt_block qt_tried qt_values qt_system qt_solved qt_places qt_generator qt_readBytes qt_readings ct_fixed ct_modules vt_thrown vt_length vt_version nvt_side vt_made vt_segments vt_bits vt_filled vt_readLength vt_at vt_all vt_fault vt_good nvt_fixed nvt_modules) (([.ref qt, .int p1] : List Value).toArray) s 0 0 A) (F0 m 170 ls []) := by
                      intro _u Hf H locs  hP hD hS ls hl
                      rw [hk78] at Hf
                      refine lv_iload_n hx hb d_Md_frame_170 rfl (lv_at hl 3 rfl) ?_
                      refine lv_iload_n hx hb d_Md_frame_171 rfl (lv_at hl 2 rfl) ?_
                      refine lv_iconst (v := (1 : Int32)) hx hb d_Md_frame_172 (by decide) ?_
                      refine lv_isub hx hb d_Md_frame_173 ?_
                      obtain ⟨k79, hk79, Hf⟩ := sq_jn_e Hf
                      have Jk79 : ∀ (_u : Unit), k79 _u = some (nvt_side, nvt_fixed, nvt_modules) → ∀ (H : Heap) (locs : List Loc), va_P (dC, dI) cl_All (ww_Md_frame qt qt_fixed qt_modules qt_checkBytes qt_blocks qt_data qt_tells qt_segmentModes qt_segmentLengths qt_modes qt_takes qt_bytes qt_words qt_block qt_tried qt_values qt_system qt_solved qt_places qt_generator qt_readBytes qt_readings ct_fixed ct_modules vt_thrown vt_length vt_version r1 vt_made vt_segments vt_bits vt_filled vt_readLength vt_at vt_all vt_fault vt_good b60 b61) H → va_D A (ww_Md_frame qt qt_fixed qt_modules qt_checkBytes qt_blocks qt_data qt_tells qt_segmentModes qt_segmentLengths qt_modes qt_takes qt_bytes qt_words qt_block qt_tried qt_values qt_system qt_solved qt_places qt_generator qt_readBytes qt_readings ct_fixed ct_modules vt_thrown vt_length vt_version r1 vt_made vt_segments vt_bits vt_filled vt_readLength vt_at vt_all vt_fault vt_good b60 b61) → va_S A s.heap H locs → ∀ ls : Array Slot, lv_has ls 6 [(0, .ref qt), (1, .int p1), (2, .int x18), (3, .int x50), (4, .int x59)] → W p l e (headSpec w_Md_frame rm_Md_frame).room s m (([.ref qt, .int p1] : List Value).toArray) below meth c H locs 0 0 (MQ below (qc_Md_frame dC dI A qt qt_fixed qt_modules qt_checkBytes qt_blocks qt_data qt_tells qt_segmentModes qt_segmentLengths qt_modes qt_takes qt_bytes qt_words qt_block qt_tried qt_values qt_system qt_solved qt_places qt_generator qt_readBytes qt_readings ct_fixed ct_modules vt_thrown vt_length vt_version nvt_side vt_made vt_segments vt_bits vt_filled vt_readLength vt_at vt_all vt_fault vt_good nvt_fixed nvt_modules) (([.ref qt, .int p1] : List Value).toArray) s 0 0 A) (F0 m 186 ls []) := by
                        intro _u Hf H locs  hP hD hS ls hl
                        rw [hk79] at Hf
                        refine lv_iconst (v := (0 : Int32)) hx hb d_Md_frame_186 (by decide) ?_
                        exact Jk64 (0 : Int32) Hf _ _  hP hD hS _ (lv_sub hl [0, 1, 2, 3, 4] rfl)
                      refine lv_icmp_ne (tgt := 186) hx hb d_Md_frame_174 (by decide) (fun c80 => ?_) (fun c80 => ?_)
                      · replace Hf := sq_ite_f Hf c80
                        exact Jk79 () Hf _ _  hP hD hS _ (lv_sub hl [0, 1, 2, 3, 4] rfl)
                      · replace Hf := sq_ite_t Hf c80
                        refine lv_iload hx hb d_Md_frame_177 (lv_at hl 4 rfl) ?_
                        refine lv_if_ne (tgt := 186) hx hb d_Md_frame_179 (by decide) (fun c81 => ?_) (fun c81 => ?_)
                        · replace Hf := sq_ite_f Hf c81
                          exact Jk79 () Hf _ _  hP hD hS _ (lv_sub hl [0, 1, 2, 3, 4] rfl)
                        · replace Hf := sq_ite_t Hf c81
                          exact Jk77 () Hf _ _  hP hD hS _ (lv_sub hl [0, 1, 2, 3, 4] rfl)
                    refine lv_if_ne (tgt := 170) hx hb d_Md_frame_154 (by decide) (fun c82 => ?_) (fun c82 => ?_)
                    · replace Hf := sq_ite_f Hf c82
                      exact Jk78 () Hf _ _  hP hD hS _ (lv_sub hl [0, 1, 2, 3, 4] rfl)
                    · replace Hf := sq_ite_t Hf c82
                      refine lv_iload hx hb d_Md_frame_157 (lv_at hl 4 rfl) ?_
                      refine lv_if_eq (tgt := 182) hx hb d_Md_frame_159 (by decide) (fun c83 => ?_) (fun c83 => ?_)
                      · replace Hf := sq_ite_t Hf c83
                        exact Jk77 () Hf _ _  hP hD hS _ (lv_sub hl [0, 1, 2, 3, 4] rfl)
                      · replace Hf := sq_ite_f Hf c83
                        refine lv_iload hx hb d_Md_frame_162 (lv_at hl 4 rfl) ?_
                        refine lv_iload_n hx hb d_Md_frame_164 rfl (lv_at hl 2 rfl) ?_
                        refine lv_iconst (v := (1 : Int32)) hx hb d_Md_frame_165 (by decide) ?_
                        refine lv_isub hx hb d_Md_frame_166 ?_
                        refine lv_icmp_eq (tgt := 182) hx hb d_Md_frame_167 (by decide) (fun c84 => ?_) (fun c84 => ?_)
                        · replace Hf := sq_ite_t Hf c84
                          exact Jk77 () Hf _ _  hP hD hS _ (lv_sub hl [0, 1, 2, 3, 4] rfl)
                        · replace Hf := sq_ite_f Hf c84
                          exact Jk78 () Hf _ _  hP hD hS _ (lv_sub hl [0, 1, 2, 3, 4] rfl)
              exact L3 n0 (0 : Int32) b51 b52 Hf _ _  hP hD hS _ (lv_sub hl [1, 2, 3, 4, 0] rfl)
      exact L2 n0 (0 : Int32) b15 b16 Hf _ _  hP hD hS _ (lv_sub hl [2, 3, 1, 0] rfl)
    have L4 : ∀ (m4 : Nat), ∀ (x85 : Int32) (b86 : Nat → Int32) (b87 : Nat → Int32), fn_Md_frame_L4 r1 k8 m4 x85 b86 b87 = some (nvt_side, nvt_fixed, nvt_modules) → ∀ (H : Heap) (locs : List Loc), va_P (dC, dI) cl_All (ww_Md_frame qt qt_fixed qt_modules qt_checkBytes qt_blocks qt_data qt_tells qt_segmentModes qt_segmentLengths qt_modes qt_takes qt_bytes qt_words qt_block qt_tried qt_values qt_system qt_solved qt_places qt_generator qt_readBytes qt_readings ct_fixed ct_modules vt_thrown vt_length vt_version r1 vt_made vt_segments vt_bits vt_filled vt_readLength vt_at vt_all vt_fault vt_good b86 b87) H → va_D A (ww_Md_frame qt qt_fixed qt_modules qt_checkBytes qt_blocks qt_data qt_tells qt_segmentModes qt_segmentLengths qt_modes qt_takes qt_bytes qt_words qt_block qt_tried qt_values qt_system qt_solved qt_places qt_generator qt_readBytes qt_readings ct_fixed ct_modules vt_thrown vt_length vt_version r1 vt_made vt_segments vt_bits vt_filled vt_readLength vt_at vt_all vt_fault vt_good b86 b87) → va_S A s.heap H locs → ∀ ls : Array Slot, lv_has ls 6 [(0, .ref qt), (1, .int p1), (2, .int x85)] → W p l e (headSpec w_Md_frame rm_Md_frame).room s m (([.ref qt, .int p1] : List Value).toArray) below meth c H locs 0 0 (MQ below (qc_Md_frame dC dI A qt qt_fixed qt_modules qt_checkBytes qt_blocks qt_data qt_tells qt_segmentModes qt_segmentLengths qt_modes qt_takes qt_bytes qt_words qt_block qt_tried qt_values qt_system qt_solved qt_places qt_generator qt_readBytes qt_readings ct_fixed ct_modules vt_thrown vt_length vt_version nvt_side vt_made vt_segments vt_bits vt_filled vt_readLength vt_at vt_all vt_fault vt_good nvt_fixed nvt_modules) (([.ref qt, .int p1] : List Value).toArray) s 0 0 A) (F0 m 41 ls []) := by
      intro m4
      induction m4 with
      | zero => intro x85 b86 b87 Hf; exact sq_none Hf
      | succ m4 ih4 =>
        intro x85 b86 b87 Hf H locs  hP hD hS ls hl
        replace Hf := (fn_Md_frame_L4_s r1 k8 m4 x85 b86 b87).symm.trans Hf
        refine lv_iload_n hx hb d_Md_frame_41 rfl (lv_at hl 2 rfl) ?_
        refine lv_aload_n hx hb d_Md_frame_42 rfl (lv_at hl 0 rfl) ?_
        refine va_get (D := (dC, dI)) (ci := 10) (v := .int r1) (C := R_Md) (T := F_Md) (N := 34) hx hb ht i_Md hown hK hP 0 rfl rfl 8 (by decide) (ht _ tb_1070) (fun _ h9 => h9) rfl d_Md_frame_43 ?_
        refine lv_icmp_ge (tgt := 91) hx hb d_Md_frame_46 (by decide) (fun c88 => ?_) (fun c88 => ?_)
        · replace Hf := sq_ite_t Hf c88
          exact Jk8 b86 b87 Hf _ _  hP hD hS _ (lv_sub hl [0, 1] rfl)
        · replace Hf := sq_ite_f Hf c88
          refine lv_aload_n hx hb d_Md_frame_49 rfl (lv_at hl 0 rfl) ?_
          refine lv_iload_n hx hb d_Md_frame_50 rfl (lv_at hl 2 rfl) ?_
          refine lv_bipush (v := (6 : Int32)) hx hb d_Md_frame_51 (by decide) ?_
          refine lv_iload_n hx hb d_Md_frame_53 rfl (lv_at hl 2 rfl) ?_
          refine lv_iconst (v := (2 : Int32)) hx hb d_Md_frame_54 (by decide) ?_
          refine lv_irem hx hb d_Md_frame_55 (by decide) ?_
          obtain ⟨x89, ex89, Hf⟩ := sq_bd_e Hf
          refine sq_top ex89 ?_
          obtain ⟨k91, hk91, Hf⟩ := sq_jn_e Hf
          have Jk91 : ∀ (x90 : Int32), k91 x90 = some (nvt_side, nvt_fixed, nvt_modules) → ∀ (H : Heap) (locs : List Loc), va_P (dC, dI) cl_All (ww_Md_frame qt qt_fixed qt_modules qt_checkBytes qt_blocks qt_data qt_tells qt_segmentModes qt_segmentLengths qt_modes qt_takes qt_bytes qt_words qt_block qt_tried qt_values qt_system qt_solved qt_places qt_generator qt_readBytes qt_readings ct_fixed ct_modules vt_thrown vt_length vt_version r1 vt_made vt_segments vt_bits vt_filled vt_readLength vt_at vt_all vt_fault vt_good b86 b87) H → va_D A (ww_Md_frame qt qt_fixed qt_modules qt_checkBytes qt_blocks qt_data qt_tells qt_segmentModes qt_segmentLengths qt_modes qt_takes qt_bytes qt_words qt_block qt_tried qt_values qt_system qt_solved qt_places qt_generator qt_readBytes qt_readings ct_fixed ct_modules vt_thrown vt_length vt_version r1 vt_made vt_segments vt_bits vt_filled vt_readLength vt_at vt_all vt_fault vt_good b86 b87) → va_S A s.heap H locs → ∀ ls : Array Slot, lv_has ls 6 [(0, .ref qt), (1, .int p1), (2, .int x85)] → W p l e (headSpec w_Md_frame rm_Md_frame).room s m (([.ref qt, .int p1] : List Value).toArray) below meth c H locs 0 0 (MQ below (qc_Md_frame dC dI A qt qt_fixed qt_modules qt_checkBytes qt_blocks qt_data qt_tells qt_segmentModes qt_segmentLengths qt_modes qt_takes qt_bytes qt_words qt_block qt_tried qt_values qt_system qt_solved qt_places qt_generator qt_readBytes qt_readings ct_fixed ct_modules vt_thrown vt_length vt_version nvt_side vt_made vt_segments vt_bits vt_filled vt_readLength vt_at vt_all vt_fault vt_good nvt_fixed nvt_modules) (([.ref qt, .int p1] : List Value).toArray) s 0 0 A) (F0 m 64 ls [.int x90, .int (6 : Int32), .int x85, .ref qt]) := by
            intro x90 Hf H locs  hP hD hS ls hl
            rw [hk91] at Hf
            obtain ⟨b92, b93, hc94, Hf⟩ := sq_cb2_e Hf
            refine sq_rwv (wn := (ww_Md_frame qt qt_fixed qt_modules qt_checkBytes qt_blocks qt_data qt_tells qt_segmentModes qt_segmentLengths qt_modes qt_takes qt_bytes qt_words qt_block qt_tried qt_values qt_system qt_solved qt_places qt_generator qt_readBytes qt_readings ct_fixed ct_modules vt_thrown vt_length vt_version r1 vt_made vt_segments vt_bits vt_filled vt_readLength vt_at vt_all vt_fault vt_good b92 b93)) (va_runV (As := [.int x85, .int (6 : Int32), .int x90]) (rest := []) ⟨hx, hb, hml, hown, ht⟩ (kt_Md_fix l dC dI qt qt_fixed qt_modules qt_checkBytes qt_blocks qt_data qt_tells qt_segmentModes qt_segmentLengths qt_modes qt_takes qt_bytes qt_words qt_block qt_tried qt_values qt_system qt_solved qt_places qt_generator qt_readBytes qt_readings ct_fixed ct_modules vt_thrown vt_length vt_version r1 vt_made vt_segments vt_bits vt_filled vt_readLength vt_at vt_all vt_fault vt_good b86 b87 x85 (6 : Int32) x90 H.size b92 b93 hc94) (cwV 3 ht (sq_gV tb_1292 tb_1294 sl_48 tb_11 tb_1295) rfl rfl rfl (by decide +kernel) ⟨Nat.le_of_ble_eq_true rfl, Nat.le_of_ble_eq_true rfl⟩) (sq_rwV (hP.sub (ws' := (ww_Md_fix qt qt_fixed qt_modules qt_checkBytes qt_blocks qt_data qt_tells qt_segmentModes qt_segmentLengths qt_modes qt_takes qt_bytes qt_words qt_block qt_tried qt_values qt_system qt_solved qt_places qt_generator qt_readBytes qt_readings ct_fixed ct_modules vt_thrown vt_length vt_version r1 vt_made vt_segments vt_bits vt_filled vt_readLength vt_at vt_all vt_fault vt_good b86 b87)) [0, 1, 2] rfl) (hK.sub (tys' := [(ct_fixed, .int), (ct_modules, .int)]) [0, 1] rfl) (hD.sub (ws' := (ww_Md_fix qt qt_fixed qt_modules qt_checkBytes qt_blocks qt_data qt_tells qt_segmentModes qt_segmentLengths qt_modes qt_takes qt_bytes qt_words qt_block qt_tried qt_values qt_system qt_solved qt_places qt_generator qt_readBytes qt_readings ct_fixed ct_modules vt_thrown vt_length vt_version r1 vt_made vt_segments vt_bits vt_filled vt_readLength vt_at vt_all vt_fault vt_good b86 b87)) [0, 1, 2] (by decide) rfl) (va_recv hK hP (ci := 10) (q0 := 0) rfl rfl)) rfl rfl hl.1 rfl (lv_room (Nat.le_of_ble_eq_true rfl)) d_Md_frame_64 ⟨Nat.le_of_ble_eq_true rfl, Nat.le_of_ble_eq_true rfl⟩) hP hD hS hA [0, 1, 2] [] [0, 1, 2] rfl rfl (by decide) (by decide) rfl (by decide) (fun H locs hP hD hS => ?_)
            refine lv_aload_n hx hb d_Md_frame_67 rfl (lv_at hl 0 rfl) ?_
            refine lv_bipush (v := (6 : Int32)) hx hb d_Md_frame_68 (by decide) ?_
            refine lv_iload_n hx hb d_Md_frame_70 rfl (lv_at hl 2 rfl) ?_
            refine lv_iload_n hx hb d_Md_frame_71 rfl (lv_at hl 2 rfl) ?_
            refine lv_iconst (v := (2 : Int32)) hx hb d_Md_frame_72 (by decide) ?_
            refine lv_irem hx hb d_Md_frame_73 (by decide) ?_
            obtain ⟨x95, ex95, Hf⟩ := sq_bd_e Hf
            refine sq_top ex95 ?_
            obtain ⟨k97, hk97, Hf⟩ := sq_jn_e Hf
            have Jk97 : ∀ (x96 : Int32), k97 x96 = some (nvt_side, nvt_fixed, nvt_modules) → ∀ (H : Heap) (locs : List Loc), va_P (dC, dI) cl_All (ww_Md_frame qt qt_fixed qt_modules qt_checkBytes qt_blocks qt_data qt_tells qt_segmentModes qt_segmentLengths qt_modes qt_takes qt_bytes qt_words qt_block qt_tried qt_values qt_system qt_solved qt_places qt_generator qt_readBytes qt_readings ct_fixed ct_modules vt_thrown vt_length vt_version r1 vt_made vt_segments vt_bits vt_filled vt_readLength vt_at vt_all vt_fault vt_good b92 b93) H → va_D A (ww_Md_frame qt qt_fixed qt_modules qt_checkBytes qt_blocks qt_data qt_tells qt_segmentModes qt_segmentLengths qt_modes qt_takes qt_bytes qt_words qt_block qt_tried qt_values qt_system qt_solved qt_places qt_generator qt_readBytes qt_readings ct_fixed ct_modules vt_thrown vt_length vt_version r1 vt_made vt_segments vt_bits vt_filled vt_readLength vt_at vt_all vt_fault vt_good b92 b93) → va_S A s.heap H locs → ∀ ls : Array Slot, lv_has ls 6 [(0, .ref qt), (1, .int p1), (2, .int x85)] → W p l e (headSpec w_Md_frame rm_Md_frame).room s m (([.ref qt, .int p1] : List Value).toArray) below meth c H locs 0 0 (MQ below (qc_Md_frame dC dI A qt qt_fixed qt_modules qt_checkBytes qt_blocks qt_data qt_tells qt_segmentModes qt_segmentLengths qt_modes qt_takes qt_bytes qt_words qt_block qt_tried qt_values qt_system qt_solved qt_places qt_generator qt_readBytes qt_readings ct_fixed ct_modules vt_thrown vt_length vt_version nvt_side vt_made vt_segments vt_bits vt_filled vt_readLength vt_at vt_all vt_fault vt_good nvt_fixed nvt_modules) (([.ref qt, .int p1] : List Value).toArray) s 0 0 A) (F0 m 82 ls [.int x96, .int x85, .int (6 : Int32), .ref qt]) := by
              intro x96 Hf H locs  hP hD hS ls hl
              rw [hk97] at Hf
              obtain ⟨b98, b99, hc100, Hf⟩ := sq_cb2_e Hf
              refine sq_rwv (wn := (ww_Md_frame qt qt_fixed qt_modules qt_checkBytes qt_blocks qt_data qt_tells qt_segmentModes qt_segmentLengths qt_modes qt_takes qt_bytes qt_words qt_block qt_tried qt_values qt_system qt_solved qt_places qt_generator qt_readBytes qt_readings ct_fixed ct_modules vt_thrown vt_length vt_version r1 vt_made vt_segments vt_bits vt_filled vt_readLength vt_at vt_all vt_fault vt_good b98 b99)) (va_runV (As := [.int (6 : Int32), .int x85, .int x96]) (rest := []) ⟨hx, hb, hml, hown, ht⟩ (kt_Md_fix l dC dI qt qt_fixed qt_modules qt_checkBytes qt_blocks qt_data qt_tells qt_segmentModes qt_segmentLengths qt_modes qt_takes qt_bytes qt_words qt_block qt_tried qt_values qt_system qt_solved qt_places qt_generator qt_readBytes qt_readings ct_fixed ct_modules vt_thrown vt_length vt_version r1 vt_made vt_segments vt_bits vt_filled vt_readLength vt_at vt_all vt_fault vt_good b92 b93 (6 : Int32) x85 x96 H.size b98 b99 hc100) (cwV 3 ht (sq_gV tb_1292 tb_1294 sl_48 tb_11 tb_1295) rfl rfl rfl (by decide +kernel) ⟨Nat.le_of_ble_eq_true rfl, Nat.le_of_ble_eq_true rfl⟩) (sq_rwV (hP.sub (ws' := (ww_Md_fix qt qt_fixed qt_modules qt_checkBytes qt_blocks qt_data qt_tells qt_segmentModes qt_segmentLengths qt_modes qt_takes qt_bytes qt_words qt_block qt_tried qt_values qt_system qt_solved qt_places qt_generator qt_readBytes qt_readings ct_fixed ct_modules vt_thrown vt_length vt_version r1 vt_made vt_segments vt_bits vt_filled vt_readLength vt_at vt_all vt_fault vt_good b92 b93)) [0, 1, 2] rfl) (hK.sub (tys' := [(ct_fixed, .int), (ct_modules, .int)]) [0, 1] rfl) (hD.sub (ws' := (ww_Md_fix qt qt_fixed qt_modules qt_checkBytes qt_blocks qt_data qt_tells qt_segmentModes qt_segmentLengths qt_modes qt_takes qt_bytes qt_words qt_block qt_tried qt_values qt_system qt_solved qt_places qt_generator qt_readBytes qt_readings ct_fixed ct_modules vt_thrown vt_length vt_version r1 vt_made vt_segments vt_bits vt_filled vt_readLength vt_at vt_all vt_fault vt_good b92 b93)) [0, 1, 2] (by decide) rfl) (va_recv hK hP (ci := 10) (q0 := 0) rfl rfl)) rfl rfl hl.1 rfl (lv_room (Nat.le_of_ble_eq_true rfl)) d_Md_frame_82 ⟨Nat.le_of_ble_eq_true rfl, Nat.le_of_ble_eq_true rfl⟩) hP hD hS hA [0, 1, 2] [] [0, 1, 2] rfl rfl (by decide) (by decide) rfl (by decide) (fun H locs hP hD hS => ?_)
              obtain ⟨x101, ex101, Hf⟩ := sq_bd_e Hf
              refine lv_iinc (v := x101) (lv' := [(2, .int x101), (0, .ref qt), (1, .int p1)]) hx hb d_Md_frame_85 hl (k := 2) rfl (by rw [ex101]; rfl) (by decide) rfl (fun ls hl => ?_)
              refine lv_goto (tgt := 41) hx hb d_Md_frame_88 (by decide) ?_
              exact ih4 x101 b98 b99 Hf _ _  hP hD hS _ (lv_sub hl [1, 2, 0] rfl)
            refine lv_if_ne (tgt := 81) hx hb d_Md_frame_74 (by decide) (fun c102 => ?_) (fun c102 => ?_)
            · replace Hf := sq_ite_f Hf c102
              refine lv_iconst (v := (0 : Int32)) hx hb d_Md_frame_81 (by decide) ?_
              exact Jk97 (0 : Int32) Hf _ _  hP hD hS _ (lv_sub hl [0, 1, 2] rfl)
            · replace Hf := sq_ite_t Hf c102
              refine lv_iconst (v := (1 : Int32)) hx hb d_Md_frame_77 (by decide) ?_
              refine lv_goto (tgt := 82) hx hb d_Md_frame_78 (by decide) ?_
              exact Jk97 (1 : Int32) Hf _ _  hP hD hS _ (lv_sub hl [0, 1, 2] rfl)
          refine lv_if_ne (tgt := 63) hx hb d_Md_frame_56 (by decide) (fun c103 => ?_) (fun c103 => ?_)
          · replace Hf := sq_ite_f Hf c103
            refine lv_iconst (v := (0 : Int32)) hx hb d_Md_frame_63 (by decide) ?_
            exact Jk91 (0 : Int32) Hf _ _  hP hD hS _ (lv_sub hl [0, 1, 2] rfl)
          · replace Hf := sq_ite_t Hf c103
            refine lv_iconst (v := (1 : Int32)) hx hb d_Md_frame_59 (by decide) ?_
            refine lv_goto (tgt := 64) hx hb d_Md_frame_60 (by decide) ?_
            exact Jk91 (1 : Int32) Hf _ _  hP hD hS _ (lv_sub hl [0, 1, 2] rfl)
    exact L4 n0 (0 : Int32) b3 b4 Hf _ _  hP hD hS _ (lv_sub hl [1, 2, 0] rfl)
  have L5 : ∀ (m5 : Nat), ∀ (x104 : Int32) (b105 : Nat → Int32) (b106 : Nat → Int32), fn_Md_frame_L5 k5 m5 x104 b105 b106 = some (nvt_side, nvt_fixed, nvt_modules) → ∀ (H : Heap) (locs : List Loc), va_P (dC, dI) cl_All (ww_Md_frame qt qt_fixed qt_modules qt_checkBytes qt_blocks qt_data qt_tells qt_segmentModes qt_segmentLengths qt_modes qt_takes qt_bytes qt_words qt_block qt_tried qt_values qt_system qt_solved qt_places qt_generator qt_readBytes qt_readings ct_fixed ct_modules vt_thrown vt_length vt_version r1 vt_made vt_segments vt_bits vt_filled vt_readLength vt_at vt_all vt_fault vt_good b105 b106) H → va_D A (ww_Md_frame qt qt_fixed qt_modules qt_checkBytes qt_blocks qt_data qt_tells qt_segmentModes qt_segmentLengths qt_modes qt_takes qt_bytes qt_words qt_block qt_tried qt_values qt_system qt_solved qt_places qt_generator qt_readBytes qt_readings ct_fixed ct_modules vt_thrown vt_length vt_version r1 vt_made vt_segments vt_bits vt_filled vt_readLength vt_at vt_all vt_fault vt_good b105 b106) → va_S A s.heap H locs → ∀ ls : Array Slot, lv_has ls 6 [(0, .ref qt), (1, .int p1), (2, .int x104)] → W p l e (headSpec w_Md_frame rm_Md_frame).room s m (([.ref qt, .int p1] : List Value).toArray) below meth c H locs 0 0 (MQ below (qc_Md_frame dC dI A qt qt_fixed qt_modules qt_checkBytes qt_blocks qt_data qt_tells qt_segmentModes qt_segmentLengths qt_modes qt_takes qt_bytes qt_words qt_block qt_tried qt_values qt_system qt_solved qt_places qt_generator qt_readBytes qt_readings ct_fixed ct_modules vt_thrown vt_length vt_version nvt_side vt_made vt_segments vt_bits vt_filled vt_readLength vt_at vt_all vt_fault vt_good nvt_fixed nvt_modules) (([.ref qt, .int p1] : List Value).toArray) s 0 0 A) (F0 m 10 ls []) := by
    intro m5
    induction m5 with
    | zero => intro x104 b105 b106 Hf; exact sq_none Hf
    | succ m5 ih5 =>
      intro x104 b105 b106 Hf H locs  hP hD hS ls hl
      replace Hf := (fn_Md_frame_L5_s k5 m5 x104 b105 b106).symm.trans Hf
      refine lv_iload_n hx hb d_Md_frame_10 rfl (lv_at hl 2 rfl) ?_
      refine lv_aload_n hx hb d_Md_frame_11 rfl (lv_at hl 0 rfl) ?_
      refine va_get (D := (dC, dI)) (ci := 10) (v := .ref qt_modules) (C := R_Md) (T := F_Md) (N := 34) hx hb ht i_Md hown hK hP 0 rfl rfl 5 (by decide) (ht _ tb_1067) (fun _ h9 => h9) rfl d_Md_frame_12 ?_
      refine va_alen hx hb hK hP 2 1 rfl rfl (v := (31329 : Int32)) rfl d_Md_frame_15 ?_
      refine lv_icmp_ge (tgt := 39) hx hb d_Md_frame_16 (by decide) (fun c107 => ?_) (fun c107 => ?_)
      · replace Hf := sq_ite_t Hf c107
        exact Jk5 b105 b106 Hf _ _  hP hD hS _ (lv_sub hl [0, 1] rfl)
      · replace Hf := sq_ite_f Hf c107
        refine lv_aload_n hx hb d_Md_frame_19 rfl (lv_at hl 0 rfl) ?_
        refine va_get (D := (dC, dI)) (ci := 10) (v := .ref qt_modules) (C := R_Md) (T := F_Md) (N := 34) hx hb ht i_Md hown hK hP 0 rfl rfl 5 (by decide) (ht _ tb_1067) (fun _ h9 => h9) rfl d_Md_frame_20 ?_
        refine lv_iload_n hx hb d_Md_frame_23 rfl (lv_at hl 2 rfl) ?_
        refine lv_iconst (v := (0 : Int32)) hx hb d_Md_frame_24 (by decide) ?_
        obtain ⟨hi108, Hf⟩ := sq_gi_e Hf
        obtain ⟨b109, eb109, Hf⟩ := sq_bd_e Hf
        refine va_iast hx hb hK hP hD hS 2 1 rfl rfl hi108 d_Md_frame_25 (fun H locs hP hD hS => ?_)
        rw [← eb109] at hP hD
        replace hP : va_P (dC, dI) cl_All (ww_Md_frame qt qt_fixed qt_modules qt_checkBytes qt_blocks qt_data qt_tells qt_segmentModes qt_segmentLengths qt_modes qt_takes qt_bytes qt_words qt_block qt_tried qt_values qt_system qt_solved qt_places qt_generator qt_readBytes qt_readings ct_fixed ct_modules vt_thrown vt_length vt_version r1 vt_made vt_segments vt_bits vt_filled vt_readLength vt_at vt_all vt_fault vt_good b105 b109) H := hP
        replace hD : va_D A (ww_Md_frame qt qt_fixed qt_modules qt_checkBytes qt_blocks qt_data qt_tells qt_segmentModes qt_segmentLengths qt_modes qt_takes qt_bytes qt_words qt_block qt_tried qt_values qt_system qt_solved qt_places qt_generator qt_readBytes qt_readings ct_fixed ct_modules vt_thrown vt_length vt_version r1 vt_made vt_segments vt_bits vt_filled vt_readLength vt_at vt_all vt_fault vt_good b105 b109) := hD
        refine lv_aload_n hx hb d_Md_frame_26 rfl (lv_at hl 0 rfl) ?_
        refine va_get (D := (dC, dI)) (ci := 10) (v := .ref qt_fixed) (C := R_Md) (T := F_Md) (N := 34) hx hb ht i_Md hown hK hP 0 rfl rfl 6 (by decide) (ht _ tb_1068) (fun _ h9 => h9) rfl d_Md_frame_27 ?_
        refine lv_iload_n hx hb d_Md_frame_30 rfl (lv_at hl 2 rfl) ?_
        refine lv_iconst (v := (0 : Int32)) hx hb d_Md_frame_31 (by decide) ?_
        obtain ⟨hi110, Hf⟩ := sq_gi_e Hf
        obtain ⟨b111, eb111, Hf⟩ := sq_bd_e Hf
        refine va_iast hx hb hK hP hD hS 1 0 rfl rfl hi110 d_Md_frame_32 (fun H locs hP hD hS => ?_)
        rw [← eb111] at hP hD
        replace hP : va_P (dC, dI) cl_All (ww_Md_frame qt qt_fixed qt_modules qt_checkBytes qt_blocks qt_data qt_tells qt_segmentModes qt_segmentLengths qt_modes qt_takes qt_bytes qt_words qt_block qt_tried qt_values qt_system qt_solved qt_places qt_generator qt_readBytes qt_readings ct_fixed ct_modules vt_thrown vt_length vt_version r1 vt_made vt_segments vt_bits vt_filled vt_readLength vt_at vt_all vt_fault vt_good b111 b109) H := hP
        replace hD : va_D A (ww_Md_frame qt qt_fixed qt_modules qt_checkBytes qt_blocks qt_data qt_tells qt_segmentModes qt_segmentLengths qt_modes qt_takes qt_bytes qt_words qt_block qt_tried qt_values qt_system qt_solved qt_places qt_generator qt_readBytes qt_readings ct_fixed ct_modules vt_thrown vt_length vt_version r1 vt_made vt_segments vt_bits vt_filled vt_readLength vt_at vt_all vt_fault vt_good b111 b109) := hD
        obtain ⟨x112, ex112, Hf⟩ := sq_bd_e Hf
        refine lv_iinc (v := x112) (lv' := [(2, .int x112), (0, .ref qt), (1, .int p1)]) hx hb d_Md_frame_33 hl (k := 2) rfl (by rw [ex112]; rfl) (by decide) rfl (fun ls hl => ?_)
        refine lv_goto (tgt := 10) hx hb d_Md_frame_36 (by decide) ?_
        exact ih5 x112 b111 b109 Hf _ _  hP hD hS _ (lv_sub hl [1, 2, 0] rfl)
  exact L5 n0 (0 : Int32) vt_fixed vt_modules Hf _ _  hP hD hS _ (lv_sub hl [1, 2, 0] rfl)

def fn_Md_formNumber (p1 : Int32) (p2 : Int32) : Option (Int32) :=
  if p1 = 0 then (some (((8 : Int32) * (1 : Int32)) + p2)) else (if p1 = (1 : Int32) then (some (((8 : Int32) * (0 : Int32)) + p2)) else (if p1 = (2 : Int32) then (some (((8 : Int32) * (3 : Int32)) + p2)) else (some (((8 : Int32) * (2 : Int32)) + p2))))
def rm_Md_formNumber : Room := { frames := 0, cells := 0, slots := 0, locals := 0 }
abbrev qc_Md_formNumber (r0 : Int32) : Array Value → State → Outcome → State → Prop := vp_Si (fun r => r = r0)

set_option maxHeartbeats 4000000 in
set_option maxRecDepth 100000 in
theorem kt_Md_formNumber (l : Launch) (dC : Nat → ClassId) (dI : Nat → Nat → Nat) (p1 : Int32) (p2 : Int32) (r0 : Int32) (Hf : fn_Md_formNumber p1 p2 = some r0) : Met l y_Md_formNumber w_Md_formNumber rm_Md_formNumber (va_Pc [.int p1, .int p2] (fun U => va_P (dC, dI) cl_All ([] : va_W) U.heap ∧ va_K (dC, dI) cl_All [] U)) (qc_Md_formNumber r0) 0 0 (fun _ => False) := by
  refine Met.ofW (cc := prog_14_method_49_code) (maxL := 3) (ret := (some .int)) (by decide) rfl ?_
  intro p e s m args below meth c s₁ B hml hv
  obtain ⟨rfl, hP, hK⟩ := hv
  have hx := B.exec; have hb := B.bytes; have hr := B.returns; have hlocks := B.notSynchronized
  have ht : ∀ w ∈ lw_g, w.before _ s = true := fun w h => atoms_spec (ws := w_Md_formNumber) B.pre w (List.mem_cons_of_mem _ h)
  have hown : s.vm.findClass "SquareSymbolsModel" = some m.cls := findClass_of_methodNamed B.named
  have hl := lv_entry ([.int p1, .int p2]) (n := 3) (Nat.le_of_ble_eq_true rfl)
  rw [lg_entry_eq]
  generalize (lg_sl ([.int p1, .int p2]) ++ List.replicate (3 - (lg_sl ([.int p1, .int p2])).length) Slot.unset).toArray = ls at hl ⊢
  have hl : lv_has ls 3 [(0, .int p1), (1, .int p2)] := hl
  refine lv_iload_n hx hb d_Md_formNumber_0 rfl (lv_at hl 0 rfl) ?_
  refine lv_if_ne (tgt := 8) hx hb d_Md_formNumber_1 (by decide) (fun c1 => ?_) (fun c1 => ?_)
  · replace Hf := sq_ite_f Hf c1
    refine lv_iload_n hx hb d_Md_formNumber_8 rfl (lv_at hl 0 rfl) ?_
    refine lv_iconst (v := (1 : Int32)) hx hb d_Md_formNumber_9 (by decide) ?_
    refine lv_icmp_ne (tgt := 17) hx hb d_Md_formNumber_10 (by decide) (fun c2 => ?_) (fun c2 => ?_)
    · replace Hf := sq_ite_f Hf c2
      refine lv_iload_n hx hb d_Md_formNumber_17 rfl (lv_at hl 0 rfl) ?_
      refine lv_iconst (v := (2 : Int32)) hx hb d_Md_formNumber_18 (by decide) ?_
      refine lv_icmp_ne (tgt := 26) hx hb d_Md_formNumber_19 (by decide) (fun c3 => ?_) (fun c3 => ?_)
      · replace Hf := sq_ite_f Hf c3
        refine lv_iconst (v := (2 : Int32)) hx hb d_Md_formNumber_26 (by decide) ?_
        refine lv_istore_n (lv' := [(2, .int (2 : Int32)), (0, .int p1), (1, .int p2)]) hx hb d_Md_formNumber_27 rfl hl (by decide) rfl (fun ls hl => ?_)
        refine lv_bipush (v := (8 : Int32)) hx hb d_Md_formNumber_28 (by decide) ?_
        refine lv_iload_n hx hb d_Md_formNumber_30 rfl (lv_at hl 0 rfl) ?_
        refine lv_imul hx hb d_Md_formNumber_31 ?_
        refine lv_iload_n hx hb d_Md_formNumber_32 rfl (lv_at hl 2 rfl) ?_
        refine lv_iadd hx hb d_Md_formNumber_33 ?_
        have er := Option.some.inj Hf
        exact W.iret hx hb hr (fun t ht hW => ⟨_, rfl, er, ht⟩) (fun q h => by cases h) d_Md_formNumber_34
      · replace Hf := sq_ite_t Hf c3
        refine lv_iconst (v := (3 : Int32)) hx hb d_Md_formNumber_22 (by decide) ?_
        refine lv_goto (tgt := 27) hx hb d_Md_formNumber_23 (by decide) ?_
        refine lv_istore_n (lv' := [(2, .int (3 : Int32)), (0, .int p1), (1, .int p2)]) hx hb d_Md_formNumber_27 rfl hl (by decide) rfl (fun ls hl => ?_)
        refine lv_bipush (v := (8 : Int32)) hx hb d_Md_formNumber_28 (by decide) ?_
        refine lv_iload_n hx hb d_Md_formNumber_30 rfl (lv_at hl 0 rfl) ?_
        refine lv_imul hx hb d_Md_formNumber_31 ?_
        refine lv_iload_n hx hb d_Md_formNumber_32 rfl (lv_at hl 2 rfl) ?_
        refine lv_iadd hx hb d_Md_formNumber_33 ?_
        have er := Option.some.inj Hf
        exact W.iret hx hb hr (fun t ht hW => ⟨_, rfl, er, ht⟩) (fun q h => by cases h) d_Md_formNumber_34
    · replace Hf := sq_ite_t Hf c2
      refine lv_iconst (v := (0 : Int32)) hx hb d_Md_formNumber_13 (by decide) ?_
      refine lv_goto (tgt := 27) hx hb d_Md_formNumber_14 (by decide) ?_
      refine lv_istore_n (lv' := [(2, .int (0 : Int32)), (0, .int p1), (1, .int p2)]) hx hb d_Md_formNumber_27 rfl hl (by decide) rfl (fun ls hl => ?_)
      refine lv_bipush (v := (8 : Int32)) hx hb d_Md_formNumber_28 (by decide) ?_
      refine lv_iload_n hx hb d_Md_formNumber_30 rfl (lv_at hl 0 rfl) ?_
      refine lv_imul hx hb d_Md_formNumber_31 ?_
      refine lv_iload_n hx hb d_Md_formNumber_32 rfl (lv_at hl 2 rfl) ?_
      refine lv_iadd hx hb d_Md_formNumber_33 ?_
      have er := Option.some.inj Hf
      exact W.iret hx hb hr (fun t ht hW => ⟨_, rfl, er, ht⟩) (fun q h => by cases h) d_Md_formNumber_34
  · replace Hf := sq_ite_t Hf c1
    refine lv_iconst (v := (1 : Int32)) hx hb d_Md_formNumber_4 (by decide) ?_
    refine lv_goto (tgt := 27) hx hb d_Md_formNumber_5 (by decide) ?_
    refine lv_istore_n (lv' := [(2, .int (1 : Int32)), (0, .int p1), (1, .int p2)]) hx hb d_Md_formNumber_27 rfl hl (by decide) rfl (fun ls hl => ?_)
    refine lv_bipush (v := (8 : Int32)) hx hb d_Md_formNumber_28 (by decide) ?_
    refine lv_iload_n hx hb d_Md_formNumber_30 rfl (lv_at hl 0 rfl) ?_
    refine lv_imul hx hb d_Md_formNumber_31 ?_
    refine lv_iload_n hx hb d_Md_formNumber_32 rfl (lv_at hl 2 rfl) ?_
    refine lv_iadd hx hb d_Md_formNumber_33 ?_
    have er := Option.some.inj Hf
    exact W.iret hx hb hr (fun t ht hW => ⟨_, rfl, er, ht⟩) (fun q h => by cases h) d_Md_formNumber_34

def fn_Md_masked (p1 : Int32) (p2 : Int32) (p3 : Int32) : Option (Int32) :=
  if p1 = (0 : Int32) then (sq_bd (sq_rem (p2 + p3) (2 : Int32)) fun x2 => if x2 = 0 then (some ((1 : Int32))) else (some ((0 : Int32)))) else ( if p1 = (1 : Int32) then (sq_bd (sq_rem p3 (2 : Int32)) fun x5 => if x5 = 0 then (some ((1 : Int32))) else (some ((0 : Int32)))) else ( if p1 = (2 : Int32) then (sq_bd (sq_rem p2 (3 : Int32)) fun x8 => if x8 = 0 then (some ((1 : Int32))) else (some ((0 : Int32)))) else ( if p1 = (3 : Int32) then (sq_bd (sq_rem (p2 + p3) (3 : Int32)) fun x11 => if x11 = 0 then (some ((1 : Int32))) else (some ((0 : Int32)))) else ( if p1 = (4 : Int32) then (sq_bd (sq_rem ((p2 / (3 : Int32)) + (p3 / (2 : Int32))) (2 : Int32)) fun x14 => if x14 = 0 then (some ((1 : Int32))) else (some ((0 : Int32)))) else ( if p1 = (5 : Int32) then (sq_bd (sq_rem (p2 * p3) (2 : Int32)) fun x17 => sq_bd (sq_rem (p2 * p3) (3 : Int32)) fun x18 => if (x17 + x18) = 0 then (some ((1 : Int32))) else (some ((0 : Int32)))) else ( if p1 = (6 : Int32) then (sq_bd (sq_rem (p2 * p3) (2 : Int32)) fun x21 => sq_bd (sq_rem (p2 * p3) (3 : Int32)) fun x22 => sq_bd (sq_rem (x21 + x22) (2 : Int32)) fun x23 => if x23 = 0 then (some ((1 : Int32))) else (some ((0 : Int32)))) else ( sq_bd (sq_rem (p2 + p3) (2 : Int32)) fun x25 => sq_bd (sq_rem (p2 * p3) (3 : Int32)) fun x26 => sq_bd (sq_rem (x25 + x26) (2 : Int32)) fun x27 => if x27 = 0 then (some ((1 : Int32))) else (some ((0 : Int32))))))))))
def rm_Md_masked : Room := { frames := 0, cells := 0, slots := 0, locals := 0 }
abbrev qc_Md_masked (r0 : Int32) : Array Value → State → Outcome → State → Prop := vp_Si (fun r => r = r0)

set_option maxHeartbeats 4000000 in
set_option maxRecDepth 100000 in
theorem kt_Md_masked (l : Launch) (dC : Nat → ClassId) (dI : Nat → Nat → Nat) (p1 : Int32) (p2 : Int32) (p3 : Int32) (r0 : Int32) (Hf : fn_Md_masked p1 p2 p3 = some r0) : Met l y_Md_masked w_Md_masked rm_Md_masked (va_Pc [.int p1, .int p2, .int p3] (fun U => va_P (dC, dI) cl_All ([] : va_W) U.heap ∧ va_K (dC, dI) cl_All [] U)) (qc_Md_masked r0) 0 0 (fun _ => False) := by
  refine Met.ofW (cc := prog_14_method_44_code) (maxL := 3) (ret := (some .boolean)) (by decide) rfl ?_
  intro p e s m args below meth c s₁ B hml hv
  obtain ⟨rfl, hP, hK⟩ := hv
  have hx := B.exec; have hb := B.bytes; have hr := B.returns; have hlocks := B.notSynchronized
  have ht : ∀ w ∈ lw_g, w.before _ s = true := fun w h => atoms_spec (ws := w_Md_masked) B.pre w (List.mem_cons_of_mem _ h)
  have hown : s.vm.findClass "SquareSymbolsModel" = some m.cls := findClass_of_methodNamed B.named
  have hl := lv_entry ([.int p1, .int p2, .int p3]) (n := 3) (Nat.le_of_ble_eq_true rfl)
  rw [lg_entry_eq]
  generalize (lg_sl ([.int p1, .int p2, .int p3]) ++ List.replicate (3 - (lg_sl ([.int p1, .int p2, .int p3])).length) Slot.unset).toArray = ls at hl ⊢
  have hl : lv_has ls 3 [(0, .int p1), (1, .int p2), (2, .int p3)] := hl
  refine lv_iload_n hx hb d_Md_masked_0 rfl (lv_at hl 0 rfl) ?_
  by_cases c1 : p1 = (0 : Int32)
  · replace Hf := sq_ite_t Hf c1
    refine lv_tableIn (tgt := 44) (off := 43) hx hb d_Md_masked_1 (by rw [c1]; decide) (by rw [c1]; decide) (by rw [c1]; rfl) (by decide) ?_
    refine lv_iload_n hx hb d_Md_masked_44 rfl (lv_at hl 1 rfl) ?_
    refine lv_iload_n hx hb d_Md_masked_45 rfl (lv_at hl 2 rfl) ?_
    refine lv_iadd hx hb d_Md_masked_46 ?_
    refine lv_iconst (v := (2 : Int32)) hx hb d_Md_masked_47 (by decide) ?_
    refine lv_irem hx hb d_Md_masked_48 (by decide) ?_
    obtain ⟨x2, ex2, Hf⟩ := sq_bd_e Hf
    refine sq_top ex2 ?_
    refine lv_if_ne (tgt := 56) hx hb d_Md_masked_49 (by decide) (fun c3 => ?_) (fun c3 => ?_)
    · replace Hf := sq_ite_f Hf c3
      refine lv_iconst (v := (0 : Int32)) hx hb d_Md_masked_56 (by decide) ?_
      have er := Option.some.inj Hf
      exact W.zret hx hb hr rfl (fun t ht hW => ⟨_, rfl, er, ht⟩) (fun q h => by cases h) d_Md_masked_57
    · replace Hf := sq_ite_t Hf c3
      refine lv_iconst (v := (1 : Int32)) hx hb d_Md_masked_52 (by decide) ?_
      refine lv_goto (tgt := 57) hx hb d_Md_masked_53 (by decide) ?_
      have er := Option.some.inj Hf
      exact W.zret hx hb hr rfl (fun t ht hW => ⟨_, rfl, er, ht⟩) (fun q h => by cases h) d_Md_masked_57
  replace Hf := sq_ite_f Hf c1
  have nc1 := lv_neT c1 (a := 0) (by decide)
  by_cases c4 : p1 = (1 : Int32)
  · replace Hf := sq_ite_t Hf c4
    refine lv_tableIn (tgt := 58) (off := 57) hx hb d_Md_masked_1 (by rw [c4]; decide) (by rw [c4]; decide) (by rw [c4]; rfl) (by decide) ?_
    refine lv_iload_n hx hb d_Md_masked_58 rfl (lv_at hl 2 rfl) ?_
    refine lv_iconst (v := (2 : Int32)) hx hb d_Md_masked_59 (by decide) ?_
    refine lv_irem hx hb d_Md_masked_60 (by decide) ?_
    obtain ⟨x5, ex5, Hf⟩ := sq_bd_e Hf
    refine sq_top ex5 ?_
    refine lv_if_ne (tgt := 68) hx hb d_Md_masked_61 (by decide) (fun c6 => ?_) (fun c6 => ?_)
    · replace Hf := sq_ite_f Hf c6
      refine lv_iconst (v := (0 : Int32)) hx hb d_Md_masked_68 (by decide) ?_
      have er := Option.some.inj Hf
      exact W.zret hx hb hr rfl (fun t ht hW => ⟨_, rfl, er, ht⟩) (fun q h => by cases h) d_Md_masked_69
    · replace Hf := sq_ite_t Hf c6
      refine lv_iconst (v := (1 : Int32)) hx hb d_Md_masked_64 (by decide) ?_
      refine lv_goto (tgt := 69) hx hb d_Md_masked_65 (by decide) ?_
      have er := Option.some.inj Hf
      exact W.zret hx hb hr rfl (fun t ht hW => ⟨_, rfl, er, ht⟩) (fun q h => by cases h) d_Md_masked_69
  replace Hf := sq_ite_f Hf c4
  have nc4 := lv_neT c4 (a := 1) (by decide)
  by_cases c7 : p1 = (2 : Int32)
  · replace Hf := sq_ite_t Hf c7
    refine lv_tableIn (tgt := 70) (off := 69) hx hb d_Md_masked_1 (by rw [c7]; decide) (by rw [c7]; decide) (by rw [c7]; rfl) (by decide) ?_
    refine lv_iload_n hx hb d_Md_masked_70 rfl (lv_at hl 1 rfl) ?_
    refine lv_iconst (v := (3 : Int32)) hx hb d_Md_masked_71 (by decide) ?_
    refine lv_irem hx hb d_Md_masked_72 (by decide) ?_
    obtain ⟨x8, ex8, Hf⟩ := sq_bd_e Hf
    refine sq_top ex8 ?_
    refine lv_if_ne (tgt := 80) hx hb d_Md_masked_73 (by decide) (fun c9 => ?_) (fun c9 => ?_)
    · replace Hf := sq_ite_f Hf c9
      refine lv_iconst (v := (0 : Int32)) hx hb d_Md_masked_80 (by decide) ?_
      have er := Option.some.inj Hf
      exact W.zret hx hb hr rfl (fun t ht hW => ⟨_, rfl, er, ht⟩) (fun q h => by cases h) d_Md_masked_81
    · replace Hf := sq_ite_t Hf c9
      refine lv_iconst (v := (1 : Int32)) hx hb d_Md_masked_76 (by decide) ?_
      refine lv_goto (tgt := 81) hx hb d_Md_masked_77 (by decide) ?_
      have er := Option.some.inj Hf
      exact W.zret hx hb hr rfl (fun t ht hW => ⟨_, rfl, er, ht⟩) (fun q h => by cases h) d_Md_masked_81
  replace Hf := sq_ite_f Hf c7
  have nc7 := lv_neT c7 (a := 2) (by decide)
  by_cases c10 : p1 = (3 : Int32)
  · replace Hf := sq_ite_t Hf c10
    refine lv_tableIn (tgt := 82) (off := 81) hx hb d_Md_masked_1 (by rw [c10]; decide) (by rw [c10]; decide) (by rw [c10]; rfl) (by decide) ?_
    refine lv_iload_n hx hb d_Md_masked_82 rfl (lv_at hl 1 rfl) ?_
    refine lv_iload_n hx hb d_Md_masked_83 rfl (lv_at hl 2 rfl) ?_
    refine lv_iadd hx hb d_Md_masked_84 ?_
    refine lv_iconst (v := (3 : Int32)) hx hb d_Md_masked_85 (by decide) ?_
    refine lv_irem hx hb d_Md_masked_86 (by decide) ?_
    obtain ⟨x11, ex11, Hf⟩ := sq_bd_e Hf
    refine sq_top ex11 ?_
    refine lv_if_ne (tgt := 94) hx hb d_Md_masked_87 (by decide) (fun c12 => ?_) (fun c12 => ?_)
    · replace Hf := sq_ite_f Hf c12
      refine lv_iconst (v := (0 : Int32)) hx hb d_Md_masked_94 (by decide) ?_
      have er := Option.some.inj Hf
      exact W.zret hx hb hr rfl (fun t ht hW => ⟨_, rfl, er, ht⟩) (fun q h => by cases h) d_Md_masked_95
    · replace Hf := sq_ite_t Hf c12
      refine lv_iconst (v := (1 : Int32)) hx hb d_Md_masked_90 (by decide) ?_
      refine lv_goto (tgt := 95) hx hb d_Md_masked_91 (by decide) ?_
      have er := Option.some.inj Hf
      exact W.zret hx hb hr rfl (fun t ht hW => ⟨_, rfl, er, ht⟩) (fun q h => by cases h) d_Md_masked_95
  replace Hf := sq_ite_f Hf c10
  have nc10 := lv_neT c10 (a := 3) (by decide)
  by_cases c13 : p1 = (4 : Int32)
  · replace Hf := sq_ite_t Hf c13
    refine lv_tableIn (tgt := 96) (off := 95) hx hb d_Md_masked_1 (by rw [c13]; decide) (by rw [c13]; decide) (by rw [c13]; rfl) (by decide) ?_
    refine lv_iload_n hx hb d_Md_masked_96 rfl (lv_at hl 1 rfl) ?_
    refine lv_iconst (v := (3 : Int32)) hx hb d_Md_masked_97 (by decide) ?_
    refine lv_idiv hx hb d_Md_masked_98 (by decide) ?_
    refine lv_iload_n hx hb d_Md_masked_99 rfl (lv_at hl 2 rfl) ?_
    refine lv_iconst (v := (2 : Int32)) hx hb d_Md_masked_100 (by decide) ?_
    refine lv_idiv hx hb d_Md_masked_101 (by decide) ?_
    refine lv_iadd hx hb d_Md_masked_102 ?_
    refine lv_iconst (v := (2 : Int32)) hx hb d_Md_masked_103 (by decide) ?_
    refine lv_irem hx hb d_Md_masked_104 (by decide) ?_
    obtain ⟨x14, ex14, Hf⟩ := sq_bd_e Hf
    refine sq_top ex14 ?_
    refine lv_if_ne (tgt := 112) hx hb d_Md_masked_105 (by decide) (fun c15 => ?_) (fun c15 => ?_)
    · replace Hf := sq_ite_f Hf c15
      refine lv_iconst (v := (0 : Int32)) hx hb d_Md_masked_112 (by decide) ?_
      have er := Option.some.inj Hf
      exact W.zret hx hb hr rfl (fun t ht hW => ⟨_, rfl, er, ht⟩) (fun q h => by cases h) d_Md_masked_113
    · replace Hf := sq_ite_t Hf c15
      refine lv_iconst (v := (1 : Int32)) hx hb d_Md_masked_108 (by decide) ?_
      refine lv_goto (tgt := 113) hx hb d_Md_masked_109 (by decide) ?_
      have er := Option.some.inj Hf
      exact W.zret hx hb hr rfl (fun t ht hW => ⟨_, rfl, er, ht⟩) (fun q h => by cases h) d_Md_masked_113
  replace Hf := sq_ite_f Hf c13
  have nc13 := lv_neT c13 (a := 4) (by decide)
  by_cases c16 : p1 = (5 : Int32)
  · replace Hf := sq_ite_t Hf c16
    refine lv_tableIn (tgt := 114) (off := 113) hx hb d_Md_masked_1 (by rw [c16]; decide) (by rw [c16]; decide) (by rw [c16]; rfl) (by decide) ?_
    refine lv_iload_n hx hb d_Md_masked_114 rfl (lv_at hl 1 rfl) ?_
    refine lv_iload_n hx hb d_Md_masked_115 rfl (lv_at hl 2 rfl) ?_
    refine lv_imul hx hb d_Md_masked_116 ?_
    refine lv_iconst (v := (2 : Int32)) hx hb d_Md_masked_117 (by decide) ?_
    refine lv_irem hx hb d_Md_masked_118 (by decide) ?_
    obtain ⟨x17, ex17, Hf⟩ := sq_bd_e Hf
    refine sq_top ex17 ?_
    refine lv_iload_n hx hb d_Md_masked_119 rfl (lv_at hl 1 rfl) ?_
    refine lv_iload_n hx hb d_Md_masked_120 rfl (lv_at hl 2 rfl) ?_
    refine lv_imul hx hb d_Md_masked_121 ?_
    refine lv_iconst (v := (3 : Int32)) hx hb d_Md_masked_122 (by decide) ?_
    refine lv_irem hx hb d_Md_masked_123 (by decide) ?_
    obtain ⟨x18, ex18, Hf⟩ := sq_bd_e Hf
    refine sq_top ex18 ?_
    refine lv_iadd hx hb d_Md_masked_124 ?_
    refine lv_if_ne (tgt := 132) hx hb d_Md_masked_125 (by decide) (fun c19 => ?_) (fun c19 => ?_)
    · replace Hf := sq_ite_f Hf c19
      refine lv_iconst (v := (0 : Int32)) hx hb d_Md_masked_132 (by decide) ?_
      have er := Option.some.inj Hf
      exact W.zret hx hb hr rfl (fun t ht hW => ⟨_, rfl, er, ht⟩) (fun q h => by cases h) d_Md_masked_133
    · replace Hf := sq_ite_t Hf c19
      refine lv_iconst (v := (1 : Int32)) hx hb d_Md_masked_128 (by decide) ?_
      refine lv_goto (tgt := 133) hx hb d_Md_masked_129 (by decide) ?_
      have er := Option.some.inj Hf
      exact W.zret hx hb hr rfl (fun t ht hW => ⟨_, rfl, er, ht⟩) (fun q h => by cases h) d_Md_masked_133
  replace Hf := sq_ite_f Hf c16
  have nc16 := lv_neT c16 (a := 5) (by decide)
  by_cases c20 : p1 = (6 : Int32)
  · replace Hf := sq_ite_t Hf c20
    refine lv_tableIn (tgt := 134) (off := 133) hx hb d_Md_masked_1 (by rw [c20]; decide) (by rw [c20]; decide) (by rw [c20]; rfl) (by decide) ?_
    refine lv_iload_n hx hb d_Md_masked_134 rfl (lv_at hl 1 rfl) ?_
    refine lv_iload_n hx hb d_Md_masked_135 rfl (lv_at hl 2 rfl) ?_
    refine lv_imul hx hb d_Md_masked_136 ?_
    refine lv_iconst (v := (2 : Int32)) hx hb d_Md_masked_137 (by decide) ?_
    refine lv_irem hx hb d_Md_masked_138 (by decide) ?_
    obtain ⟨x21, ex21, Hf⟩ := sq_bd_e Hf
    refine sq_top ex21 ?_
    refine lv_iload_n hx hb d_Md_masked_139 rfl (lv_at hl 1 rfl) ?_
    refine lv_iload_n hx hb d_Md_masked_140 rfl (lv_at hl 2 rfl) ?_
    refine lv_imul hx hb d_Md_masked_141 ?_
    refine lv_iconst (v := (3 : Int32)) hx hb d_Md_masked_142 (by decide) ?_
    refine lv_irem hx hb d_Md_masked_143 (by decide) ?_
    obtain ⟨x22, ex22, Hf⟩ := sq_bd_e Hf
    refine sq_top ex22 ?_
    refine lv_iadd hx hb d_Md_masked_144 ?_
    refine lv_iconst (v := (2 : Int32)) hx hb d_Md_masked_145 (by decide) ?_
    refine lv_irem hx hb d_Md_masked_146 (by decide) ?_
    obtain ⟨x23, ex23, Hf⟩ := sq_bd_e Hf
    refine sq_top ex23 ?_
    refine lv_if_ne (tgt := 154) hx hb d_Md_masked_147 (by decide) (fun c24 => ?_) (fun c24 => ?_)
    · replace Hf := sq_ite_f Hf c24
      refine lv_iconst (v := (0 : Int32)) hx hb d_Md_masked_154 (by decide) ?_
      have er := Option.some.inj Hf
      exact W.zret hx hb hr rfl (fun t ht hW => ⟨_, rfl, er, ht⟩) (fun q h => by cases h) d_Md_masked_155
    · replace Hf := sq_ite_t Hf c24
      refine lv_iconst (v := (1 : Int32)) hx hb d_Md_masked_150 (by decide) ?_
      refine lv_goto (tgt := 155) hx hb d_Md_masked_151 (by decide) ?_
      have er := Option.some.inj Hf
      exact W.zret hx hb hr rfl (fun t ht hW => ⟨_, rfl, er, ht⟩) (fun q h => by cases h) d_Md_masked_155
  replace Hf := sq_ite_f Hf c20
  have nc20 := lv_neT c20 (a := 6) (by decide)
  refine lv_tableOut (tgt := 156) hx hb d_Md_masked_1 (by omega) (by decide) ?_
  refine lv_iload_n hx hb d_Md_masked_156 rfl (lv_at hl 1 rfl) ?_
  refine lv_iload_n hx hb d_Md_masked_157 rfl (lv_at hl 2 rfl) ?_
  refine lv_iadd hx hb d_Md_masked_158 ?_
  refine lv_iconst (v := (2 : Int32)) hx hb d_Md_masked_159 (by decide) ?_
  refine lv_irem hx hb d_Md_masked_160 (by decide) ?_
  obtain ⟨x25, ex25, Hf⟩ := sq_bd_e Hf
  refine sq_top ex25 ?_
  refine lv_iload_n hx hb d_Md_masked_161 rfl (lv_at hl 1 rfl) ?_
  refine lv_iload_n hx hb d_Md_masked_162 rfl (lv_at hl 2 rfl) ?_
  refine lv_imul hx hb d_Md_masked_163 ?_
  refine lv_iconst (v := (3 : Int32)) hx hb d_Md_masked_164 (by decide) ?_
  refine lv_irem hx hb d_Md_masked_165 (by decide) ?_
  obtain ⟨x26, ex26, Hf⟩ := sq_bd_e Hf
  refine sq_top ex26 ?_
  refine lv_iadd hx hb d_Md_masked_166 ?_
  refine lv_iconst (v := (2 : Int32)) hx hb d_Md_masked_167 (by decide) ?_
  refine lv_irem hx hb d_Md_masked_168 (by decide) ?_
  obtain ⟨x27, ex27, Hf⟩ := sq_bd_e Hf
  refine sq_top ex27 ?_
  refine lv_if_ne (tgt := 176) hx hb d_Md_masked_169 (by decide) (fun c28 => ?_) (fun c28 => ?_)
  · replace Hf := sq_ite_f Hf c28
    refine lv_iconst (v := (0 : Int32)) hx hb d_Md_masked_176 (by decide) ?_
    have er := Option.some.inj Hf
    exact W.zret hx hb hr rfl (fun t ht hW => ⟨_, rfl, er, ht⟩) (fun q h => by cases h) d_Md_masked_177
  · replace Hf := sq_ite_t Hf c28
    refine lv_iconst (v := (1 : Int32)) hx hb d_Md_masked_172 (by decide) ?_
    refine lv_goto (tgt := 177) hx hb d_Md_masked_173 (by decide) ?_
    have er := Option.some.inj Hf
    exact W.zret hx hb hr rfl (fun t ht hW => ⟨_, rfl, er, ht⟩) (fun q h => by cases h) d_Md_masked_177

def fn_Md_goThrough_L2 (p1 : Int32) (p2 : Int32) (p3 : Int32) (vt_side : Int32) (vt_fixed : Nat → Int32) (x3 : Int32) (x8 : Int32) (k13 : Int32 → (Nat → Int32) → (Nat → Int32) → Option ((Nat → Int32) × (Nat → Int32))) : Nat → Int32 → Int32 → (Nat → Int32) → (Nat → Int32) → Option ((Nat → Int32) × (Nat → Int32))
  | 0, _, _, _, _ => none
  | m2 + 1, x18, x19, b20, b21 => if ((2 : Int32) * vt_side) ≤ x19 then (k13 x18 b20 b21) else (sq_jn (fun (x23 : Int32) => sq_bd (sq_rem x19 (2 : Int32)) fun x25 => sq_bd (x8 - x25) fun x26 => sq_cb1 (fn_Md_moduleAt x26 x23) fun r27 => sq_gi r27 31329 <| sq_bd (vt_fixed r27.toNatClampNeg) fun x30 => sq_jn (fun (x31 : Int32) (b32 : Nat → Int32) (b33 : Nat → Int32) => sq_bd (x19 + (1 : Int32)) fun x35 => fn_Md_goThrough_L2 p1 p2 p3 vt_side vt_fixed x3 x8 k13 m2 x31 x35 b32 b33) fun k34 => if x30 = 0 then (sq_cb1 (fn_Md_masked p1 x26 x23) fun r37 => sq_jn (fun (x39 : Int32) => sq_jn (fun (b41 : Nat → Int32) (b42 : Nat → Int32) => sq_bd (x18 + (1 : Int32)) fun x44 => k34 x44 b41 b42) fun k43 => sq_jn (fun (_ : Unit) => if p2 = 0 then (sq_jn (fun (x47 : Int32) => sq_bd (x47 ^^^ x39) fun x49 => sq_gi r27 31329 <| sq_bd (upd b20 r27.toNatClampNeg x49) fun b51 => k43 b51 b21) fun k48 => if ((8 : Int32) * p3) ≤ x18 then (k48 (0 : Int32)) else (sq_bd (x18 / (8 : Int32)) fun x53 => sq_gi x53 3800 <| sq_bd (b21 x53.toNatClampNeg) fun x55 => sq_bd (sq_rem x18 (8 : Int32)) fun x56 => k48 ((x55 >>> (((7 : Int32) - x56) &&& 31)) &&& (1 : Int32)))) else (k43 b20 b21)) fun k45 => if p2 = 0 then (k45 ()) else (if ((8 : Int32) * p3) ≤ x18 then (k45 ()) else (sq_bd (x18 / (8 : Int32)) fun x59 => sq_gi x59 3800 <| sq_bd (b21 x59.toNatClampNeg) fun x61 => sq_bd (sq_rem x18 (8 : Int32)) fun x62 => sq_gi r27 31329 <| sq_bd (b20 r27.toNatClampNeg) fun x64 => sq_bd (sq_rem x18 (8 : Int32)) fun x65 => sq_bd ((x61 &&& (((1 : Int32) <<< (((7 : Int32) - x62) &&& 31)) ^^^ (-1 : Int32))) ||| ((x64 ^^^ x39) <<< (((7 : Int32) - x65) &&& 31))) fun x66 => sq_bd (x18 / (8 : Int32)) fun x68 => sq_gi x68 3800 <| sq_bd (upd b21 x68.toNatClampNeg x66) fun b69 => k43 b20 b69))) fun k40 => if r37 = 0 then (k40 (0 : Int32)) else (k40 (1 : Int32))) else (k34 x18 b20 b21)) fun k24 => if x3 = 0 then (k24 (x19 / (2 : Int32))) else (k24 ((vt_side - (1 : Int32)) - (x19 / (2 : Int32)))))
theorem fn_Md_goThrough_L2_s (p1 : Int32) (p2 : Int32) (p3 : Int32) (vt_side : Int32) (vt_fixed : Nat → Int32) (x3 : Int32) (x8 : Int32) (k13 : Int32 → (Nat → Int32) → (Nat → Int32) → Option ((Nat → Int32) × (Nat → Int32))) (m2 : Nat) (x18 : Int32) (x19 : Int32) (b20 : Nat → Int32) (b21 : Nat → Int32) : fn_Md_goThrough_L2 p1 p2 p3 vt_side vt_fixed x3 x8 k13 (m2 + 1) x18 x19 b20 b21 = if ((2 : Int32) * vt_side) ≤ x19 then (k13 x18 b20 b21) else (sq_jn (fun (x23 : Int32) => sq_bd (sq_rem x19 (2 : Int32)) fun x25 => sq_bd (x8 - x25) fun x26 => sq_cb1 (fn_Md_moduleAt x26 x23) fun r27 => sq_gi r27 31329 <| sq_bd (vt_fixed r27.toNatClampNeg) fun x30 => sq_jn (fun (x31 : Int32) (b32 : Nat → Int32) (b33 : Nat → Int32) => sq_bd (x19 + (1 : Int32)) fun x35 => fn_Md_goThrough_L2 p1 p2 p3 vt_side vt_fixed x3 x8 k13 m2 x31 x35 b32 b33) fun k34 => if x30 = 0 then (sq_cb1 (fn_Md_masked p1 x26 x23) fun r37 => sq_jn (fun (x39 : Int32) => sq_jn (fun (b41 : Nat → Int32) (b42 : Nat → Int32) => sq_bd (x18 + (1 : Int32)) fun x44 => k34 x44 b41 b42) fun k43 => sq_jn (fun (_ : Unit) => if p2 = 0 then (sq_jn (fun (x47 : Int32) => sq_bd (x47 ^^^ x39) fun x49 => sq_gi r27 31329 <| sq_bd (upd b20 r27.toNatClampNeg x49) fun b51 => k43 b51 b21) fun k48 => if ((8 : Int32) * p3) ≤ x18 then (k48 (0 : Int32)) else (sq_bd (x18 / (8 : Int32)) fun x53 => sq_gi x53 3800 <| sq_bd (b21 x53.toNatClampNeg) fun x55 => sq_bd (sq_rem x18 (8 : Int32)) fun x56 => k48 ((x55 >>> (((7 : Int32) - x56) &&& 31)) &&& (1 : Int32)))) else (k43 b20 b21)) fun k45 => if p2 = 0 then (k45 ()) else (if ((8 : Int32) * p3) ≤ x18 then (k45 ()) else (sq_bd (x18 / (8 : Int32)) fun x59 => sq_gi x59 3800 <| sq_bd (b21 x59.toNatClampNeg) fun x61 => sq_bd (sq_rem x18 (8 : Int32)) fun x62 => sq_gi r27 31329 <| sq_bd (b20 r27.toNatClampNeg) fun x64 => sq_bd (sq_rem x18 (8 : Int32)) fun x65 => sq_bd ((x61 &&& (((1 : Int32) <<< (((7 : Int32) - x62) &&& 31)) ^^^ (-1 : Int32))) ||| ((x64 ^^^ x39) <<< (((7 : Int32) - x65) &&& 31))) fun x66 => sq_bd (x18 / (8 : Int32)) fun x68 => sq_gi x68 3800 <| sq_bd (upd b21 x68.toNatClampNeg x66) fun b69 => k43 b20 b69))) fun k40 => if r37 = 0 then (k40 (0 : Int32)) else (k40 (1 : Int32))) else (k34 x18 b20 b21)) fun k24 => if x3 = 0 then (k24 (x19 / (2 : Int32))) else (k24 ((vt_side - (1 : Int32)) - (x19 / (2 : Int32))))) := rfl
def fn_Md_goThrough_L1 (p1 : Int32) (p2 : Int32) (p3 : Int32) (n0 : Nat) (vt_side : Int32) (vt_fixed : Nat → Int32) : Nat → Int32 → Int32 → Int32 → (Nat → Int32) → (Nat → Int32) → Option ((Nat → Int32) × (Nat → Int32))
  | 0, _, _, _, _, _ => none
  | m1 + 1, x2, x3, x4, b5, b6 => if x4 ≤ 0 then (some (b5, b6)) else (sq_jn (fun (x8 : Int32) => sq_jn (fun (x10 : Int32) (b11 : Nat → Int32) (b12 : Nat → Int32) => sq_jn (fun (x14 : Int32) => sq_bd (x8 + (-2 : Int32)) fun x16 => fn_Md_goThrough_L1 p1 p2 p3 n0 vt_side vt_fixed m1 x10 x14 x16 b11 b12) fun k15 => if x3 = 0 then (k15 (1 : Int32)) else (k15 (0 : Int32))) fun k13 => fn_Md_goThrough_L2 p1 p2 p3 vt_side vt_fixed x3 x8 k13 n0 x2 (0 : Int32) b5 b6) fun k9 => if x4 = (6 : Int32) then (k9 (5 : Int32)) else (k9 x4))
theorem fn_Md_goThrough_L1_s (p1 : Int32) (p2 : Int32) (p3 : Int32) (n0 : Nat) (vt_side : Int32) (vt_fixed : Nat → Int32) (m1 : Nat) (x2 : Int32) (x3 : Int32) (x4 : Int32) (b5 : Nat → Int32) (b6 : Nat → Int32) : fn_Md_goThrough_L1 p1 p2 p3 n0 vt_side vt_fixed (m1 + 1) x2 x3 x4 b5 b6 = if x4 ≤ 0 then (some (b5, b6)) else (sq_jn (fun (x8 : Int32) => sq_jn (fun (x10 : Int32) (b11 : Nat → Int32) (b12 : Nat → Int32) => sq_jn (fun (x14 : Int32) => sq_bd (x8 + (-2 : Int32)) fun x16 => fn_Md_goThrough_L1 p1 p2 p3 n0 vt_side vt_fixed m1 x10 x14 x16 b11 b12) fun k15 => if x3 = 0 then (k15 (1 : Int32)) else (k15 (0 : Int32))) fun k13 => fn_Md_goThrough_L2 p1 p2 p3 vt_side vt_fixed x3 x8 k13 n0 x2 (0 : Int32) b5 b6) fun k9 => if x4 = (6 : Int32) then (k9 (5 : Int32)) else (k9 x4)) := rfl
def fn_Md_goThrough (n0 : Nat) (p1 : Int32) (p2 : Int32) (p3 : Int32) (vt_side : Int32) (vt_fixed : Nat → Int32) (vt_modules : Nat → Int32) (vt_words : Nat → Int32) : Option ((Nat → Int32) × (Nat → Int32)) :=
  sq_bd (vt_side - (1 : Int32)) fun x1 => fn_Md_goThrough_L1 p1 p2 p3 n0 vt_side vt_fixed n0 (0 : Int32) (1 : Int32) x1 vt_modules vt_words
abbrev ww_Md_goThrough (qt qt_fixed qt_modules qt_words qt_checkBytes qt_blocks qt_data qt_tells qt_segmentModes qt_segmentLengths qt_modes qt_takes qt_bytes qt_block qt_tried qt_values qt_system qt_solved qt_places qt_generator qt_readBytes qt_readings : Nat) (ct_fixed ct_modules ct_words : ClassId) (vt_thrown : Int32) (vt_length : Int32) (vt_version : Int32) (vt_side : Int32) (vt_made : Int32) (vt_segments : Int32) (vt_bits : Int32) (vt_filled : Int32) (vt_readLength : Int32) (vt_at : Int32) (vt_all : Int32) (vt_fault : Int32) (vt_good : Int32) (vt_fixed : Nat → Int32) (vt_modules : Nat → Int32) (vt_words : Nat → Int32) : va_W := [(qt, .inr (10, [.int vt_thrown, .ref qt_checkBytes, .ref qt_blocks, .ref qt_data, .int vt_length, .ref qt_modules, .ref qt_fixed, .int vt_version, .int vt_side, .int vt_made, .ref qt_tells, .ref qt_segmentModes, .ref qt_segmentLengths, .int vt_segments, .ref qt_modes, .ref qt_takes, .int vt_bits, .ref qt_bytes, .ref qt_words, .int vt_filled, .ref qt_block, .ref qt_tried, .ref qt_values, .ref qt_system, .ref qt_solved, .ref qt_places, .ref qt_generator, .ref qt_readBytes, .int vt_readLength, .int vt_at, .int vt_all, .int vt_fault, .int vt_good, .ref qt_readings])), (qt_fixed, .inl (ct_fixed, 31329, .inl vt_fixed)), (qt_modules, .inl (ct_modules, 31329, .inl vt_modules)), (qt_words, .inl (ct_words, 3800, .inl vt_words))]

def rm_Md_goThrough : Room := { frames := 1, cells := 0, slots := 0, locals := 22 }
abbrev qc_Md_goThrough (dC : Nat → ClassId) (dI : Nat → Nat → Nat) (A : Nat → Prop) (qt qt_fixed qt_modules qt_words qt_checkBytes qt_blocks qt_data qt_tells qt_segmentModes qt_segmentLengths qt_modes qt_takes qt_bytes qt_block qt_tried qt_values qt_system qt_solved qt_places qt_generator qt_readBytes qt_readings : Nat) (ct_fixed ct_modules ct_words : ClassId) (vt_thrown : Int32) (vt_length : Int32) (vt_version : Int32) (vt_side : Int32) (vt_made : Int32) (vt_segments : Int32) (vt_bits : Int32) (vt_filled : Int32) (vt_readLength : Int32) (vt_at : Int32) (vt_all : Int32) (vt_fault : Int32) (vt_good : Int32) (vt_fixed : Nat → Int32) (vt_modules : Nat → Int32) (vt_words : Nat → Int32) : Array Value → State → Outcome → State → Prop := va_Qv (fun (_ : Unit) => True) (fun _ t => va_P (dC, dI) cl_All (ww_Md_goThrough qt qt_fixed qt_modules qt_words qt_checkBytes qt_blocks qt_data qt_tells qt_segmentModes qt_segmentLengths qt_modes qt_takes qt_bytes qt_block qt_tried qt_values qt_system qt_solved qt_places qt_generator qt_readBytes qt_readings ct_fixed ct_modules ct_words vt_thrown vt_length vt_version vt_side vt_made vt_segments vt_bits vt_filled vt_readLength vt_at vt_all vt_fault vt_good vt_fixed vt_modules vt_words) t.heap ∧ va_D A (ww_Md_goThrough qt qt_fixed qt_modules qt_words qt_checkBytes qt_blocks qt_data qt_tells qt_segmentModes qt_segmentLengths qt_modes qt_takes qt_bytes qt_block qt_tried qt_values qt_system qt_solved qt_places qt_generator qt_readBytes qt_readings ct_fixed ct_modules ct_words vt_thrown vt_length vt_version vt_side vt_made vt_segments vt_bits vt_filled vt_readLength vt_at vt_all vt_fault vt_good vt_fixed vt_modules vt_words)) A

set_option maxHeartbeats 4000000 in
set_option maxRecDepth 100000 in
theorem kt_Md_goThrough (l : Launch) (dC : Nat → ClassId) (dI : Nat → Nat → Nat) (qt qt_fixed qt_modules qt_words qt_checkBytes qt_blocks qt_data qt_tells qt_segmentModes qt_segmentLengths qt_modes qt_takes qt_bytes qt_block qt_tried qt_values qt_system qt_solved qt_places qt_generator qt_readBytes qt_readings : Nat) (ct_fixed ct_modules ct_words : ClassId) (vt_thrown : Int32) (vt_length : Int32) (vt_version : Int32) (vt_side : Int32) (vt_made : Int32) (vt_segments : Int32) (vt_bits : Int32) (vt_filled : Int32) (vt_readLength : Int32) (vt_at : Int32) (vt_all : Int32) (vt_fault : Int32) (vt_good : Int32) (vt_fixed : Nat → Int32) (vt_modules : Nat → Int32) (vt_words : Nat → Int32) (p1 : Int32) (p2 : Int32) (p3 : Int32) (sz : Nat) (n0 : Nat) (nvt_modules : Nat → Int32) (nvt_words : Nat → Int32) (Hf : fn_Md_goThrough n0 p1 p2 p3 vt_side vt_fixed vt_modules vt_words = some (nvt_modules, nvt_words)) : Met l y_Md_goThrough w_Md_goThrough rm_Md_goThrough (va_Pc [.ref qt, .int p1, .int p2, .int p3] (fun U => U.heap.size = sz ∧ va_P (dC, dI) cl_All (ww_Md_goThrough qt qt_fixed qt_modules qt_words qt_checkBytes qt_blocks qt_data qt_tells qt_segmentModes qt_segmentLengths qt_modes qt_takes qt_bytes qt_block qt_tried qt_values qt_system qt_solved qt_places qt_generator qt_readBytes qt_readings ct_fixed ct_modules ct_words vt_thrown vt_length vt_version vt_side vt_made vt_segments vt_bits vt_filled vt_readLength vt_at vt_all vt_fault vt_good vt_fixed vt_modules vt_words) U.heap ∧ va_K (dC, dI) cl_All [(ct_fixed, .int), (ct_modules, .int), (ct_words, .int)] U ∧ va_D (fun _ => True) (ww_Md_goThrough qt qt_fixed qt_modules qt_words qt_checkBytes qt_blocks qt_data qt_tells qt_segmentModes qt_segmentLengths qt_modes qt_takes qt_bytes qt_block qt_tried qt_values qt_system qt_solved qt_places qt_generator qt_readBytes qt_readings ct_fixed ct_modules ct_words vt_thrown vt_length vt_version vt_side vt_made vt_segments vt_bits vt_filled vt_readLength vt_at vt_all vt_fault vt_good vt_fixed vt_modules vt_words))) (qc_Md_goThrough dC dI (va_A (ww_Md_goThrough qt qt_fixed qt_modules qt_words qt_checkBytes qt_blocks qt_data qt_tells qt_segmentModes qt_segmentLengths qt_modes qt_takes qt_bytes qt_block qt_tried qt_values qt_system qt_solved qt_places qt_generator qt_readBytes qt_readings ct_fixed ct_modules ct_words vt_thrown vt_length vt_version vt_side vt_made vt_segments vt_bits vt_filled vt_readLength vt_at vt_all vt_fault vt_good vt_fixed vt_modules vt_words) sz) qt qt_fixed qt_modules qt_words qt_checkBytes qt_blocks qt_data qt_tells qt_segmentModes qt_segmentLengths qt_modes qt_takes qt_bytes qt_block qt_tried qt_values qt_system qt_solved qt_places qt_generator qt_readBytes qt_readings ct_fixed ct_modules ct_words vt_thrown vt_length vt_version vt_side vt_made vt_segments vt_bits vt_filled vt_readLength vt_at vt_all vt_fault vt_good vt_fixed nvt_modules nvt_words) 0 0 (va_A (ww_Md_goThrough qt qt_fixed qt_modules qt_words qt_checkBytes qt_blocks qt_data qt_tells qt_segmentModes qt_segmentLengths qt_modes qt_takes qt_bytes qt_block qt_tried qt_values qt_system qt_solved qt_places qt_generator qt_readBytes qt_readings ct_fixed ct_modules ct_words vt_thrown vt_length vt_version vt_side vt_made vt_segments vt_bits vt_filled vt_readLength vt_at vt_all vt_fault vt_good vt_fixed vt_modules vt_words) sz) := by
  refine Met.ofW (cc := prog_14_method_45_code) (maxL := 13) (ret := none) (by decide) rfl ?_
  intro p e s m args below meth c s₁ B hml hv
  obtain ⟨rfl, hsz, hP, hK, hD0⟩ := hv
  have hx := B.exec; have hb := B.bytes; have hr := B.returns; have hlocks := B.notSynchronized
  have ht : ∀ w ∈ lw_g, w.before _ s = true := fun w h => atoms_spec (ws := w_Md_goThrough) B.pre w (List.mem_cons_of_mem _ h)
  have hown : s.vm.findClass "SquareSymbolsModel" = some m.cls := findClass_of_methodNamed B.named
  subst hsz
  have hD := hD0.self (sz := s.heap.size)
  generalize hAe : va_A (ww_Md_goThrough qt qt_fixed qt_modules qt_words qt_checkBytes qt_blocks qt_data qt_tells qt_segmentModes qt_segmentLengths qt_modes qt_takes qt_bytes qt_block qt_tried qt_values qt_system qt_solved qt_places qt_generator qt_readBytes qt_readings ct_fixed ct_modules ct_words vt_thrown vt_length vt_version vt_side vt_made vt_segments vt_bits vt_filled vt_readLength vt_at vt_all vt_fault vt_good vt_fixed vt_modules vt_words) s.heap.size = A at hD ⊢
  have hA : ∀ q : Nat, s.heap.size ≤ q → A q := fun q h => by rw [← hAe]; exact Or.inr h
  have hS : va_S A s.heap s.heap [] := va_S.rf
  have hl := lv_entry ([.ref qt, .int p1, .int p2, .int p3]) (n := 13) (Nat.le_of_ble_eq_true rfl)
  rw [lg_entry_eq]
  generalize (lg_sl ([.ref qt, .int p1, .int p2, .int p3]) ++ List.replicate (13 - (lg_sl ([.ref qt, .int p1, .int p2, .int p3])).length) Slot.unset).toArray = ls at hl ⊢
  have hl : lv_has ls 13 [(0, .ref qt), (1, .int p1), (2, .int p2), (3, .int p3)] := hl
  refine lv_iconst (v := (0 : Int32)) hx hb d_Md_goThrough_0 (by decide) ?_
  refine lv_istore (lv' := [(4, .int (0 : Int32)), (0, .ref qt), (1, .int p1), (2, .int p2), (3, .int p3)]) hx hb d_Md_goThrough_1 hl (by decide) rfl (fun ls hl => ?_)
  refine lv_iconst (v := (1 : Int32)) hx hb d_Md_goThrough_3 (by decide) ?_
  refine lv_istore (lv' := [(5, .int (1 : Int32)), (4, .int (0 : Int32)), (0, .ref qt), (1, .int p1), (2, .int p2), (3, .int p3)]) hx hb d_Md_goThrough_4 hl (by decide) rfl (fun ls hl => ?_)
  refine lv_aload_n hx hb d_Md_goThrough_6 rfl (lv_at hl 2 rfl) ?_
  refine va_get (D := (dC, dI)) (ci := 10) (v := .int vt_side) (C := R_Md) (T := F_Md) (N := 34) hx hb ht i_Md hown hK hP 0 rfl rfl 8 (by decide) (ht _ tb_1070) (fun _ h9 => h9) rfl d_Md_goThrough_7 ?_
  refine lv_iconst (v := (1 : Int32)) hx hb d_Md_goThrough_10 (by decide) ?_
  refine lv_isub hx hb d_Md_goThrough_11 ?_
  obtain ⟨x1, ex1, Hf⟩ := sq_bd_e Hf
  refine sq_top ex1 ?_
  refine lv_istore (lv' := [(6, .int x1), (5, .int (1 : Int32)), (4, .int (0 : Int32)), (0, .ref qt), (1, .int p1), (2, .int p2), (3, .int p3)]) hx hb d_Md_goThrough_12 hl (by decide) rfl (fun ls hl => ?_)
  have L1 : ∀ (m1 : Nat), ∀ (x2 : Int32) (x3 : Int32) (x4 : Int32) (b5 : Nat → Int32) (b6 : Nat → Int32), fn_Md_goThrough_L1 p1 p2 p3 n0 vt_side vt_fixed m1 x2 x3 x4 b5 b6 = some (nvt_modules, nvt_words) → ∀ (H : Heap) (locs : List Loc), va_P (dC, dI) cl_All (ww_Md_goThrough qt qt_fixed qt_modules qt_words qt_checkBytes qt_blocks qt_data qt_tells qt_segmentModes qt_segmentLengths qt_modes qt_takes qt_bytes qt_block qt_tried qt_values qt_system qt_solved qt_places qt_generator qt_readBytes qt_readings ct_fixed ct_modules ct_words vt_thrown vt_length vt_version vt_side vt_made vt_segments vt_bits vt_filled vt_readLength vt_at vt_all vt_fault vt_good vt_fixed b5 b6) H → va_D A (ww_Md_goThrough qt qt_fixed qt_modules qt_words qt_checkBytes qt_blocks qt_data qt_tells qt_segmentModes qt_segmentLengths qt_modes qt_takes qt_bytes qt_block qt_tried qt_values qt_system qt_solved qt_places qt_generator qt_readBytes qt_readings ct_fixed ct_modules ct_words vt_thrown vt_length vt_version vt_side vt_made vt_segments vt_bits vt_filled vt_readLength vt_at vt_all vt_fault vt_good vt_fixed b5 b6) → va_S A s.heap H locs → ∀ ls : Array Slot, lv_has ls 13 [(0, .ref qt), (1, .int p1), (2, .int p2), (3, .int p3), (4, .int x2), (5, .int x3), (6, .int x4)] → W p l e (headSpec w_Md_goThrough rm_Md_goThrough).room s m (([.ref qt, .int p1, .int p2, .int p3] : List Value).toArray) below meth c H locs 0 0 (MQ below (qc_Md_goThrough dC dI A qt qt_fixed qt_modules qt_words qt_checkBytes qt_blocks qt_data qt_tells qt_segmentModes qt_segmentLengths qt_modes qt_takes qt_bytes qt_block qt_tried qt_values qt_system qt_solved qt_places qt_generator qt_readBytes qt_readings ct_fixed ct_modules ct_words vt_thrown vt_length vt_version vt_side vt_made vt_segments vt_bits vt_filled vt_readLength vt_at vt_all vt_fault vt_good vt_fixed nvt_modules nvt_words) (([.ref qt, .int p1, .int p2, .int p3] : List Value).toArray) s 0 0 A) (F0 m 14 ls []) := by
    intro m1
    induction m1 with
    | zero => intro x2 x3 x4 b5 b6 Hf; exact sq_none Hf
    | succ m1 ih1 =>
      intro x2 x3 x4 b5 b6 Hf H locs  hP hD hS ls hl
      replace Hf := (fn_Md_goThrough_L1_s p1 p2 p3 n0 vt_side vt_fixed m1 x2 x3 x4 b5 b6).symm.trans Hf
      refine lv_iload hx hb d_Md_goThrough_14 (lv_at hl 6 rfl) ?_
      refine lv_if_le (tgt := 268) hx hb d_Md_goThrough_16 (by decide) (fun c7 => ?_) (fun c7 => ?_)
      · replace Hf := sq_ite_t Hf c7
        obtain ⟨rfl, rfl⟩ := sq_so2 Hf
        exact W.vret hx hb hr (fun t ht hW => ⟨⟨(), rfl, trivial, by rw [ht]; exact hP, hD⟩, hS.F ht⟩) hS.2.2 d_Md_goThrough_268
      · replace Hf := sq_ite_f Hf c7
        refine lv_iload hx hb d_Md_goThrough_19 (lv_at hl 6 rfl) ?_
        refine lv_bipush (v := (6 : Int32)) hx hb d_Md_goThrough_21 (by decide) ?_
        obtain ⟨k9, hk9, Hf⟩ := sq_jn_e Hf
        have Jk9 : ∀ (x8 : Int32), k9 x8 = some (nvt_modules, nvt_words) → ∀ (H : Heap) (locs : List Loc), va_P (dC, dI) cl_All (ww_Md_goThrough qt qt_fixed qt_modules qt_words qt_checkBytes qt_blocks qt_data qt_tells qt_segmentModes qt_segmentLengths qt_modes qt_takes qt_bytes qt_block qt_tried qt_values qt_system qt_solved qt_places qt_generator qt_readBytes qt_readings ct_fixed ct_modules ct_words vt_thrown vt_length vt_version vt_side vt_made vt_segments vt_bits vt_filled vt_readLength vt_at vt_all vt_fault vt_good vt_fixed b5 b6) H → va_D A (ww_Md_goThrough qt qt_fixed qt_modules qt_words qt_checkBytes qt_blocks qt_data qt_tells qt_segmentModes qt_segmentLengths qt_modes qt_takes qt_bytes qt_block qt_tried qt_values qt_system qt_solved qt_places qt_generator qt_readBytes qt_readings ct_fixed ct_modules ct_words vt_thrown vt_length vt_version vt_side vt_made vt_segments vt_bits vt_filled vt_readLength vt_at vt_all vt_fault vt_good vt_fixed b5 b6) → va_S A s.heap H locs → ∀ ls : Array Slot, lv_has ls 13 [(0, .ref qt), (1, .int p1), (2, .int p2), (3, .int p3), (4, .int x2), (5, .int x3)] → W p l e (headSpec w_Md_goThrough rm_Md_goThrough).room s m (([.ref qt, .int p1, .int p2, .int p3] : List Value).toArray) below meth c H locs 0 0 (MQ below (qc_Md_goThrough dC dI A qt qt_fixed qt_modules qt_words qt_checkBytes qt_blocks qt_data qt_tells qt_segmentModes qt_segmentLengths qt_modes qt_takes qt_bytes qt_block qt_tried qt_values qt_system qt_solved qt_places qt_generator qt_readBytes qt_readings ct_fixed ct_modules ct_words vt_thrown vt_length vt_version vt_side vt_made vt_segments vt_bits vt_filled vt_readLength vt_at vt_all vt_fault vt_good vt_fixed nvt_modules nvt_words) (([.ref qt, .int p1, .int p2, .int p3] : List Value).toArray) s 0 0 A) (F0 m 32 ls [.int x8]) := by
          intro x8 Hf H locs  hP hD hS ls hl
          rw [hk9] at Hf
          refine lv_istore (lv' := [(6, .int x8), (0, .ref qt), (1, .int p1), (2, .int p2), (3, .int p3), (4, .int x2), (5, .int x3)]) hx hb d_Md_goThrough_32 hl (by decide) rfl (fun ls hl => ?_)
          refine lv_iconst (v := (0 : Int32)) hx hb d_Md_goThrough_34 (by decide) ?_
          refine lv_istore (lv' := [(7, .int (0 : Int32)), (6, .int x8), (0, .ref qt), (1, .int p1), (2, .int p2), (3, .int p3), (4, .int x2), (5, .int x3)]) hx hb d_Md_goThrough_35 hl (by decide) rfl (fun ls hl => ?_)
          obtain ⟨k13, hk13, Hf⟩ := sq_jn_e Hf
          have Jk13 : ∀ (x10 : Int32) (b11 : Nat → Int32) (b12 : Nat → Int32), k13 x10 b11 b12 = some (nvt_modules, nvt_words) → ∀ (H : Heap) (locs : List Loc), va_P (dC, dI) cl_All (ww_Md_goThrough qt qt_fixed qt_modules qt_words qt_checkBytes qt_blocks qt_data qt_tells qt_segmentModes qt_segmentLengths qt_modes qt_takes qt_bytes qt_block qt_tried qt_values qt_system qt_solved qt_places qt_generator qt_readBytes qt_readings ct_fixed ct_modules ct_words vt_thrown vt_length vt_version vt_side vt_made vt_segments vt_bits vt_filled vt_readLength vt_at vt_all vt_fault vt_good vt_fixed b11 b12) H → va_D A (ww_Md_goThrough qt qt_fixed qt_modules qt_words qt_checkBytes qt_blocks qt_data qt_tells qt_segmentModes qt_segmentLengths qt_modes qt_takes qt_bytes qt_block qt_tried qt_values qt_system qt_solved qt_places qt_generator qt_readBytes qt_readings ct_fixed ct_modules ct_words vt_thrown vt_length vt_version vt_side vt_made vt_segments vt_bits vt_filled vt_readLength vt_at vt_all vt_fault vt_good vt_fixed b11 b12) → va_S A s.heap H locs → ∀ ls : Array Slot, lv_has ls 13 [(0, .ref qt), (1, .int p1), (2, .int p2), (3, .int p3), (4, .int x10), (5, .int x3), (6, .int x8)] → W p l e (headSpec w_Md_goThrough rm_Md_goThrough).room s m (([.ref qt, .int p1, .int p2, .int p3] : List Value).toArray) below meth c H locs 0 0 (MQ below (qc_Md_goThrough dC dI A qt qt_fixed qt_modules qt_words qt_checkBytes qt_blocks qt_data qt_tells qt_segmentModes qt_segmentLengths qt_modes qt_takes qt_bytes qt_block qt_tried qt_values qt_system qt_solved qt_places qt_generator qt_readBytes qt_readings ct_fixed ct_modules ct_words vt_thrown vt_length vt_version vt_side vt_made vt_segments vt_bits vt_filled vt_readLength vt_at vt_all vt_fault vt_good vt_fixed nvt_modules nvt_words) (([.ref qt, .int p1, .int p2, .int p3] : List Value).toArray) s 0 0 A) (F0 m 250 ls []) := by
            intro x10 b11 b12 Hf H locs  hP hD hS ls hl
            rw [hk13] at Hf
            refine lv_iload hx hb d_Md_goThrough_250 (lv_at hl 5 rfl) ?_
            obtain ⟨k15, hk15, Hf⟩ := sq_jn_e Hf
            have Jk15 : ∀ (x14 : Int32), k15 x14 = some (nvt_modules, nvt_words) → ∀ (H : Heap) (locs : List Loc), va_P (dC, dI) cl_All (ww_Md_goThrough qt qt_fixed qt_modules qt_words qt_checkBytes qt_blocks qt_data qt_tells qt_segmentModes qt_segmentLengths qt_modes qt_takes qt_bytes qt_block qt_tried qt_values qt_system qt_solved qt_places qt_generator qt_readBytes qt_readings ct_fixed ct_modules ct_words vt_thrown vt_length vt_version vt_side vt_made vt_segments vt_bits vt_filled vt_readLength vt_at vt_all vt_fault vt_good vt_fixed b11 b12) H → va_D A (ww_Md_goThrough qt qt_fixed qt_modules qt_words qt_checkBytes qt_blocks qt_data qt_tells qt_segmentModes qt_segmentLengths qt_modes qt_takes qt_bytes qt_block qt_tried qt_values qt_system qt_solved qt_places qt_generator qt_readBytes qt_readings ct_fixed ct_modules ct_words vt_thrown vt_length vt_version vt_side vt_made vt_segments vt_bits vt_filled vt_readLength vt_at vt_all vt_fault vt_good vt_fixed b11 b12) → va_S A s.heap H locs → ∀ ls : Array Slot, lv_has ls 13 [(0, .ref qt), (1, .int p1), (2, .int p2), (3, .int p3), (4, .int x10), (6, .int x8)] → W p l e (headSpec w_Md_goThrough rm_Md_goThrough).room s m (([.ref qt, .int p1, .int p2, .int p3] : List Value).toArray) below meth c H locs 0 0 (MQ below (qc_Md_goThrough dC dI A qt qt_fixed qt_modules qt_words qt_checkBytes qt_blocks qt_data qt_tells qt_segmentModes qt_segmentLengths qt_modes qt_takes qt_bytes qt_block qt_tried qt_values qt_system qt_solved qt_places qt_generator qt_readBytes qt_readings ct_fixed ct_modules ct_words vt_thrown vt_length vt_version vt_side vt_made vt_segments vt_bits vt_filled vt_readLength vt_at vt_all vt_fault vt_good vt_fixed nvt_modules nvt_words) (([.ref qt, .int p1, .int p2, .int p3] : List Value).toArray) s 0 0 A) (F0 m 260 ls [.int x14]) := by
              intro x14 Hf H locs  hP hD hS ls hl
              rw [hk15] at Hf
              refine lv_istore (lv' := [(5, .int x14), (0, .ref qt), (1, .int p1), (2, .int p2), (3, .int p3), (4, .int x10), (6, .int x8)]) hx hb d_Md_goThrough_260 hl (by decide) rfl (fun ls hl => ?_)
              obtain ⟨x16, ex16, Hf⟩ := sq_bd_e Hf
              refine lv_iinc (v := x16) (lv' := [(6, .int x16), (5, .int x14), (0, .ref qt), (1, .int p1), (2, .int p2), (3, .int p3), (4, .int x10)]) hx hb d_Md_goThrough_262 hl (k := 6) rfl (by rw [ex16]; rfl) (by decide) rfl (fun ls hl => ?_)
              refine lv_goto (tgt := 14) hx hb d_Md_goThrough_265 (by decide) ?_
              exact ih1 x10 x14 x16 b11 b12 Hf _ _  hP hD hS _ (lv_sub hl [2, 3, 4, 5, 6, 1, 0] rfl)
            refine lv_if_ne (tgt := 259) hx hb d_Md_goThrough_252 (by decide) (fun c17 => ?_) (fun c17 => ?_)
            · replace Hf := sq_ite_f Hf c17
              refine lv_iconst (v := (0 : Int32)) hx hb d_Md_goThrough_259 (by decide) ?_
              exact Jk15 (0 : Int32) Hf _ _  hP hD hS _ (lv_sub hl [0, 1, 2, 3, 4, 6] rfl)
            · replace Hf := sq_ite_t Hf c17
              refine lv_iconst (v := (1 : Int32)) hx hb d_Md_goThrough_255 (by decide) ?_
              refine lv_goto (tgt := 260) hx hb d_Md_goThrough_256 (by decide) ?_
              exact Jk15 (1 : Int32) Hf _ _  hP hD hS _ (lv_sub hl [0, 1, 2, 3, 4, 6] rfl)
          have L2 : ∀ (m2 : Nat), ∀ (x18 : Int32) (x19 : Int32) (b20 : Nat → Int32) (b21 : Nat → Int32), fn_Md_goThrough_L2 p1 p2 p3 vt_side vt_fixed x3 x8 k13 m2 x18 x19 b20 b21 = some (nvt_modules, nvt_words) → ∀ (H : Heap) (locs : List Loc), va_P (dC, dI) cl_All (ww_Md_goThrough qt qt_fixed qt_modules qt_words qt_checkBytes qt_blocks qt_data qt_tells qt_segmentModes qt_segmentLengths qt_modes qt_takes qt_bytes qt_block qt_tried qt_values qt_system qt_solved qt_places qt_generator qt_readBytes qt_readings ct_fixed ct_modules ct_words vt_thrown vt_length vt_version vt_side vt_made vt_segments vt_bits vt_filled vt_readLength vt_at vt_all vt_fault vt_good vt_fixed b20 b21) H → va_D A (ww_Md_goThrough qt qt_fixed qt_modules qt_words qt_checkBytes qt_blocks qt_data qt_tells qt_segmentModes qt_segmentLengths qt_modes qt_takes qt_bytes qt_block qt_tried qt_values qt_system qt_solved qt_places qt_generator qt_readBytes qt_readings ct_fixed ct_modules ct_words vt_thrown vt_length vt_version vt_side vt_made vt_segments vt_bits vt_filled vt_readLength vt_at vt_all vt_fault vt_good vt_fixed b20 b21) → va_S A s.heap H locs → ∀ ls : Array Slot, lv_has ls 13 [(0, .ref qt), (1, .int p1), (2, .int p2), (3, .int p3), (4, .int x18), (5, .int x3), (6, .int x8), (7, .int x19)] → W p l e (headSpec w_Md_goThrough rm_Md_goThrough).room s m (([.ref qt, .int p1, .int p2, .int p3] : List Value).toArray) below meth c H locs 0 0 (MQ below (qc_Md_goThrough dC dI A qt qt_fixed qt_modules qt_words qt_checkBytes qt_blocks qt_data qt_tells qt_segmentModes qt_segmentLengths qt_modes qt_takes qt_bytes qt_block qt_tried qt_values qt_system qt_solved qt_places qt_generator qt_readBytes qt_readings ct_fixed ct_modules ct_words vt_thrown vt_length vt_version vt_side vt_made vt_segments vt_bits vt_filled vt_readLength vt_at vt_all vt_fault vt_good vt_fixed nvt_modules nvt_words) (([.ref qt, .int p1, .int p2, .int p3] : List Value).toArray) s 0 0 A) (F0 m 37 ls []) := by
            intro m2
            induction m2 with
            | zero => intro x18 x19 b20 b21 Hf; exact sq_none Hf
            | succ m2 ih2 =>
              intro x18 x19 b20 b21 Hf H locs  hP hD hS ls hl
              replace Hf := (fn_Md_goThrough_L2_s p1 p2 p3 vt_side vt_fixed x3 x8 k13 m2 x18 x19 b20 b21).symm.trans Hf
              refine lv_iload hx hb d_Md_goThrough_37 (lv_at hl 7 rfl) ?_
              refine lv_iconst (v := (2 : Int32)) hx hb d_Md_goThrough_39 (by decide) ?_
              refine lv_aload_n hx hb d_Md_goThrough_40 rfl (lv_at hl 0 rfl) ?_
              refine va_get (D := (dC, dI)) (ci := 10) (v := .int vt_side) (C := R_Md) (T := F_Md) (N := 34) hx hb ht i_Md hown hK hP 0 rfl rfl 8 (by decide) (ht _ tb_1070) (fun _ h9 => h9) rfl d_Md_goThrough_41 ?_
              refine lv_imul hx hb d_Md_goThrough_44 ?_
              refine lv_icmp_ge (tgt := 250) hx hb d_Md_goThrough_45 (by decide) (fun c22 => ?_) (fun c22 => ?_)
              · replace Hf := sq_ite_t Hf c22
                exact Jk13 x18 b20 b21 Hf _ _  hP hD hS _ (lv_sub hl [0, 1, 2, 3, 4, 5, 6] rfl)
              · replace Hf := sq_ite_f Hf c22
                refine lv_iload hx hb d_Md_goThrough_48 (lv_at hl 5 rfl) ?_
                obtain ⟨k24, hk24, Hf⟩ := sq_jn_e Hf
                have Jk24 : ∀ (x23 : Int32), k24 x23 = some (nvt_modules, nvt_words) → ∀ (H : Heap) (locs : List Loc), va_P (dC, dI) cl_All (ww_Md_goThrough qt qt_fixed qt_modules qt_words qt_checkBytes qt_blocks qt_data qt_tells qt_segmentModes qt_segmentLengths qt_modes qt_takes qt_bytes qt_block qt_tried qt_values qt_system qt_solved qt_places qt_generator qt_readBytes qt_readings ct_fixed ct_modules ct_words vt_thrown vt_length vt_version vt_side vt_made vt_segments vt_bits vt_filled vt_readLength vt_at vt_all vt_fault vt_good vt_fixed b20 b21) H → va_D A (ww_Md_goThrough qt qt_fixed qt_modules qt_words qt_checkBytes qt_blocks qt_data qt_tells qt_segmentModes qt_segmentLengths qt_modes qt_takes qt_bytes qt_block qt_tried qt_values qt_system qt_solved qt_places qt_generator qt_readBytes qt_readings ct_fixed ct_modules ct_words vt_thrown vt_length vt_version vt_side vt_made vt_segments vt_bits vt_filled vt_readLength vt_at vt_all vt_fault vt_good vt_fixed b20 b21) → va_S A s.heap H locs → ∀ ls : Array Slot, lv_has ls 13 [(0, .ref qt), (1, .int p1), (2, .int p2), (3, .int p3), (4, .int x18), (5, .int x3), (6, .int x8), (7, .int x19)] → W p l e (headSpec w_Md_goThrough rm_Md_goThrough).room s m (([.ref qt, .int p1, .int p2, .int p3] : List Value).toArray) below meth c H locs 0 0 (MQ below (qc_Md_goThrough dC dI A qt qt_fixed qt_modules qt_words qt_checkBytes qt_blocks qt_data qt_tells qt_segmentModes qt_segmentLengths qt_modes qt_takes qt_bytes qt_block qt_tried qt_values qt_system qt_solved qt_places qt_generator qt_readBytes qt_readings ct_fixed ct_modules ct_words vt_thrown vt_length vt_version vt_side vt_made vt_segments vt_bits vt_filled vt_readLength vt_at vt_all vt_fault vt_good vt_fixed nvt_modules nvt_words) (([.ref qt, .int p1, .int p2, .int p3] : List Value).toArray) s 0 0 A) (F0 m 71 ls [.int x23]) := by
                  intro x23 Hf H locs  hP hD hS ls hl
                  rw [hk24] at Hf
                  refine lv_istore (lv' := [(8, .int x23), (0, .ref qt), (1, .int p1), (2, .int p2), (3, .int p3), (4, .int x18), (5, .int x3), (6, .int x8), (7, .int x19)]) hx hb d_Md_goThrough_71 hl (by decide) rfl (fun ls hl => ?_)
                  refine lv_iload hx hb d_Md_goThrough_73 (lv_at hl 7 rfl) ?_
                  refine lv_iload hx hb d_Md_goThrough_75 (lv_at hl 8 rfl) ?_
                  refine lv_iconst (v := (2 : Int32)) hx hb d_Md_goThrough_77 (by decide) ?_
                  refine lv_irem hx hb d_Md_goThrough_78 (by decide) ?_
                  obtain ⟨x25, ex25, Hf⟩ := sq_bd_e Hf
                  refine sq_top ex25 ?_
                  refine lv_isub hx hb d_Md_goThrough_79 ?_
                  obtain ⟨x26, ex26, Hf⟩ := sq_bd_e Hf
                  refine sq_top ex26 ?_
                  refine lv_istore (lv' := [(9, .int x26), (8, .int x23), (0, .ref qt), (1, .int p1), (2, .int p2), (3, .int p3), (4, .int x18), (5, .int x3), (6, .int x8), (7, .int x19)]) hx hb d_Md_goThrough_80 hl (by decide) rfl (fun ls hl => ?_)
                  refine lv_aload_n hx hb d_Md_goThrough_82 rfl (lv_at hl 2 rfl) ?_
                  refine lv_iload hx hb d_Md_goThrough_83 (lv_at hl 0 rfl) ?_
                  refine lv_iload hx hb d_Md_goThrough_85 (lv_at hl 1 rfl) ?_
                  obtain ⟨r27, hc28, Hf⟩ := sq_cb1_e Hf
                  refine sq_roi (va_runV (As := [.int x26, .int x23]) (rest := []) ⟨hx, hb, hml, hown, ht⟩ (kt_Md_moduleAt l dC dI qt qt_checkBytes qt_blocks qt_data qt_modules qt_fixed qt_tells qt_segmentModes qt_segmentLengths qt_modes qt_takes qt_bytes qt_words qt_block qt_tried qt_values qt_system qt_solved qt_places qt_generator qt_readBytes qt_readings vt_thrown vt_length vt_version vt_side vt_made vt_segments vt_bits vt_filled vt_readLength vt_at vt_all vt_fault vt_good x26 x23 r27 hc28) (cwV 2 ht (sq_gV tb_1296 tb_1298 sl_49 tb_11 tb_1299) rfl rfl rfl (by decide +kernel) ⟨Nat.le_of_ble_eq_true rfl, Nat.le_of_ble_eq_true rfl⟩) (sq_roV (hP.sub (ws' := (ww_Md_moduleAt qt qt_checkBytes qt_blocks qt_data qt_modules qt_fixed qt_tells qt_segmentModes qt_segmentLengths qt_modes qt_takes qt_bytes qt_words qt_block qt_tried qt_values qt_system qt_solved qt_places qt_generator qt_readBytes qt_readings vt_thrown vt_length vt_version vt_side vt_made vt_segments vt_bits vt_filled vt_readLength vt_at vt_all vt_fault vt_good)) [0] rfl) (hK.sub (tys' := []) [] rfl) (va_recv hK hP (ci := 10) (q0 := 0) rfl rfl)) rfl rfl hl.1 rfl (lv_room (Nat.le_of_ble_eq_true rfl)) d_Md_goThrough_87 ⟨Nat.le_of_ble_eq_true rfl, Nat.le_of_ble_eq_true rfl⟩) ?_
                  refine lv_istore (lv' := [(10, .int r27), (9, .int x26), (8, .int x23), (0, .ref qt), (1, .int p1), (2, .int p2), (3, .int p3), (4, .int x18), (5, .int x3), (6, .int x8), (7, .int x19)]) hx hb d_Md_goThrough_90 hl (by decide) rfl (fun ls hl => ?_)
                  refine lv_aload_n hx hb d_Md_goThrough_92 rfl (lv_at hl 3 rfl) ?_
                  refine va_get (D := (dC, dI)) (ci := 10) (v := .ref qt_fixed) (C := R_Md) (T := F_Md) (N := 34) hx hb ht i_Md hown hK hP 0 rfl rfl 6 (by decide) (ht _ tb_1068) (fun _ h9 => h9) rfl d_Md_goThrough_93 ?_
                  refine lv_iload hx hb d_Md_goThrough_96 (lv_at hl 0 rfl) ?_
                  obtain ⟨hi29, Hf⟩ := sq_gi_e Hf
                  refine va_iald hx hb hK hP 1 0 rfl rfl hi29 d_Md_goThrough_98 ?_
                  obtain ⟨x30, ex30, Hf⟩ := sq_bd_e Hf
                  refine sq_top ex30 ?_
                  obtain ⟨k34, hk34, Hf⟩ := sq_jn_e Hf
                  have Jk34 : ∀ (x31 : Int32) (b32 : Nat → Int32) (b33 : Nat → Int32), k34 x31 b32 b33 = some (nvt_modules, nvt_words) → ∀ (H : Heap) (locs : List Loc), va_P (dC, dI) cl_All (ww_Md_goThrough qt qt_fixed qt_modules qt_words qt_checkBytes qt_blocks qt_data qt_tells qt_segmentModes qt_segmentLengths qt_modes qt_takes qt_bytes qt_block qt_tried qt_values qt_system qt_solved qt_places qt_generator qt_readBytes qt_readings ct_fixed ct_modules ct_words vt_thrown vt_length vt_version vt_side vt_made vt_segments vt_bits vt_filled vt_readLength vt_at vt_all vt_fault vt_good vt_fixed b32 b33) H → va_D A (ww_Md_goThrough qt qt_fixed qt_modules qt_words qt_checkBytes qt_blocks qt_data qt_tells qt_segmentModes qt_segmentLengths qt_modes qt_takes qt_bytes qt_block qt_tried qt_values qt_system qt_solved qt_places qt_generator qt_readBytes qt_readings ct_fixed ct_modules ct_words vt_thrown vt_length vt_version vt_side vt_made vt_segments vt_bits vt_filled vt_readLength vt_at vt_all vt_fault vt_good vt_fixed b32 b33) → va_S A s.heap H locs → ∀ ls : Array Slot, lv_has ls 13 [(0, .ref qt), (1, .int p1), (2, .int p2), (3, .int p3), (4, .int x31), (5, .int x3), (6, .int x8), (7, .int x19)] → W p l e (headSpec w_Md_goThrough rm_Md_goThrough).room s m (([.ref qt, .int p1, .int p2, .int p3] : List Value).toArray) below meth c H locs 0 0 (MQ below (qc_Md_goThrough dC dI A qt qt_fixed qt_modules qt_words qt_checkBytes qt_blocks qt_data qt_tells qt_segmentModes qt_segmentLengths qt_modes qt_takes qt_bytes qt_block qt_tried qt_values qt_system qt_solved qt_places qt_generator qt_readBytes qt_readings ct_fixed ct_modules ct_words vt_thrown vt_length vt_version vt_side vt_made vt_segments vt_bits vt_filled vt_readLength vt_at vt_all vt_fault vt_good vt_fixed nvt_modules nvt_words) (([.ref qt, .int p1, .int p2, .int p3] : List Value).toArray) s 0 0 A) (F0 m 244 ls []) := by
                    intro x31 b32 b33 Hf H locs  hP hD hS ls hl
                    rw [hk34] at Hf
                    obtain ⟨x35, ex35, Hf⟩ := sq_bd_e Hf
                    refine lv_iinc (v := x35) (lv' := [(7, .int x35), (0, .ref qt), (1, .int p1), (2, .int p2), (3, .int p3), (4, .int x31), (5, .int x3), (6, .int x8)]) hx hb d_Md_goThrough_244 hl (k := 7) rfl (by rw [ex35]; rfl) (by decide) rfl (fun ls hl => ?_)
                    refine lv_goto (tgt := 37) hx hb d_Md_goThrough_247 (by decide) ?_
                    exact ih2 x31 x35 b32 b33 Hf _ _  hP hD hS _ (lv_sub hl [1, 2, 3, 4, 5, 6, 7, 0] rfl)
                  refine lv_if_ne (tgt := 244) hx hb d_Md_goThrough_99 (by decide) (fun c36 => ?_) (fun c36 => ?_)
                  · replace Hf := sq_ite_f Hf c36
                    exact Jk34 x18 b20 b21 Hf _ _  hP hD hS _ (lv_sub hl [3, 4, 5, 6, 7, 8, 9, 10] rfl)
                  · replace Hf := sq_ite_t Hf c36
                    refine lv_iload_n hx hb d_Md_goThrough_102 rfl (lv_at hl 4 rfl) ?_
                    refine lv_iload hx hb d_Md_goThrough_103 (lv_at hl 1 rfl) ?_
                    refine lv_iload hx hb d_Md_goThrough_105 (lv_at hl 2 rfl) ?_
                    obtain ⟨r37, hc38, Hf⟩ := sq_cb1_e Hf
                    refine sq_roi (va_runS (As := [.int p1, .int x26, .int x23]) (rest := []) ⟨hx, hb, hml, hown, ht⟩ (kt_Md_masked l dC dI p1 x26 x23 r37 hc38) (va_cwS 3 ht (sq_gS tb_1333 tb_1334 tb_11 tb_1335) rfl rfl rfl (by decide +kernel) ⟨Nat.le_of_ble_eq_true rfl, Nat.le_of_ble_eq_true rfl⟩) (sq_roS (hP.sub (ws' := ([] : va_W)) [] rfl) (hK.sub (tys' := []) [] rfl)) rfl rfl hl.1 rfl (lv_room (Nat.le_of_ble_eq_true rfl)) d_Md_goThrough_107 ⟨Nat.le_of_ble_eq_true rfl, Nat.le_of_ble_eq_true rfl⟩) ?_
                    obtain ⟨k40, hk40, Hf⟩ := sq_jn_e Hf
                    have Jk40 : ∀ (x39 : Int32), k40 x39 = some (nvt_modules, nvt_words) → ∀ (H : Heap) (locs : List Loc), va_P (dC, dI) cl_All (ww_Md_goThrough qt qt_fixed qt_modules qt_words qt_checkBytes qt_blocks qt_data qt_tells qt_segmentModes qt_segmentLengths qt_modes qt_takes qt_bytes qt_block qt_tried qt_values qt_system qt_solved qt_places qt_generator qt_readBytes qt_readings ct_fixed ct_modules ct_words vt_thrown vt_length vt_version vt_side vt_made vt_segments vt_bits vt_filled vt_readLength vt_at vt_all vt_fault vt_good vt_fixed b20 b21) H → va_D A (ww_Md_goThrough qt qt_fixed qt_modules qt_words qt_checkBytes qt_blocks qt_data qt_tells qt_segmentModes qt_segmentLengths qt_modes qt_takes qt_bytes qt_block qt_tried qt_values qt_system qt_solved qt_places qt_generator qt_readBytes qt_readings ct_fixed ct_modules ct_words vt_thrown vt_length vt_version vt_side vt_made vt_segments vt_bits vt_filled vt_readLength vt_at vt_all vt_fault vt_good vt_fixed b20 b21) → va_S A s.heap H locs → ∀ ls : Array Slot, lv_has ls 13 [(0, .ref qt), (1, .int p1), (2, .int p2), (3, .int p3), (4, .int x18), (5, .int x3), (6, .int x8), (7, .int x19), (10, .int r27)] → W p l e (headSpec w_Md_goThrough rm_Md_goThrough).room s m (([.ref qt, .int p1, .int p2, .int p3] : List Value).toArray) below meth c H locs 0 0 (MQ below (qc_Md_goThrough dC dI A qt qt_fixed qt_modules qt_words qt_checkBytes qt_blocks qt_data qt_tells qt_segmentModes qt_segmentLengths qt_modes qt_takes qt_bytes qt_block qt_tried qt_values qt_system qt_solved qt_places qt_generator qt_readBytes qt_readings ct_fixed ct_modules ct_words vt_thrown vt_length vt_version vt_side vt_made vt_segments vt_bits vt_filled vt_readLength vt_at vt_all vt_fault vt_good vt_fixed nvt_modules nvt_words) (([.ref qt, .int p1, .int p2, .int p3] : List Value).toArray) s 0 0 A) (F0 m 118 ls [.int x39]) := by
                      intro x39 Hf H locs  hP hD hS ls hl
                      rw [hk40] at Hf
                      refine lv_istore (lv' := [(11, .int x39), (0, .ref qt), (1, .int p1), (2, .int p2), (3, .int p3), (4, .int x18), (5, .int x3), (6, .int x8), (7, .int x19), (10, .int r27)]) hx hb d_Md_goThrough_118 hl (by decide) rfl (fun ls hl => ?_)
                      refine lv_iload_n hx hb d_Md_goThrough_120 rfl (lv_at hl 3 rfl) ?_
                      obtain ⟨k43, hk43, Hf⟩ := sq_jn_e Hf
                      have Jk43 : ∀ (b41 : Nat → Int32) (b42 : Nat → Int32), k43 b41 b42 = some (nvt_modules, nvt_words) → ∀ (H : Heap) (locs : List Loc), va_P (dC, dI) cl_All (ww_Md_goThrough qt qt_fixed qt_modules qt_words qt_checkBytes qt_blocks qt_data qt_tells qt_segmentModes qt_segmentLengths qt_modes qt_takes qt_bytes qt_block qt_tried qt_values qt_system qt_solved qt_places qt_generator qt_readBytes qt_readings ct_fixed ct_modules ct_words vt_thrown vt_length vt_version vt_side vt_made vt_segments vt_bits vt_filled vt_readLength vt_at vt_all vt_fault vt_good vt_fixed b41 b42) H → va_D A (ww_Md_goThrough qt qt_fixed qt_modules qt_words qt_checkBytes qt_blocks qt_data qt_tells qt_segmentModes qt_segmentLengths qt_modes qt_takes qt_bytes qt_block qt_tried qt_values qt_system qt_solved qt_places qt_generator qt_readBytes qt_readings ct_fixed ct_modules ct_words vt_thrown vt_length vt_version vt_side vt_made vt_segments vt_bits vt_filled vt_readLength vt_at vt_all vt_fault vt_good vt_fixed b41 b42) → va_S A s.heap H locs → ∀ ls : Array Slot, lv_has ls 13 [(0, .ref qt), (1, .int p1), (2, .int p2), (3, .int p3), (4, .int x18), (5, .int x3), (6, .int x8), (7, .int x19)] → W p l e (headSpec w_Md_goThrough rm_Md_goThrough).room s m (([.ref qt, .int p1, .int p2, .int p3] : List Value).toArray) below meth c H locs 0 0 (MQ below (qc_Md_goThrough dC dI A qt qt_fixed qt_modules qt_words qt_checkBytes qt_blocks qt_data qt_tells qt_segmentModes qt_segmentLengths qt_modes qt_takes qt_bytes qt_block qt_tried qt_values qt_system qt_solved qt_places qt_generator qt_readBytes qt_readings ct_fixed ct_modules ct_words vt_thrown vt_length vt_version vt_side vt_made vt_segments vt_bits vt_filled vt_readLength vt_at vt_all vt_fault vt_good vt_fixed nvt_modules nvt_words) (([.ref qt, .int p1, .int p2, .int p3] : List Value).toArray) s 0 0 A) (F0 m 241 ls []) := by
                        intro b41 b42 Hf H locs  hP hD hS ls hl
                        rw [hk43] at Hf
                        obtain ⟨x44, ex44, Hf⟩ := sq_bd_e Hf
                        refine lv_iinc (v := x44) (lv' := [(4, .int x44), (0, .ref qt), (1, .int p1), (2, .int p2), (3, .int p3), (5, .int x3), (6, .int x8), (7, .int x19)]) hx hb d_Md_goThrough_241 hl (k := 4) rfl (by rw [ex44]; rfl) (by decide) rfl (fun ls hl => ?_)
                        exact Jk34 x44 b41 b42 Hf _ _  hP hD hS _ (lv_sub hl [1, 2, 3, 4, 0, 5, 6, 7] rfl)
                      obtain ⟨k45, hk45, Hf⟩ := sq_jn_e Hf
                      have Jk45 : ∀ (_u : Unit), k45 _u = some (nvt_modules, nvt_words) → ∀ (H : Heap) (locs : List Loc), va_P (dC, dI) cl_All (ww_Md_goThrough qt qt_fixed qt_modules qt_words qt_checkBytes qt_blocks qt_data qt_tells qt_segmentModes qt_segmentLengths qt_modes qt_takes qt_bytes qt_block qt_tried qt_values qt_system qt_solved qt_places qt_generator qt_readBytes qt_readings ct_fixed ct_modules ct_words vt_thrown vt_length vt_version vt_side vt_made vt_segments vt_bits vt_filled vt_readLength vt_at vt_all vt_fault vt_good vt_fixed b20 b21) H → va_D A (ww_Md_goThrough qt qt_fixed qt_modules qt_words qt_checkBytes qt_blocks qt_data qt_tells qt_segmentModes qt_segmentLengths qt_modes qt_takes qt_bytes qt_block qt_tried qt_values qt_system qt_solved qt_places qt_generator qt_readBytes qt_readings ct_fixed ct_modules ct_words vt_thrown vt_length vt_version vt_side vt_made vt_segments vt_bits vt_filled vt_readLength vt_at vt_all vt_fault vt_good vt_fixed b20 b21) → va_S A s.heap H locs → ∀ ls : Array Slot, lv_has ls 13 [(0, .ref qt), (1, .int p1), (2, .int p2), (3, .int p3), (4, .int x18), (5, .int x3), (6, .int x8), (7, .int x19), (10, .int r27), (11, .int x39)] → W p l e (headSpec w_Md_goThrough rm_Md_goThrough).room s m (([.ref qt, .int p1, .int p2, .int p3] : List Value).toArray) below meth c H locs 0 0 (MQ below (qc_Md_goThrough dC dI A qt qt_fixed qt_modules qt_words qt_checkBytes qt_blocks qt_data qt_tells qt_segmentModes qt_segmentLengths qt_modes qt_takes qt_bytes qt_block qt_tried qt_values qt_system qt_solved qt_places qt_generator qt_readBytes qt_readings ct_fixed ct_modules ct_words vt_thrown vt_length vt_version vt_side vt_made vt_segments vt_bits vt_filled vt_readLength vt_at vt_all vt_fault vt_good vt_fixed nvt_modules nvt_words) (([.ref qt, .int p1, .int p2, .int p3] : List Value).toArray) s 0 0 A) (F0 m 189 ls []) := by
                        intro _u Hf H locs  hP hD hS ls hl
                        rw [hk45] at Hf
                        refine lv_iload_n hx hb d_Md_goThrough_189 rfl (lv_at hl 2 rfl) ?_
                        refine lv_if_ne (tgt := 241) hx hb d_Md_goThrough_190 (by decide) (fun c46 => ?_) (fun c46 => ?_)
                        · replace Hf := sq_ite_f Hf c46
                          exact Jk43 b20 b21 Hf _ _  hP hD hS _ (lv_sub hl [0, 1, 2, 3, 4, 5, 6, 7] rfl)
                        · replace Hf := sq_ite_t Hf c46
                          refine lv_iload hx hb d_Md_goThrough_193 (lv_at hl 4 rfl) ?_
                          refine lv_bipush (v := (8 : Int32)) hx hb d_Md_goThrough_195 (by decide) ?_
                          refine lv_iload_n hx hb d_Md_goThrough_197 rfl (lv_at hl 3 rfl) ?_
                          refine lv_imul hx hb d_Md_goThrough_198 ?_
                          obtain ⟨k48, hk48, Hf⟩ := sq_jn_e Hf
                          have Jk48 : ∀ (x47 : Int32), k48 x47 = some (nvt_modules, nvt_words) → ∀ (H : Heap) (locs : List Loc), va_P (dC, dI) cl_All (ww_Md_goThrough qt qt_fixed qt_modules qt_words qt_checkBytes qt_blocks qt_data qt_tells qt_segmentModes qt_segmentLengths qt_modes qt_takes qt_bytes qt_block qt_tried qt_values qt_system qt_solved qt_places qt_generator qt_readBytes qt_readings ct_fixed ct_modules ct_words vt_thrown vt_length vt_version vt_side vt_made vt_segments vt_bits vt_filled vt_readLength vt_at vt_all vt_fault vt_good vt_fixed b20 b21) H → va_D A (ww_Md_goThrough qt qt_fixed qt_modules qt_words qt_checkBytes qt_blocks qt_data qt_tells qt_segmentModes qt_segmentLengths qt_modes qt_takes qt_bytes qt_block qt_tried qt_values qt_system qt_solved qt_places qt_generator qt_readBytes qt_readings ct_fixed ct_modules ct_words vt_thrown vt_length vt_version vt_side vt_made vt_segments vt_bits vt_filled vt_readLength vt_at vt_all vt_fault vt_good vt_fixed b20 b21) → va_S A s.heap H locs → ∀ ls : Array Slot, lv_has ls 13 [(0, .ref qt), (1, .int p1), (2, .int p2), (3, .int p3), (4, .int x18), (5, .int x3), (6, .int x8), (7, .int x19), (10, .int r27), (11, .int x39)] → W p l e (headSpec w_Md_goThrough rm_Md_goThrough).room s m (([.ref qt, .int p1, .int p2, .int p3] : List Value).toArray) below meth c H locs 0 0 (MQ below (qc_Md_goThrough dC dI A qt qt_fixed qt_modules qt_words qt_checkBytes qt_blocks qt_data qt_tells qt_segmentModes qt_segmentLengths qt_modes qt_takes qt_bytes qt_block qt_tried qt_values qt_system qt_solved qt_places qt_generator qt_readBytes qt_readings ct_fixed ct_modules ct_words vt_thrown vt_length vt_version vt_side vt_made vt_segments vt_bits vt_filled vt_readLength vt_at vt_all vt_fault vt_good vt_fixed nvt_modules nvt_words) (([.ref qt, .int p1, .int p2, .int p3] : List Value).toArray) s 0 0 A) (F0 m 227 ls [.int x47]) := by
                            intro x47 Hf H locs  hP hD hS ls hl
                            rw [hk48] at Hf
                            refine lv_istore (lv' := [(12, .int x47), (0, .ref qt), (1, .int p1), (2, .int p2), (3, .int p3), (4, .int x18), (5, .int x3), (6, .int x8), (7, .int x19), (10, .int r27), (11, .int x39)]) hx hb d_Md_goThrough_227 hl (by decide) rfl (fun ls hl => ?_)
                            refine lv_aload_n hx hb d_Md_goThrough_229 rfl (lv_at hl 1 rfl) ?_
                            refine va_get (D := (dC, dI)) (ci := 10) (v := .ref qt_modules) (C := R_Md) (T := F_Md) (N := 34) hx hb ht i_Md hown hK hP 0 rfl rfl 5 (by decide) (ht _ tb_1067) (fun _ h9 => h9) rfl d_Md_goThrough_230 ?_
                            refine lv_iload hx hb d_Md_goThrough_233 (lv_at hl 9 rfl) ?_
                            refine lv_iload hx hb d_Md_goThrough_235 (lv_at hl 0 rfl) ?_
                            refine lv_iload hx hb d_Md_goThrough_237 (lv_at hl 10 rfl) ?_
                            refine lv_ixor hx hb d_Md_goThrough_239 ?_
                            obtain ⟨x49, ex49, Hf⟩ := sq_bd_e Hf
                            refine sq_top ex49 ?_
                            obtain ⟨hi50, Hf⟩ := sq_gi_e Hf
                            obtain ⟨b51, eb51, Hf⟩ := sq_bd_e Hf
                            refine va_iast hx hb hK hP hD hS 2 1 rfl rfl hi50 d_Md_goThrough_240 (fun H locs hP hD hS => ?_)
                            rw [← eb51] at hP hD
                            replace hP : va_P (dC, dI) cl_All (ww_Md_goThrough qt qt_fixed qt_modules qt_words qt_checkBytes qt_blocks qt_data qt_tells qt_segmentModes qt_segmentLengths qt_modes qt_takes qt_bytes qt_block qt_tried qt_values qt_system qt_solved qt_places qt_generator qt_readBytes qt_readings ct_fixed ct_modules ct_words vt_thrown vt_length vt_version vt_side vt_made vt_segments vt_bits vt_filled vt_readLength vt_at vt_all vt_fault vt_good vt_fixed b51 b21) H := hP
                            replace hD : va_D A (ww_Md_goThrough qt qt_fixed qt_modules qt_words qt_checkBytes qt_blocks qt_data qt_tells qt_segmentModes qt_segmentLengths qt_modes qt_takes qt_bytes qt_block qt_tried qt_values qt_system qt_solved qt_places qt_generator qt_readBytes qt_readings ct_fixed ct_modules ct_words vt_thrown vt_length vt_version vt_side vt_made vt_segments vt_bits vt_filled vt_readLength vt_at vt_all vt_fault vt_good vt_fixed b51 b21) := hD
                            exact Jk43 b51 b21 Hf _ _  hP hD hS _ (lv_sub hl [1, 2, 3, 4, 5, 6, 7, 8] rfl)
                          refine lv_icmp_ge (tgt := 226) hx hb d_Md_goThrough_199 (by decide) (fun c52 => ?_) (fun c52 => ?_)
                          · replace Hf := sq_ite_t Hf c52
                            refine lv_iconst (v := (0 : Int32)) hx hb d_Md_goThrough_226 (by decide) ?_
                            exact Jk48 (0 : Int32) Hf _ _  hP hD hS _ (lv_sub hl [0, 1, 2, 3, 4, 5, 6, 7, 8, 9] rfl)
                          · replace Hf := sq_ite_f Hf c52
                            refine lv_aload_n hx hb d_Md_goThrough_202 rfl (lv_at hl 0 rfl) ?_
                            refine va_get (D := (dC, dI)) (ci := 10) (v := .ref qt_words) (C := R_Md) (T := F_Md) (N := 34) hx hb ht i_Md hown hK hP 0 rfl rfl 18 (by decide) (ht _ tb_1080) (fun _ h9 => h9) rfl d_Md_goThrough_203 ?_
                            refine lv_iload hx hb d_Md_goThrough_206 (lv_at hl 4 rfl) ?_
                            refine lv_bipush (v := (8 : Int32)) hx hb d_Md_goThrough_208 (by decide) ?_
                            refine lv_idiv hx hb d_Md_goThrough_210 (by decide) ?_
                            obtain ⟨x53, ex53, Hf⟩ := sq_bd_e Hf
                            refine sq_top ex53 ?_
                            obtain ⟨hi54, Hf⟩ := sq_gi_e Hf
                            refine va_iald hx hb hK hP 3 2 rfl rfl hi54 d_Md_goThrough_211 ?_
                            obtain ⟨x55, ex55, Hf⟩ := sq_bd_e Hf
                            refine sq_top ex55 ?_
                            refine lv_bipush (v := (7 : Int32)) hx hb d_Md_goThrough_212 (by decide) ?_
                            refine lv_iload hx hb d_Md_goThrough_214 (lv_at hl 4 rfl) ?_
                            refine lv_bipush (v := (8 : Int32)) hx hb d_Md_goThrough_216 (by decide) ?_
                            refine lv_irem hx hb d_Md_goThrough_218 (by decide) ?_
                            obtain ⟨x56, ex56, Hf⟩ := sq_bd_e Hf
                            refine sq_top ex56 ?_
                            refine lv_isub hx hb d_Md_goThrough_219 ?_
                            refine lv_ishr hx hb d_Md_goThrough_220 ?_
                            refine lv_iconst (v := (1 : Int32)) hx hb d_Md_goThrough_221 (by decide) ?_
                            refine lv_iand hx hb d_Md_goThrough_222 ?_
                            refine lv_goto (tgt := 227) hx hb d_Md_goThrough_223 (by decide) ?_
                            exact Jk48 ((x55 >>> (((7 : Int32) - x56) &&& 31)) &&& (1 : Int32)) Hf _ _  hP hD hS _ (lv_sub hl [0, 1, 2, 3, 4, 5, 6, 7, 8, 9] rfl)
                      refine lv_if_eq (tgt := 189) hx hb d_Md_goThrough_121 (by decide) (fun c57 => ?_) (fun c57 => ?_)
                      · replace Hf := sq_ite_t Hf c57
                        exact Jk45 () Hf _ _  hP hD hS _ (lv_sub hl [1, 2, 3, 4, 5, 6, 7, 8, 9, 0] rfl)
                      · replace Hf := sq_ite_f Hf c57
                        refine lv_iload hx hb d_Md_goThrough_124 (lv_at hl 5 rfl) ?_
                        refine lv_bipush (v := (8 : Int32)) hx hb d_Md_goThrough_126 (by decide) ?_
                        refine lv_iload_n hx hb d_Md_goThrough_128 rfl (lv_at hl 4 rfl) ?_
                        refine lv_imul hx hb d_Md_goThrough_129 ?_
                        refine lv_icmp_ge (tgt := 189) hx hb d_Md_goThrough_130 (by decide) (fun c58 => ?_) (fun c58 => ?_)
                        · replace Hf := sq_ite_t Hf c58
                          exact Jk45 () Hf _ _  hP hD hS _ (lv_sub hl [1, 2, 3, 4, 5, 6, 7, 8, 9, 0] rfl)
                        · replace Hf := sq_ite_f Hf c58
                          refine lv_aload_n hx hb d_Md_goThrough_133 rfl (lv_at hl 1 rfl) ?_
                          refine va_get (D := (dC, dI)) (ci := 10) (v := .ref qt_words) (C := R_Md) (T := F_Md) (N := 34) hx hb ht i_Md hown hK hP 0 rfl rfl 18 (by decide) (ht _ tb_1080) (fun _ h9 => h9) rfl d_Md_goThrough_134 ?_
                          refine lv_iload hx hb d_Md_goThrough_137 (lv_at hl 5 rfl) ?_
                          refine lv_bipush (v := (8 : Int32)) hx hb d_Md_goThrough_139 (by decide) ?_
                          refine lv_idiv hx hb d_Md_goThrough_141 (by decide) ?_
                          refine lv_aload_n hx hb d_Md_goThrough_142 rfl (lv_at hl 1 rfl) ?_
                          refine va_get (D := (dC, dI)) (ci := 10) (v := .ref qt_words) (C := R_Md) (T := F_Md) (N := 34) hx hb ht i_Md hown hK hP 0 rfl rfl 18 (by decide) (ht _ tb_1080) (fun _ h9 => h9) rfl d_Md_goThrough_143 ?_
                          refine lv_iload hx hb d_Md_goThrough_146 (lv_at hl 5 rfl) ?_
                          refine lv_bipush (v := (8 : Int32)) hx hb d_Md_goThrough_148 (by decide) ?_
                          refine lv_idiv hx hb d_Md_goThrough_150 (by decide) ?_
                          obtain ⟨x59, ex59, Hf⟩ := sq_bd_e Hf
                          refine sq_top ex59 ?_
                          obtain ⟨hi60, Hf⟩ := sq_gi_e Hf
                          refine va_iald hx hb hK hP 3 2 rfl rfl hi60 d_Md_goThrough_151 ?_
                          obtain ⟨x61, ex61, Hf⟩ := sq_bd_e Hf
                          refine sq_top ex61 ?_
                          refine lv_iconst (v := (1 : Int32)) hx hb d_Md_goThrough_152 (by decide) ?_
                          refine lv_bipush (v := (7 : Int32)) hx hb d_Md_goThrough_153 (by decide) ?_
                          refine lv_iload hx hb d_Md_goThrough_155 (lv_at hl 5 rfl) ?_
                          refine lv_bipush (v := (8 : Int32)) hx hb d_Md_goThrough_157 (by decide) ?_
                          refine lv_irem hx hb d_Md_goThrough_159 (by decide) ?_
                          obtain ⟨x62, ex62, Hf⟩ := sq_bd_e Hf
                          refine sq_top ex62 ?_
                          refine lv_isub hx hb d_Md_goThrough_160 ?_
                          refine lv_ishl hx hb d_Md_goThrough_161 ?_
                          refine lv_iconst (v := (-1 : Int32)) hx hb d_Md_goThrough_162 (by decide) ?_
                          refine lv_ixor hx hb d_Md_goThrough_163 ?_
                          refine lv_iand hx hb d_Md_goThrough_164 ?_
                          refine lv_aload_n hx hb d_Md_goThrough_165 rfl (lv_at hl 1 rfl) ?_
                          refine va_get (D := (dC, dI)) (ci := 10) (v := .ref qt_modules) (C := R_Md) (T := F_Md) (N := 34) hx hb ht i_Md hown hK hP 0 rfl rfl 5 (by decide) (ht _ tb_1067) (fun _ h9 => h9) rfl d_Md_goThrough_166 ?_
                          refine lv_iload hx hb d_Md_goThrough_169 (lv_at hl 9 rfl) ?_
                          obtain ⟨hi63, Hf⟩ := sq_gi_e Hf
                          refine va_iald hx hb hK hP 2 1 rfl rfl hi63 d_Md_goThrough_171 ?_
                          obtain ⟨x64, ex64, Hf⟩ := sq_bd_e Hf
                          refine sq_top ex64 ?_
                          refine lv_iload hx hb d_Md_goThrough_172 (lv_at hl 0 rfl) ?_
                          refine lv_ixor hx hb d_Md_goThrough_174 ?_
                          refine lv_bipush (v := (7 : Int32)) hx hb d_Md_goThrough_175 (by decide) ?_
                          refine lv_iload hx hb d_Md_goThrough_177 (lv_at hl 5 rfl) ?_
                          refine lv_bipush (v := (8 : Int32)) hx hb d_Md_goThrough_179 (by decide) ?_
                          refine lv_irem hx hb d_Md_goThrough_181 (by decide) ?_
                          obtain ⟨x65, ex65, Hf⟩ := sq_bd_e Hf
                          refine sq_top ex65 ?_
                          refine lv_isub hx hb d_Md_goThrough_182 ?_
                          refine lv_ishl hx hb d_Md_goThrough_183 ?_
                          refine lv_ior hx hb d_Md_goThrough_184 ?_
                          obtain ⟨x66, ex66, Hf⟩ := sq_bd_e Hf
                          refine sq_top ex66 ?_
                          obtain ⟨x68, ex68, Hf⟩ := sq_bd_e Hf
                          refine sq_top2 ex68 ?_
                          obtain ⟨hi67, Hf⟩ := sq_gi_e Hf
                          obtain ⟨b69, eb69, Hf⟩ := sq_bd_e Hf
                          refine va_iast hx hb hK hP hD hS 3 2 rfl rfl hi67 d_Md_goThrough_185 (fun H locs hP hD hS => ?_)
                          rw [← eb69] at hP hD
                          replace hP : va_P (dC, dI) cl_All (ww_Md_goThrough qt qt_fixed qt_modules qt_words qt_checkBytes qt_blocks qt_data qt_tells qt_segmentModes qt_segmentLengths qt_modes qt_takes qt_bytes qt_block qt_tried qt_values qt_system qt_solved qt_places qt_generator qt_readBytes qt_readings ct_fixed ct_modules ct_words vt_thrown vt_length vt_version vt_side vt_made vt_segments vt_bits vt_filled vt_readLength vt_at vt_all vt_fault vt_good vt_fixed b20 b69) H := hP
                          replace hD : va_D A (ww_Md_goThrough qt qt_fixed qt_modules qt_words qt_checkBytes qt_blocks qt_data qt_tells qt_segmentModes qt_segmentLengths qt_modes qt_takes qt_bytes qt_block qt_tried qt_values qt_system qt_solved qt_places qt_generator qt_readBytes qt_readings ct_fixed ct_modules ct_words vt_thrown vt_length vt_version vt_side vt_made vt_segments vt_bits vt_filled vt_readLength vt_at vt_all vt_fault vt_good vt_fixed b20 b69) := hD
                          refine lv_goto (tgt := 241) hx hb d_Md_goThrough_186 (by decide) ?_
                          exact Jk43 b20 b69 Hf _ _  hP hD hS _ (lv_sub hl [1, 2, 3, 4, 5, 6, 7, 8] rfl)
                    refine lv_if_eq (tgt := 117) hx hb d_Md_goThrough_110 (by decide) (fun c70 => ?_) (fun c70 => ?_)
                    · replace Hf := sq_ite_t Hf c70
                      refine lv_iconst (v := (0 : Int32)) hx hb d_Md_goThrough_117 (by decide) ?_
                      exact Jk40 (0 : Int32) Hf _ _  hP hD hS _ (lv_sub hl [3, 4, 5, 6, 7, 8, 9, 10, 0] rfl)
                    · replace Hf := sq_ite_f Hf c70
                      refine lv_iconst (v := (1 : Int32)) hx hb d_Md_goThrough_113 (by decide) ?_
                      refine lv_goto (tgt := 118) hx hb d_Md_goThrough_114 (by decide) ?_
                      exact Jk40 (1 : Int32) Hf _ _  hP hD hS _ (lv_sub hl [3, 4, 5, 6, 7, 8, 9, 10, 0] rfl)
                refine lv_if_eq (tgt := 67) hx hb d_Md_goThrough_50 (by decide) (fun c71 => ?_) (fun c71 => ?_)
                · replace Hf := sq_ite_t Hf c71
                  refine lv_iload hx hb d_Md_goThrough_67 (lv_at hl 7 rfl) ?_
                  refine lv_iconst (v := (2 : Int32)) hx hb d_Md_goThrough_69 (by decide) ?_
                  refine lv_idiv hx hb d_Md_goThrough_70 (by decide) ?_
                  exact Jk24 (x19 / (2 : Int32)) Hf _ _  hP hD hS _ (lv_sub hl [0, 1, 2, 3, 4, 5, 6, 7] rfl)
                · replace Hf := sq_ite_f Hf c71
                  refine lv_aload_n hx hb d_Md_goThrough_53 rfl (lv_at hl 0 rfl) ?_
                  refine va_get (D := (dC, dI)) (ci := 10) (v := .int vt_side) (C := R_Md) (T := F_Md) (N := 34) hx hb ht i_Md hown hK hP 0 rfl rfl 8 (by decide) (ht _ tb_1070) (fun _ h9 => h9) rfl d_Md_goThrough_54 ?_
                  refine lv_iconst (v := (1 : Int32)) hx hb d_Md_goThrough_57 (by decide) ?_
                  refine lv_isub hx hb d_Md_goThrough_58 ?_
                  refine lv_iload hx hb d_Md_goThrough_59 (lv_at hl 7 rfl) ?_
                  refine lv_iconst (v := (2 : Int32)) hx hb d_Md_goThrough_61 (by decide) ?_
                  refine lv_idiv hx hb d_Md_goThrough_62 (by decide) ?_
                  refine lv_isub hx hb d_Md_goThrough_63 ?_
                  refine lv_goto (tgt := 71) hx hb d_Md_goThrough_64 (by decide) ?_
                  exact Jk24 ((vt_side - (1 : Int32)) - (x19 / (2 : Int32))) Hf _ _  hP hD hS _ (lv_sub hl [0, 1, 2, 3, 4, 5, 6, 7] rfl)
          exact L2 n0 x2 (0 : Int32) b5 b6 Hf _ _  hP hD hS _ (lv_sub hl [2, 3, 4, 5, 6, 7, 1, 0] rfl)
        refine lv_icmp_ne (tgt := 30) hx hb d_Md_goThrough_23 (by decide) (fun c72 => ?_) (fun c72 => ?_)
        · replace Hf := sq_ite_f Hf c72
          refine lv_iload hx hb d_Md_goThrough_30 (lv_at hl 6 rfl) ?_
          exact Jk9 x4 Hf _ _  hP hD hS _ (lv_sub hl [0, 1, 2, 3, 4, 5] rfl)
        · replace Hf := sq_ite_t Hf c72
          refine lv_iconst (v := (5 : Int32)) hx hb d_Md_goThrough_26 (by decide) ?_
          refine lv_goto (tgt := 32) hx hb d_Md_goThrough_27 (by decide) ?_
          exact Jk9 (5 : Int32) Hf _ _  hP hD hS _ (lv_sub hl [0, 1, 2, 3, 4, 5] rfl)
  exact L1 n0 (0 : Int32) (1 : Int32) x1 vt_modules vt_words Hf _ _  hP hD hS _ (lv_sub hl [3, 4, 5, 6, 2, 1, 0] rfl)

def fn_Md_module (p1 : Int32) (p2 : Int32) (p3 : Int32) (vt_modules : Nat → Int32) : Option (Int32) :=
  if p3 = 0 then (sq_bd (p1 + ((177 : Int32) * p2)) fun x2 => sq_gi x2 31329 <| sq_bd (vt_modules x2.toNatClampNeg) fun x4 => some (x4)) else (sq_bd (p2 + ((177 : Int32) * p1)) fun x5 => sq_gi x5 31329 <| sq_bd (vt_modules x5.toNatClampNeg) fun x7 => some (x7))
abbrev ww_Md_module (qt qt_modules qt_checkBytes qt_blocks qt_data qt_fixed qt_tells qt_segmentModes qt_segmentLengths qt_modes qt_takes qt_bytes qt_words qt_block qt_tried qt_values qt_system qt_solved qt_places qt_generator qt_readBytes qt_readings : Nat) (ct_modules : ClassId) (vt_thrown : Int32) (vt_length : Int32) (vt_version : Int32) (vt_side : Int32) (vt_made : Int32) (vt_segments : Int32) (vt_bits : Int32) (vt_filled : Int32) (vt_readLength : Int32) (vt_at : Int32) (vt_all : Int32) (vt_fault : Int32) (vt_good : Int32) (vt_modules : Nat → Int32) : va_W := [(qt, .inr (10, [.int vt_thrown, .ref qt_checkBytes, .ref qt_blocks, .ref qt_data, .int vt_length, .ref qt_modules, .ref qt_fixed, .int vt_version, .int vt_side, .int vt_made, .ref qt_tells, .ref qt_segmentModes, .ref qt_segmentLengths, .int vt_segments, .ref qt_modes, .ref qt_takes, .int vt_bits, .ref qt_bytes, .ref qt_words, .int vt_filled, .ref qt_block, .ref qt_tried, .ref qt_values, .ref qt_system, .ref qt_solved, .ref qt_places, .ref qt_generator, .ref qt_readBytes, .int vt_readLength, .int vt_at, .int vt_all, .int vt_fault, .int vt_good, .ref qt_readings])), (qt_modules, .inl (ct_modules, 31329, .inl vt_modules))]

def rm_Md_module : Room := { frames := 0, cells := 0, slots := 0, locals := 0 }
abbrev qc_Md_module (r0 : Int32) : Array Value → State → Outcome → State → Prop := vp_Si (fun r => r = r0)

set_option maxHeartbeats 4000000 in
set_option maxRecDepth 100000 in
theorem kt_Md_module (l : Launch) (dC : Nat → ClassId) (dI : Nat → Nat → Nat) (qt qt_modules qt_checkBytes qt_blocks qt_data qt_fixed qt_tells qt_segmentModes qt_segmentLengths qt_modes qt_takes qt_bytes qt_words qt_block qt_tried qt_values qt_system qt_solved qt_places qt_generator qt_readBytes qt_readings : Nat) (ct_modules : ClassId) (vt_thrown : Int32) (vt_length : Int32) (vt_version : Int32) (vt_side : Int32) (vt_made : Int32) (vt_segments : Int32) (vt_bits : Int32) (vt_filled : Int32) (vt_readLength : Int32) (vt_at : Int32) (vt_all : Int32) (vt_fault : Int32) (vt_good : Int32) (vt_modules : Nat → Int32) (p1 : Int32) (p2 : Int32) (p3 : Int32) (r0 : Int32) (Hf : fn_Md_module p1 p2 p3 vt_modules = some r0) : Met l y_Md_module w_Md_module rm_Md_module (va_Pc [.ref qt, .int p1, .int p2, .int p3] (fun U => va_P (dC, dI) cl_All (ww_Md_module qt qt_modules qt_checkBytes qt_blocks qt_data qt_fixed qt_tells qt_segmentModes qt_segmentLengths qt_modes qt_takes qt_bytes qt_words qt_block qt_tried qt_values qt_system qt_solved qt_places qt_generator qt_readBytes qt_readings ct_modules vt_thrown vt_length vt_version vt_side vt_made vt_segments vt_bits vt_filled vt_readLength vt_at vt_all vt_fault vt_good vt_modules) U.heap ∧ va_K (dC, dI) cl_All [(ct_modules, .int)] U)) (qc_Md_module r0) 0 0 (fun _ => False) := by
  refine Met.ofW (cc := prog_14_method_46_code) (maxL := 4) (ret := (some .int)) (by decide) rfl ?_
  intro p e s m args below meth c s₁ B hml hv
  obtain ⟨rfl, hP, hK⟩ := hv
  have hx := B.exec; have hb := B.bytes; have hr := B.returns; have hlocks := B.notSynchronized
  have ht : ∀ w ∈ lw_g, w.before _ s = true := fun w h => atoms_spec (ws := w_Md_module) B.pre w (List.mem_cons_of_mem _ h)
  have hown : s.vm.findClass "SquareSymbolsModel" = some m.cls := findClass_of_methodNamed B.named
  have hl := lv_entry ([.ref qt, .int p1, .int p2, .int p3]) (n := 4) (Nat.le_of_ble_eq_true rfl)
  rw [lg_entry_eq]
  generalize (lg_sl ([.ref qt, .int p1, .int p2, .int p3]) ++ List.replicate (4 - (lg_sl ([.ref qt, .int p1, .int p2, .int p3])).length) Slot.unset).toArray = ls at hl ⊢
  have hl : lv_has ls 4 [(0, .ref qt), (1, .int p1), (2, .int p2), (3, .int p3)] := hl
  refine lv_aload_n hx hb d_Md_module_0 rfl (lv_at hl 0 rfl) ?_
  refine va_get (D := (dC, dI)) (ci := 10) (v := .ref qt_modules) (C := R_Md) (T := F_Md) (N := 34) hx hb ht i_Md hown hK hP 0 rfl rfl 5 (by decide) (ht _ tb_1067) (fun _ h9 => h9) rfl d_Md_module_1 ?_
  refine lv_iload_n hx hb d_Md_module_4 rfl (lv_at hl 3 rfl) ?_
  refine lv_if_eq (tgt := 18) hx hb d_Md_module_5 (by decide) (fun c1 => ?_) (fun c1 => ?_)
  · replace Hf := sq_ite_t Hf c1
    refine lv_iload_n hx hb d_Md_module_18 rfl (lv_at hl 1 rfl) ?_
    refine lv_sipush (v := (177 : Int32)) hx hb d_Md_module_19 (by decide) ?_
    refine lv_iload_n hx hb d_Md_module_22 rfl (lv_at hl 2 rfl) ?_
    refine lv_imul hx hb d_Md_module_23 ?_
    refine lv_iadd hx hb d_Md_module_24 ?_
    obtain ⟨x2, ex2, Hf⟩ := sq_bd_e Hf
    refine sq_top ex2 ?_
    obtain ⟨hi3, Hf⟩ := sq_gi_e Hf
    refine va_iald hx hb hK hP 1 0 rfl rfl hi3 d_Md_module_25 ?_
    obtain ⟨x4, ex4, Hf⟩ := sq_bd_e Hf
    refine sq_top ex4 ?_
    have er := Option.some.inj Hf
    exact W.iret hx hb hr (fun t ht hW => ⟨_, rfl, er, ht⟩) (fun q h => by cases h) d_Md_module_26
  · replace Hf := sq_ite_f Hf c1
    refine lv_iload_n hx hb d_Md_module_8 rfl (lv_at hl 2 rfl) ?_
    refine lv_sipush (v := (177 : Int32)) hx hb d_Md_module_9 (by decide) ?_
    refine lv_iload_n hx hb d_Md_module_12 rfl (lv_at hl 1 rfl) ?_
    refine lv_imul hx hb d_Md_module_13 ?_
    refine lv_iadd hx hb d_Md_module_14 ?_
    refine lv_goto (tgt := 25) hx hb d_Md_module_15 (by decide) ?_
    obtain ⟨x5, ex5, Hf⟩ := sq_bd_e Hf
    refine sq_top ex5 ?_
    obtain ⟨hi6, Hf⟩ := sq_gi_e Hf
    refine va_iald hx hb hK hP 1 0 rfl rfl hi6 d_Md_module_25 ?_
    obtain ⟨x7, ex7, Hf⟩ := sq_bd_e Hf
    refine sq_top ex7 ?_
    have er := Option.some.inj Hf
    exact W.iret hx hb hr (fun t ht hW => ⟨_, rfl, er, ht⟩) (fun q h => by cases h) d_Md_module_26

def fn_Md_lines_L2 (p1 : Int32) (vt_side : Int32) (vt_modules : Nat → Int32) (x2 : Int32) (k5 : Int32 → Option (Int32)) : Nat → Int32 → Int32 → Int32 → Int32 → Option (Int32)
  | 0, _, _, _, _ => none
  | m2 + 1, x7, x8, x9, x10 => if vt_side ≤ x10 then (k5 x7) else (sq_cb1 (fn_Md_module x10 x2 p1 vt_modules) fun r12 => sq_jn (fun (x14 : Int32) => sq_jn (fun (x16 : Int32) => sq_bd (((x9 <<< ((1 : Int32) &&& 31)) ||| r12) &&& (2047 : Int32)) fun x18 => sq_jn (fun (x19 : Int32) => sq_bd (x10 + (1 : Int32)) fun x21 => fn_Md_lines_L2 p1 vt_side vt_modules x2 k5 m2 x19 x14 x18 x21) fun k20 => sq_jn (fun (_ : Unit) => k20 x16) fun k22 => if x10 < (10 : Int32) then (k22 ()) else (sq_jn (fun (_ : Unit) => k20 (x16 + (40 : Int32))) fun k24 => if x18 = (1488 : Int32) then (k24 ()) else (if x18 = (93 : Int32) then (k24 ()) else (k22 ())))) fun k17 => if x14 = (5 : Int32) then (k17 (x7 + (3 : Int32))) else (if x14 ≤ (5 : Int32) then (k17 x7) else (k17 (x7 + (1 : Int32))))) fun k15 => sq_jn (fun (_ : Unit) => k15 (1 : Int32)) fun k29 => if x10 ≤ 0 then (k29 ()) else (sq_cb1 (fn_Md_module (x10 - (1 : Int32)) x2 p1 vt_modules) fun r31 => if r31 = r12 then (k15 (x8 + (1 : Int32))) else (k29 ())))
theorem fn_Md_lines_L2_s (p1 : Int32) (vt_side : Int32) (vt_modules : Nat → Int32) (x2 : Int32) (k5 : Int32 → Option (Int32)) (m2 : Nat) (x7 : Int32) (x8 : Int32) (x9 : Int32) (x10 : Int32) : fn_Md_lines_L2 p1 vt_side vt_modules x2 k5 (m2 + 1) x7 x8 x9 x10 = if vt_side ≤ x10 then (k5 x7) else (sq_cb1 (fn_Md_module x10 x2 p1 vt_modules) fun r12 => sq_jn (fun (x14 : Int32) => sq_jn (fun (x16 : Int32) => sq_bd (((x9 <<< ((1 : Int32) &&& 31)) ||| r12) &&& (2047 : Int32)) fun x18 => sq_jn (fun (x19 : Int32) => sq_bd (x10 + (1 : Int32)) fun x21 => fn_Md_lines_L2 p1 vt_side vt_modules x2 k5 m2 x19 x14 x18 x21) fun k20 => sq_jn (fun (_ : Unit) => k20 x16) fun k22 => if x10 < (10 : Int32) then (k22 ()) else (sq_jn (fun (_ : Unit) => k20 (x16 + (40 : Int32))) fun k24 => if x18 = (1488 : Int32) then (k24 ()) else (if x18 = (93 : Int32) then (k24 ()) else (k22 ())))) fun k17 => if x14 = (5 : Int32) then (k17 (x7 + (3 : Int32))) else (if x14 ≤ (5 : Int32) then (k17 x7) else (k17 (x7 + (1 : Int32))))) fun k15 => sq_jn (fun (_ : Unit) => k15 (1 : Int32)) fun k29 => if x10 ≤ 0 then (k29 ()) else (sq_cb1 (fn_Md_module (x10 - (1 : Int32)) x2 p1 vt_modules) fun r31 => if r31 = r12 then (k15 (x8 + (1 : Int32))) else (k29 ()))) := rfl
def fn_Md_lines_L1 (p1 : Int32) (n0 : Nat) (vt_side : Int32) (vt_modules : Nat → Int32) : Nat → Int32 → Int32 → Option (Int32)
  | 0, _, _ => none
  | m1 + 1, x1, x2 => if vt_side ≤ x2 then (some (x1)) else (sq_jn (fun (x4 : Int32) => sq_bd (x2 + (1 : Int32)) fun x6 => fn_Md_lines_L1 p1 n0 vt_side vt_modules m1 x4 x6) fun k5 => fn_Md_lines_L2 p1 vt_side vt_modules x2 k5 n0 x1 (0 : Int32) (0 : Int32) (0 : Int32))
theorem fn_Md_lines_L1_s (p1 : Int32) (n0 : Nat) (vt_side : Int32) (vt_modules : Nat → Int32) (m1 : Nat) (x1 : Int32) (x2 : Int32) : fn_Md_lines_L1 p1 n0 vt_side vt_modules (m1 + 1) x1 x2 = if vt_side ≤ x2 then (some (x1)) else (sq_jn (fun (x4 : Int32) => sq_bd (x2 + (1 : Int32)) fun x6 => fn_Md_lines_L1 p1 n0 vt_side vt_modules m1 x4 x6) fun k5 => fn_Md_lines_L2 p1 vt_side vt_modules x2 k5 n0 x1 (0 : Int32) (0 : Int32) (0 : Int32)) := rfl
def fn_Md_lines (n0 : Nat) (p1 : Int32) (vt_side : Int32) (vt_modules : Nat → Int32) : Option (Int32) :=
  fn_Md_lines_L1 p1 n0 vt_side vt_modules n0 (0 : Int32) (0 : Int32)
abbrev ww_Md_lines (qt qt_modules qt_checkBytes qt_blocks qt_data qt_fixed qt_tells qt_segmentModes qt_segmentLengths qt_modes qt_takes qt_bytes qt_words qt_block qt_tried qt_values qt_system qt_solved qt_places qt_generator qt_readBytes qt_readings : Nat) (ct_modules : ClassId) (vt_thrown : Int32) (vt_length : Int32) (vt_version : Int32) (vt_side : Int32) (vt_made : Int32) (vt_segments : Int32) (vt_bits : Int32) (vt_filled : Int32) (vt_readLength : Int32) (vt_at : Int32) (vt_all : Int32) (vt_fault : Int32) (vt_good : Int32) (vt_modules : Nat → Int32) : va_W := [(qt, .inr (10, [.int vt_thrown, .ref qt_checkBytes, .ref qt_blocks, .ref qt_data, .int vt_length, .ref qt_modules, .ref qt_fixed, .int vt_version, .int vt_side, .int vt_made, .ref qt_tells, .ref qt_segmentModes, .ref qt_segmentLengths, .int vt_segments, .ref qt_modes, .ref qt_takes, .int vt_bits, .ref qt_bytes, .ref qt_words, .int vt_filled, .ref qt_block, .ref qt_tried, .ref qt_values, .ref qt_system, .ref qt_solved, .ref qt_places, .ref qt_generator, .ref qt_readBytes, .int vt_readLength, .int vt_at, .int vt_all, .int vt_fault, .int vt_good, .ref qt_readings])), (qt_modules, .inl (ct_modules, 31329, .inl vt_modules))]

def rm_Md_lines : Room := { frames := 1, cells := 0, slots := 0, locals := 23 }
abbrev qc_Md_lines (r0 : Int32) : Array Value → State → Outcome → State → Prop := vp_Si (fun r => r = r0)

set_option maxHeartbeats 4000000 in
set_option maxRecDepth 100000 in
theorem kt_Md_lines (l : Launch) (dC : Nat → ClassId) (dI : Nat → Nat → Nat) (qt qt_modules qt_checkBytes qt_blocks qt_data qt_fixed qt_tells qt_segmentModes qt_segmentLengths qt_modes qt_takes qt_bytes qt_words qt_block qt_tried qt_values qt_system qt_solved qt_places qt_generator qt_readBytes qt_readings : Nat) (ct_modules : ClassId) (vt_thrown : Int32) (vt_length : Int32) (vt_version : Int32) (vt_side : Int32) (vt_made : Int32) (vt_segments : Int32) (vt_bits : Int32) (vt_filled : Int32) (vt_readLength : Int32) (vt_at : Int32) (vt_all : Int32) (vt_fault : Int32) (vt_good : Int32) (vt_modules : Nat → Int32) (p1 : Int32) (n0 : Nat) (r0 : Int32) (Hf : fn_Md_lines n0 p1 vt_side vt_modules = some r0) : Met l y_Md_lines w_Md_lines rm_Md_lines (va_Pc [.ref qt, .int p1] (fun U => va_P (dC, dI) cl_All (ww_Md_lines qt qt_modules qt_checkBytes qt_blocks qt_data qt_fixed qt_tells qt_segmentModes qt_segmentLengths qt_modes qt_takes qt_bytes qt_words qt_block qt_tried qt_values qt_system qt_solved qt_places qt_generator qt_readBytes qt_readings ct_modules vt_thrown vt_length vt_version vt_side vt_made vt_segments vt_bits vt_filled vt_readLength vt_at vt_all vt_fault vt_good vt_modules) U.heap ∧ va_K (dC, dI) cl_All [(ct_modules, .int)] U)) (qc_Md_lines r0) 0 0 (fun _ => False) := by
  refine Met.ofW (cc := prog_14_method_47_code) (maxL := 8) (ret := (some .int)) (by decide) rfl ?_
  intro p e s m args below meth c s₁ B hml hv
  obtain ⟨rfl, hP, hK⟩ := hv
  have hx := B.exec; have hb := B.bytes; have hr := B.returns; have hlocks := B.notSynchronized
  have ht : ∀ w ∈ lw_g, w.before _ s = true := fun w h => atoms_spec (ws := w_Md_lines) B.pre w (List.mem_cons_of_mem _ h)
  have hown : s.vm.findClass "SquareSymbolsModel" = some m.cls := findClass_of_methodNamed B.named
  have hl := lv_entry ([.ref qt, .int p1]) (n := 8) (Nat.le_of_ble_eq_true rfl)
  rw [lg_entry_eq]
  generalize (lg_sl ([.ref qt, .int p1]) ++ List.replicate (8 - (lg_sl ([.ref qt, .int p1])).length) Slot.unset).toArray = ls at hl ⊢
  have hl : lv_has ls 8 [(0, .ref qt), (1, .int p1)] := hl
  refine lv_iconst (v := (0 : Int32)) hx hb d_Md_lines_0 (by decide) ?_
  refine lv_istore_n (lv' := [(2, .int (0 : Int32)), (0, .ref qt), (1, .int p1)]) hx hb d_Md_lines_1 rfl hl (by decide) rfl (fun ls hl => ?_)
  refine lv_iconst (v := (0 : Int32)) hx hb d_Md_lines_2 (by decide) ?_
  refine lv_istore_n (lv' := [(3, .int (0 : Int32)), (2, .int (0 : Int32)), (0, .ref qt), (1, .int p1)]) hx hb d_Md_lines_3 rfl hl (by decide) rfl (fun ls hl => ?_)
  have L1 : ∀ (m1 : Nat), ∀ (x1 : Int32) (x2 : Int32), fn_Md_lines_L1 p1 n0 vt_side vt_modules m1 x1 x2 = some r0 → ∀ ls : Array Slot, lv_has ls 8 [(0, .ref qt), (1, .int p1), (2, .int x1), (3, .int x2)] → W p l e (headSpec w_Md_lines rm_Md_lines).room s m (([.ref qt, .int p1] : List Value).toArray) below meth c s.heap [] 0 0 (MQ below (qc_Md_lines r0) (([.ref qt, .int p1] : List Value).toArray) s 0 0 (fun _ => False)) (F0 m 4 ls []) := by
    intro m1
    induction m1 with
    | zero => intro x1 x2 Hf; exact sq_none Hf
    | succ m1 ih1 =>
      intro x1 x2 Hf ls hl
      replace Hf := (fn_Md_lines_L1_s p1 n0 vt_side vt_modules m1 x1 x2).symm.trans Hf
      refine lv_iload_n hx hb d_Md_lines_4 rfl (lv_at hl 3 rfl) ?_
      refine lv_aload_n hx hb d_Md_lines_5 rfl (lv_at hl 0 rfl) ?_
      refine va_get (D := (dC, dI)) (ci := 10) (v := .int vt_side) (C := R_Md) (T := F_Md) (N := 34) hx hb ht i_Md hown hK hP 0 rfl rfl 8 (by decide) (ht _ tb_1070) (fun _ h9 => h9) rfl d_Md_lines_6 ?_
      refine lv_icmp_ge (tgt := 152) hx hb d_Md_lines_9 (by decide) (fun c3 => ?_) (fun c3 => ?_)
      · replace Hf := sq_ite_t Hf c3
        refine lv_iload_n hx hb d_Md_lines_152 rfl (lv_at hl 2 rfl) ?_
        have er := Option.some.inj Hf
        exact W.iret hx hb hr (fun t ht hW => ⟨_, rfl, er, ht⟩) (fun q h => by cases h) d_Md_lines_153
      · replace Hf := sq_ite_f Hf c3
        refine lv_iconst (v := (0 : Int32)) hx hb d_Md_lines_12 (by decide) ?_
        refine lv_istore (lv' := [(4, .int (0 : Int32)), (0, .ref qt), (1, .int p1), (2, .int x1), (3, .int x2)]) hx hb d_Md_lines_13 hl (by decide) rfl (fun ls hl => ?_)
        refine lv_iconst (v := (0 : Int32)) hx hb d_Md_lines_15 (by decide) ?_
        refine lv_istore (lv' := [(5, .int (0 : Int32)), (4, .int (0 : Int32)), (0, .ref qt), (1, .int p1), (2, .int x1), (3, .int x2)]) hx hb d_Md_lines_16 hl (by decide) rfl (fun ls hl => ?_)
        refine lv_iconst (v := (0 : Int32)) hx hb d_Md_lines_18 (by decide) ?_
        refine lv_istore (lv' := [(6, .int (0 : Int32)), (5, .int (0 : Int32)), (4, .int (0 : Int32)), (0, .ref qt), (1, .int p1), (2, .int x1), (3, .int x2)]) hx hb d_Md_lines_19 hl (by decide) rfl (fun ls hl => ?_)
        obtain ⟨k5, hk5, Hf⟩ := sq_jn_e Hf
        have Jk5 : ∀ (x4 : Int32), k5 x4 = some r0 → ∀ ls : Array Slot, lv_has ls 8 [(0, .ref qt), (1, .int p1), (2, .int x4), (3, .int x2)] → W p l e (headSpec w_Md_lines rm_Md_lines).room s m (([.ref qt, .int p1] : List Value).toArray) below meth c s.heap [] 0 0 (MQ below (qc_Md_lines r0) (([.ref qt, .int p1] : List Value).toArray) s 0 0 (fun _ => False)) (F0 m 146 ls []) := by
          intro x4 Hf ls hl
          rw [hk5] at Hf
          obtain ⟨x6, ex6, Hf⟩ := sq_bd_e Hf
          refine lv_iinc (v := x6) (lv' := [(3, .int x6), (0, .ref qt), (1, .int p1), (2, .int x4)]) hx hb d_Md_lines_146 hl (k := 3) rfl (by rw [ex6]; rfl) (by decide) rfl (fun ls hl => ?_)
          refine lv_goto (tgt := 4) hx hb d_Md_lines_149 (by decide) ?_
          exact ih1 x4 x6 Hf _ (lv_sub hl [1, 2, 3, 0] rfl)
        have L2 : ∀ (m2 : Nat), ∀ (x7 : Int32) (x8 : Int32) (x9 : Int32) (x10 : Int32), fn_Md_lines_L2 p1 vt_side vt_modules x2 k5 m2 x7 x8 x9 x10 = some r0 → ∀ ls : Array Slot, lv_has ls 8 [(0, .ref qt), (1, .int p1), (2, .int x7), (3, .int x2), (4, .int x8), (5, .int x9), (6, .int x10)] → W p l e (headSpec w_Md_lines rm_Md_lines).room s m (([.ref qt, .int p1] : List Value).toArray) below meth c s.heap [] 0 0 (MQ below (qc_Md_lines r0) (([.ref qt, .int p1] : List Value).toArray) s 0 0 (fun _ => False)) (F0 m 21 ls []) := by
          intro m2
          induction m2 with
          | zero => intro x7 x8 x9 x10 Hf; exact sq_none Hf
          | succ m2 ih2 =>
            intro x7 x8 x9 x10 Hf ls hl
            replace Hf := (fn_Md_lines_L2_s p1 vt_side vt_modules x2 k5 m2 x7 x8 x9 x10).symm.trans Hf
            refine lv_iload hx hb d_Md_lines_21 (lv_at hl 6 rfl) ?_
            refine lv_aload_n hx hb d_Md_lines_23 rfl (lv_at hl 0 rfl) ?_
            refine va_get (D := (dC, dI)) (ci := 10) (v := .int vt_side) (C := R_Md) (T := F_Md) (N := 34) hx hb ht i_Md hown hK hP 0 rfl rfl 8 (by decide) (ht _ tb_1070) (fun _ h9 => h9) rfl d_Md_lines_24 ?_
            refine lv_icmp_ge (tgt := 146) hx hb d_Md_lines_27 (by decide) (fun c11 => ?_) (fun c11 => ?_)
            · replace Hf := sq_ite_t Hf c11
              exact Jk5 x7 Hf _ (lv_sub hl [0, 1, 2, 3] rfl)
            · replace Hf := sq_ite_f Hf c11
              refine lv_aload_n hx hb d_Md_lines_30 rfl (lv_at hl 0 rfl) ?_
              refine lv_iload hx hb d_Md_lines_31 (lv_at hl 6 rfl) ?_
              refine lv_iload_n hx hb d_Md_lines_33 rfl (lv_at hl 3 rfl) ?_
              refine lv_iload_n hx hb d_Md_lines_34 rfl (lv_at hl 1 rfl) ?_
              obtain ⟨r12, hc13, Hf⟩ := sq_cb1_e Hf
              refine sq_roi (va_runV (As := [.int x10, .int x2, .int p1]) (rest := []) ⟨hx, hb, hml, hown, ht⟩ (kt_Md_module l dC dI qt qt_modules qt_checkBytes qt_blocks qt_data qt_fixed qt_tells qt_segmentModes qt_segmentLengths qt_modes qt_takes qt_bytes qt_words qt_block qt_tried qt_values qt_system qt_solved qt_places qt_generator qt_readBytes qt_readings ct_modules vt_thrown vt_length vt_version vt_side vt_made vt_segments vt_bits vt_filled vt_readLength vt_at vt_all vt_fault vt_good vt_modules x10 x2 p1 r12 hc13) (cwV 3 ht (sq_gV tb_1344 tb_1346 sl_55 tb_11 tb_1347) rfl rfl rfl (by decide +kernel) ⟨Nat.le_of_ble_eq_true rfl, Nat.le_of_ble_eq_true rfl⟩) (sq_roV (hP.sub (ws' := (ww_Md_module qt qt_modules qt_checkBytes qt_blocks qt_data qt_fixed qt_tells qt_segmentModes qt_segmentLengths qt_modes qt_takes qt_bytes qt_words qt_block qt_tried qt_values qt_system qt_solved qt_places qt_generator qt_readBytes qt_readings ct_modules vt_thrown vt_length vt_version vt_side vt_made vt_segments vt_bits vt_filled vt_readLength vt_at vt_all vt_fault vt_good vt_modules)) [0, 1] rfl) (hK.sub (tys' := [(ct_modules, .int)]) [0] rfl) (va_recv hK hP (ci := 10) (q0 := 0) rfl rfl)) rfl rfl hl.1 rfl (lv_room (Nat.le_of_ble_eq_true rfl)) d_Md_lines_35 ⟨Nat.le_of_ble_eq_true rfl, Nat.le_of_ble_eq_true rfl⟩) ?_
              refine lv_istore (lv' := [(7, .int r12), (0, .ref qt), (1, .int p1), (2, .int x7), (3, .int x2), (4, .int x8), (5, .int x9), (6, .int x10)]) hx hb d_Md_lines_38 hl (by decide) rfl (fun ls hl => ?_)
              refine lv_iload hx hb d_Md_lines_40 (lv_at hl 7 rfl) ?_
              obtain ⟨k15, hk15, Hf⟩ := sq_jn_e Hf
              have Jk15 : ∀ (x14 : Int32), k15 x14 = some r0 → ∀ ls : Array Slot, lv_has ls 8 [(0, .ref qt), (1, .int p1), (2, .int x7), (3, .int x2), (5, .int x9), (6, .int x10), (7, .int r12)] → W p l e (headSpec w_Md_lines rm_Md_lines).room s m (([.ref qt, .int p1] : List Value).toArray) below meth c s.heap [] 0 0 (MQ below (qc_Md_lines r0) (([.ref qt, .int p1] : List Value).toArray) s 0 0 (fun _ => False)) (F0 m 68 ls [.int x14]) := by
                intro x14 Hf ls hl
                rw [hk15] at Hf
                refine lv_istore (lv' := [(4, .int x14), (0, .ref qt), (1, .int p1), (2, .int x7), (3, .int x2), (5, .int x9), (6, .int x10), (7, .int r12)]) hx hb d_Md_lines_68 hl (by decide) rfl (fun ls hl => ?_)
                refine lv_iload hx hb d_Md_lines_70 (lv_at hl 0 rfl) ?_
                refine lv_iconst (v := (5 : Int32)) hx hb d_Md_lines_72 (by decide) ?_
                obtain ⟨k17, hk17, Hf⟩ := sq_jn_e Hf
                have Jk17 : ∀ (x16 : Int32), k17 x16 = some r0 → ∀ ls : Array Slot, lv_has ls 8 [(0, .ref qt), (1, .int p1), (3, .int x2), (4, .int x14), (5, .int x9), (6, .int x10), (7, .int r12)] → W p l e (headSpec w_Md_lines rm_Md_lines).room s m (([.ref qt, .int p1] : List Value).toArray) below meth c s.heap [] 0 0 (MQ below (qc_Md_lines r0) (([.ref qt, .int p1] : List Value).toArray) s 0 0 (fun _ => False)) (F0 m 95 ls [.int x16]) := by
                  intro x16 Hf ls hl
                  rw [hk17] at Hf
                  refine lv_istore_n (lv' := [(2, .int x16), (0, .ref qt), (1, .int p1), (3, .int x2), (4, .int x14), (5, .int x9), (6, .int x10), (7, .int r12)]) hx hb d_Md_lines_95 rfl hl (by decide) rfl (fun ls hl => ?_)
                  refine lv_iload hx hb d_Md_lines_96 (lv_at hl 5 rfl) ?_
                  refine lv_iconst (v := (1 : Int32)) hx hb d_Md_lines_98 (by decide) ?_
                  refine lv_ishl hx hb d_Md_lines_99 ?_
                  refine lv_iload hx hb d_Md_lines_100 (lv_at hl 7 rfl) ?_
                  refine lv_ior hx hb d_Md_lines_102 ?_
                  refine lv_sipush (v := (2047 : Int32)) hx hb d_Md_lines_103 (by decide) ?_
                  refine lv_iand hx hb d_Md_lines_106 ?_
                  obtain ⟨x18, ex18, Hf⟩ := sq_bd_e Hf
                  refine sq_top ex18 ?_
                  refine lv_istore (lv' := [(5, .int x18), (2, .int x16), (0, .ref qt), (1, .int p1), (3, .int x2), (4, .int x14), (6, .int x10), (7, .int r12)]) hx hb d_Md_lines_107 hl (by decide) rfl (fun ls hl => ?_)
                  refine lv_iload hx hb d_Md_lines_109 (lv_at hl 6 rfl) ?_
                  refine lv_bipush (v := (10 : Int32)) hx hb d_Md_lines_111 (by decide) ?_
                  obtain ⟨k20, hk20, Hf⟩ := sq_jn_e Hf
                  have Jk20 : ∀ (x19 : Int32), k20 x19 = some r0 → ∀ ls : Array Slot, lv_has ls 8 [(0, .ref qt), (1, .int p1), (3, .int x2), (4, .int x14), (5, .int x18), (6, .int x10)] → W p l e (headSpec w_Md_lines rm_Md_lines).room s m (([.ref qt, .int p1] : List Value).toArray) below meth c s.heap [] 0 0 (MQ below (qc_Md_lines r0) (([.ref qt, .int p1] : List Value).toArray) s 0 0 (fun _ => False)) (F0 m 139 ls [.int x19]) := by
                    intro x19 Hf ls hl
                    rw [hk20] at Hf
                    refine lv_istore_n (lv' := [(2, .int x19), (0, .ref qt), (1, .int p1), (3, .int x2), (4, .int x14), (5, .int x18), (6, .int x10)]) hx hb d_Md_lines_139 rfl hl (by decide) rfl (fun ls hl => ?_)
                    obtain ⟨x21, ex21, Hf⟩ := sq_bd_e Hf
                    refine lv_iinc (v := x21) (lv' := [(6, .int x21), (2, .int x19), (0, .ref qt), (1, .int p1), (3, .int x2), (4, .int x14), (5, .int x18)]) hx hb d_Md_lines_140 hl (k := 6) rfl (by rw [ex21]; rfl) (by decide) rfl (fun ls hl => ?_)
                    refine lv_goto (tgt := 21) hx hb d_Md_lines_143 (by decide) ?_
                    exact ih2 x19 x14 x18 x21 Hf _ (lv_sub hl [2, 3, 1, 4, 5, 6, 0] rfl)
                  obtain ⟨k22, hk22, Hf⟩ := sq_jn_e Hf
                  have Jk22 : ∀ (_u : Unit), k22 _u = some r0 → ∀ ls : Array Slot, lv_has ls 8 [(0, .ref qt), (1, .int p1), (2, .int x16), (3, .int x2), (4, .int x14), (5, .int x18), (6, .int x10)] → W p l e (headSpec w_Md_lines rm_Md_lines).room s m (([.ref qt, .int p1] : List Value).toArray) below meth c s.heap [] 0 0 (MQ below (qc_Md_lines r0) (([.ref qt, .int p1] : List Value).toArray) s 0 0 (fun _ => False)) (F0 m 138 ls []) := by
                    intro _u Hf ls hl
                    rw [hk22] at Hf
                    refine lv_iload_n hx hb d_Md_lines_138 rfl (lv_at hl 2 rfl) ?_
                    exact Jk20 x16 Hf _ (lv_sub hl [0, 1, 3, 4, 5, 6] rfl)
                  refine lv_icmp_lt (tgt := 138) hx hb d_Md_lines_113 (by decide) (fun c23 => ?_) (fun c23 => ?_)
                  · replace Hf := sq_ite_t Hf c23
                    exact Jk22 () Hf _ (lv_sub hl [2, 3, 1, 4, 5, 0, 6] rfl)
                  · replace Hf := sq_ite_f Hf c23
                    refine lv_iload hx hb d_Md_lines_116 (lv_at hl 0 rfl) ?_
                    refine lv_sipush (v := (1488 : Int32)) hx hb d_Md_lines_118 (by decide) ?_
                    obtain ⟨k24, hk24, Hf⟩ := sq_jn_e Hf
                    have Jk24 : ∀ (_u : Unit), k24 _u = some r0 → ∀ ls : Array Slot, lv_has ls 8 [(0, .ref qt), (1, .int p1), (2, .int x16), (3, .int x2), (4, .int x14), (5, .int x18), (6, .int x10)] → W p l e (headSpec w_Md_lines rm_Md_lines).room s m (([.ref qt, .int p1] : List Value).toArray) below meth c s.heap [] 0 0 (MQ below (qc_Md_lines r0) (([.ref qt, .int p1] : List Value).toArray) s 0 0 (fun _ => False)) (F0 m 131 ls []) := by
                      intro _u Hf ls hl
                      rw [hk24] at Hf
                      refine lv_iload_n hx hb d_Md_lines_131 rfl (lv_at hl 2 rfl) ?_
                      refine lv_bipush (v := (40 : Int32)) hx hb d_Md_lines_132 (by decide) ?_
                      refine lv_iadd hx hb d_Md_lines_134 ?_
                      refine lv_goto (tgt := 139) hx hb d_Md_lines_135 (by decide) ?_
                      exact Jk20 (x16 + (40 : Int32)) Hf _ (lv_sub hl [0, 1, 3, 4, 5, 6] rfl)
                    refine lv_icmp_eq (tgt := 131) hx hb d_Md_lines_121 (by decide) (fun c25 => ?_) (fun c25 => ?_)
                    · replace Hf := sq_ite_t Hf c25
                      exact Jk24 () Hf _ (lv_sub hl [2, 3, 1, 4, 5, 0, 6] rfl)
                    · replace Hf := sq_ite_f Hf c25
                      refine lv_iload hx hb d_Md_lines_124 (lv_at hl 0 rfl) ?_
                      refine lv_bipush (v := (93 : Int32)) hx hb d_Md_lines_126 (by decide) ?_
                      refine lv_icmp_ne (tgt := 138) hx hb d_Md_lines_128 (by decide) (fun c26 => ?_) (fun c26 => ?_)
                      · replace Hf := sq_ite_f Hf c26
                        exact Jk22 () Hf _ (lv_sub hl [2, 3, 1, 4, 5, 0, 6] rfl)
                      · replace Hf := sq_ite_t Hf c26
                        exact Jk24 () Hf _ (lv_sub hl [2, 3, 1, 4, 5, 0, 6] rfl)
                refine lv_icmp_ne (tgt := 82) hx hb d_Md_lines_73 (by decide) (fun c27 => ?_) (fun c27 => ?_)
                · replace Hf := sq_ite_f Hf c27
                  refine lv_iload hx hb d_Md_lines_82 (lv_at hl 0 rfl) ?_
                  refine lv_iconst (v := (5 : Int32)) hx hb d_Md_lines_84 (by decide) ?_
                  refine lv_icmp_le (tgt := 94) hx hb d_Md_lines_85 (by decide) (fun c28 => ?_) (fun c28 => ?_)
                  · replace Hf := sq_ite_t Hf c28
                    refine lv_iload_n hx hb d_Md_lines_94 rfl (lv_at hl 3 rfl) ?_
                    exact Jk17 x7 Hf _ (lv_sub hl [1, 2, 4, 0, 5, 6, 7] rfl)
                  · replace Hf := sq_ite_f Hf c28
                    refine lv_iload_n hx hb d_Md_lines_88 rfl (lv_at hl 3 rfl) ?_
                    refine lv_iconst (v := (1 : Int32)) hx hb d_Md_lines_89 (by decide) ?_
                    refine lv_iadd hx hb d_Md_lines_90 ?_
                    refine lv_goto (tgt := 95) hx hb d_Md_lines_91 (by decide) ?_
                    exact Jk17 (x7 + (1 : Int32)) Hf _ (lv_sub hl [1, 2, 4, 0, 5, 6, 7] rfl)
                · replace Hf := sq_ite_t Hf c27
                  refine lv_iload_n hx hb d_Md_lines_76 rfl (lv_at hl 3 rfl) ?_
                  refine lv_iconst (v := (3 : Int32)) hx hb d_Md_lines_77 (by decide) ?_
                  refine lv_iadd hx hb d_Md_lines_78 ?_
                  refine lv_goto (tgt := 95) hx hb d_Md_lines_79 (by decide) ?_
                  exact Jk17 (x7 + (3 : Int32)) Hf _ (lv_sub hl [1, 2, 4, 0, 5, 6, 7] rfl)
              obtain ⟨k29, hk29, Hf⟩ := sq_jn_e Hf
              have Jk29 : ∀ (_u : Unit), k29 _u = some r0 → ∀ ls : Array Slot, lv_has ls 8 [(0, .ref qt), (1, .int p1), (2, .int x7), (3, .int x2), (5, .int x9), (6, .int x10), (7, .int r12)] → W p l e (headSpec w_Md_lines rm_Md_lines).room s m (([.ref qt, .int p1] : List Value).toArray) below meth c s.heap [] 0 0 (MQ below (qc_Md_lines r0) (([.ref qt, .int p1] : List Value).toArray) s 0 0 (fun _ => False)) (F0 m 67 ls []) := by
                intro _u Hf ls hl
                rw [hk29] at Hf
                refine lv_iconst (v := (1 : Int32)) hx hb d_Md_lines_67 (by decide) ?_
                exact Jk15 (1 : Int32) Hf _ (lv_sub hl [0, 1, 2, 3, 4, 5, 6] rfl)
              refine lv_if_le (tgt := 67) hx hb d_Md_lines_42 (by decide) (fun c30 => ?_) (fun c30 => ?_)
              · replace Hf := sq_ite_t Hf c30
                exact Jk29 () Hf _ (lv_sub hl [1, 2, 3, 4, 6, 7, 0] rfl)
              · replace Hf := sq_ite_f Hf c30
                refine lv_aload_n hx hb d_Md_lines_45 rfl (lv_at hl 1 rfl) ?_
                refine lv_iload hx hb d_Md_lines_46 (lv_at hl 7 rfl) ?_
                refine lv_iconst (v := (1 : Int32)) hx hb d_Md_lines_48 (by decide) ?_
                refine lv_isub hx hb d_Md_lines_49 ?_
                refine lv_iload_n hx hb d_Md_lines_50 rfl (lv_at hl 4 rfl) ?_
                refine lv_iload_n hx hb d_Md_lines_51 rfl (lv_at hl 2 rfl) ?_
                obtain ⟨r31, hc32, Hf⟩ := sq_cb1_e Hf
                refine sq_roi (va_runV (As := [.int (x10 - (1 : Int32)), .int x2, .int p1]) (rest := []) ⟨hx, hb, hml, hown, ht⟩ (kt_Md_module l dC dI qt qt_modules qt_checkBytes qt_blocks qt_data qt_fixed qt_tells qt_segmentModes qt_segmentLengths qt_modes qt_takes qt_bytes qt_words qt_block qt_tried qt_values qt_system qt_solved qt_places qt_generator qt_readBytes qt_readings ct_modules vt_thrown vt_length vt_version vt_side vt_made vt_segments vt_bits vt_filled vt_readLength vt_at vt_all vt_fault vt_good vt_modules (x10 - (1 : Int32)) x2 p1 r31 hc32) (cwV 3 ht (sq_gV tb_1344 tb_1346 sl_55 tb_11 tb_1347) rfl rfl rfl (by decide +kernel) ⟨Nat.le_of_ble_eq_true rfl, Nat.le_of_ble_eq_true rfl⟩) (sq_roV (hP.sub (ws' := (ww_Md_module qt qt_modules qt_checkBytes qt_blocks qt_data qt_fixed qt_tells qt_segmentModes qt_segmentLengths qt_modes qt_takes qt_bytes qt_words qt_block qt_tried qt_values qt_system qt_solved qt_places qt_generator qt_readBytes qt_readings ct_modules vt_thrown vt_length vt_version vt_side vt_made vt_segments vt_bits vt_filled vt_readLength vt_at vt_all vt_fault vt_good vt_modules)) [0, 1] rfl) (hK.sub (tys' := [(ct_modules, .int)]) [0] rfl) (va_recv hK hP (ci := 10) (q0 := 0) rfl rfl)) rfl rfl hl.1 rfl (lv_room (Nat.le_of_ble_eq_true rfl)) d_Md_lines_52 ⟨Nat.le_of_ble_eq_true rfl, Nat.le_of_ble_eq_true rfl⟩) ?_
                refine lv_iload hx hb d_Md_lines_55 (lv_at hl 0 rfl) ?_
                refine lv_icmp_ne (tgt := 67) hx hb d_Md_lines_57 (by decide) (fun c33 => ?_) (fun c33 => ?_)
                · replace Hf := sq_ite_f Hf c33
                  exact Jk29 () Hf _ (lv_sub hl [1, 2, 3, 4, 6, 7, 0] rfl)
                · replace Hf := sq_ite_t Hf c33
                  refine lv_iload hx hb d_Md_lines_60 (lv_at hl 5 rfl) ?_
                  refine lv_iconst (v := (1 : Int32)) hx hb d_Md_lines_62 (by decide) ?_
                  refine lv_iadd hx hb d_Md_lines_63 ?_
                  refine lv_goto (tgt := 68) hx hb d_Md_lines_64 (by decide) ?_
                  exact Jk15 (x8 + (1 : Int32)) Hf _ (lv_sub hl [1, 2, 3, 4, 6, 7, 0] rfl)
        exact L2 n0 x1 (0 : Int32) (0 : Int32) (0 : Int32) Hf _ (lv_sub hl [3, 4, 5, 6, 2, 1, 0] rfl)
  exact L1 n0 (0 : Int32) (0 : Int32) Hf _ (lv_sub hl [2, 3, 1, 0] rfl)

