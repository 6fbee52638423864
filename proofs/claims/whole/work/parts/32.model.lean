def fn_Md_two_L1 (x2 : Int32) : Nat → Int32 → Int32 → Option (Int32)
  | 0, _, _ => none
  | m1 + 1, x4, x5 => if x2 ≤ x5 then (some (x4)) else (sq_bd (x4 <<< ((1 : Int32) &&& 31)) fun x7 => sq_jn (fun (x8 : Int32) => sq_bd (x5 + (1 : Int32)) fun x10 => fn_Md_two_L1 x2 m1 x8 x10) fun k9 => if x7 ≤ (255 : Int32) then (k9 x7) else (k9 (x7 ^^^ (285 : Int32))))
theorem fn_Md_two_L1_s (x2 : Int32) (m1 : Nat) (x4 : Int32) (x5 : Int32) : fn_Md_two_L1 x2 (m1 + 1) x4 x5 = if x2 ≤ x5 then (some (x4)) else (sq_bd (x4 <<< ((1 : Int32) &&& 31)) fun x7 => sq_jn (fun (x8 : Int32) => sq_bd (x5 + (1 : Int32)) fun x10 => fn_Md_two_L1 x2 m1 x8 x10) fun k9 => if x7 ≤ (255 : Int32) then (k9 x7) else (k9 (x7 ^^^ (285 : Int32)))) := rfl
def fn_Md_two (n0 : Nat) (p1 : Int32) : Option (Int32) :=
  sq_bd (sq_rem p1 (255 : Int32)) fun x1 => sq_jn (fun (x2 : Int32) => fn_Md_two_L1 x2 n0 (1 : Int32) (0 : Int32)) fun k3 => if 0 ≤ x1 then (k3 x1) else (k3 (x1 + (255 : Int32)))
def rm_Md_two : Room := { frames := 0, cells := 0, slots := 0, locals := 0 }
abbrev qc_Md_two (r0 : Int32) : Array Value → State → Outcome → State → Prop := vp_Si (fun r => r = r0)

set_option maxHeartbeats 4000000 in
set_option maxRecDepth 100000 in
theorem kt_Md_two (l : Launch) (dC : Nat → ClassId) (dI : Nat → Nat → Nat) (p1 : Int32) (n0 : Nat) (r0 : Int32) (Hf : fn_Md_two n0 p1 = some r0) : Met l y_Md_two w_Md_two rm_Md_two (va_Pc [.int p1] (fun U => va_P (dC, dI) cl_All ([] : va_W) U.heap ∧ va_K (dC, dI) cl_All [] U)) (qc_Md_two r0) 0 0 (fun _ => False) := by
  refine Met.ofW (cc := prog_14_method_27_code) (maxL := 4) (ret := (some .int)) (by decide) rfl ?_
  intro p e s m args below meth c s₁ B hml hv
  obtain ⟨rfl, hP, hK⟩ := hv
  have hx := B.exec; have hb := B.bytes; have hr := B.returns; have hlocks := B.notSynchronized
  have ht : ∀ w ∈ lw_g, w.before _ s = true := fun w h => atoms_spec (ws := w_Md_two) B.pre w (List.mem_cons_of_mem _ h)
  have hown : s.vm.findClass "SquareSymbolsModel" = some m.cls := findClass_of_methodNamed B.named
  have hl := lv_entry ([.int p1]) (n := 4) (Nat.le_of_ble_eq_true rfl)
  rw [lg_entry_eq]
  generalize (lg_sl ([.int p1]) ++ List.replicate (4 - (lg_sl ([.int p1])).length) Slot.unset).toArray = ls at hl ⊢
  have hl : lv_has ls 4 [(0, .int p1)] := hl
  refine lv_iconst (v := (1 : Int32)) hx hb d_Md_two_0 (by decide) ?_
  refine lv_istore_n (lv' := [(1, .int (1 : Int32)), (0, .int p1)]) hx hb d_Md_two_1 rfl hl (by decide) rfl (fun ls hl => ?_)
  refine lv_iload_n hx hb d_Md_two_2 rfl (lv_at hl 1 rfl) ?_
  refine lv_sipush (v := (255 : Int32)) hx hb d_Md_two_3 (by decide) ?_
  refine lv_irem hx hb d_Md_two_6 (by decide) ?_
  obtain ⟨x1, ex1, Hf⟩ := sq_bd_e Hf
  refine sq_top ex1 ?_
  refine lv_istore_n (lv' := [(2, .int x1), (1, .int (1 : Int32)), (0, .int p1)]) hx hb d_Md_two_7 rfl hl (by decide) rfl (fun ls hl => ?_)
  refine lv_iload_n hx hb d_Md_two_8 rfl (lv_at hl 0 rfl) ?_
  obtain ⟨k3, hk3, Hf⟩ := sq_jn_e Hf
  have Jk3 : ∀ (x2 : Int32), k3 x2 = some r0 → ∀ ls : Array Slot, lv_has ls 4 [(1, .int (1 : Int32))] → W p l e (headSpec w_Md_two rm_Md_two).room s m (([.int p1] : List Value).toArray) below meth c s.heap [] 0 0 (MQ below (qc_Md_two r0) (([.int p1] : List Value).toArray) s 0 0 (fun _ => False)) (F0 m 21 ls [.int x2]) := by
    intro x2 Hf ls hl
    rw [hk3] at Hf
    refine lv_istore_n (lv' := [(2, .int x2), (1, .int (1 : Int32))]) hx hb d_Md_two_21 rfl hl (by decide) rfl (fun ls hl => ?_)
    refine lv_iconst (v := (0 : Int32)) hx hb d_Md_two_22 (by decide) ?_
    refine lv_istore_n (lv' := [(3, .int (0 : Int32)), (2, .int x2), (1, .int (1 : Int32))]) hx hb d_Md_two_23 rfl hl (by decide) rfl (fun ls hl => ?_)
    have L1 : ∀ (m1 : Nat), ∀ (x4 : Int32) (x5 : Int32), fn_Md_two_L1 x2 m1 x4 x5 = some r0 → ∀ ls : Array Slot, lv_has ls 4 [(1, .int x4), (2, .int x2), (3, .int x5)] → W p l e (headSpec w_Md_two rm_Md_two).room s m (([.int p1] : List Value).toArray) below meth c s.heap [] 0 0 (MQ below (qc_Md_two r0) (([.int p1] : List Value).toArray) s 0 0 (fun _ => False)) (F0 m 24 ls []) := by
      intro m1
      induction m1 with
      | zero => intro x4 x5 Hf; exact sq_none Hf
      | succ m1 ih1 =>
        intro x4 x5 Hf ls hl
        replace Hf := (fn_Md_two_L1_s x2 m1 x4 x5).symm.trans Hf
        refine lv_iload_n hx hb d_Md_two_24 rfl (lv_at hl 2 rfl) ?_
        refine lv_iload_n hx hb d_Md_two_25 rfl (lv_at hl 1 rfl) ?_
        refine lv_icmp_ge (tgt := 56) hx hb d_Md_two_26 (by decide) (fun c6 => ?_) (fun c6 => ?_)
        · replace Hf := sq_ite_t Hf c6
          refine lv_iload_n hx hb d_Md_two_56 rfl (lv_at hl 0 rfl) ?_
          have er := Option.some.inj Hf
          exact W.iret hx hb hr (fun t ht hW => ⟨_, rfl, er, ht⟩) (fun q h => by cases h) d_Md_two_57
        · replace Hf := sq_ite_f Hf c6
          refine lv_iload_n hx hb d_Md_two_29 rfl (lv_at hl 0 rfl) ?_
          refine lv_iconst (v := (1 : Int32)) hx hb d_Md_two_30 (by decide) ?_
          refine lv_ishl hx hb d_Md_two_31 ?_
          obtain ⟨x7, ex7, Hf⟩ := sq_bd_e Hf
          refine sq_top ex7 ?_
          refine lv_istore_n (lv' := [(1, .int x7), (2, .int x2), (3, .int x5)]) hx hb d_Md_two_32 rfl hl (by decide) rfl (fun ls hl => ?_)
          refine lv_iload_n hx hb d_Md_two_33 rfl (lv_at hl 0 rfl) ?_
          refine lv_sipush (v := (255 : Int32)) hx hb d_Md_two_34 (by decide) ?_
          obtain ⟨k9, hk9, Hf⟩ := sq_jn_e Hf
          have Jk9 : ∀ (x8 : Int32), k9 x8 = some r0 → ∀ ls : Array Slot, lv_has ls 4 [(2, .int x2), (3, .int x5)] → W p l e (headSpec w_Md_two rm_Md_two).room s m (([.int p1] : List Value).toArray) below meth c s.heap [] 0 0 (MQ below (qc_Md_two r0) (([.int p1] : List Value).toArray) s 0 0 (fun _ => False)) (F0 m 49 ls [.int x8]) := by
            intro x8 Hf ls hl
            rw [hk9] at Hf
            refine lv_istore_n (lv' := [(1, .int x8), (2, .int x2), (3, .int x5)]) hx hb d_Md_two_49 rfl hl (by decide) rfl (fun ls hl => ?_)
            obtain ⟨x10, ex10, Hf⟩ := sq_bd_e Hf
            refine lv_iinc (v := x10) (lv' := [(3, .int x10), (1, .int x8), (2, .int x2)]) hx hb d_Md_two_50 hl (k := 2) rfl (by rw [ex10]; rfl) (by decide) rfl (fun ls hl => ?_)
            refine lv_goto (tgt := 24) hx hb d_Md_two_53 (by decide) ?_
            exact ih1 x8 x10 Hf _ (lv_sub hl [1, 2, 0] rfl)
          refine lv_icmp_le (tgt := 48) hx hb d_Md_two_37 (by decide) (fun c11 => ?_) (fun c11 => ?_)
          · replace Hf := sq_ite_t Hf c11
            refine lv_iload_n hx hb d_Md_two_48 rfl (lv_at hl 0 rfl) ?_
            exact Jk9 x7 Hf _ (lv_sub hl [1, 2] rfl)
          · replace Hf := sq_ite_f Hf c11
            refine lv_iload_n hx hb d_Md_two_40 rfl (lv_at hl 0 rfl) ?_
            refine lv_sipush (v := (285 : Int32)) hx hb d_Md_two_41 (by decide) ?_
            refine lv_ixor hx hb d_Md_two_44 ?_
            refine lv_goto (tgt := 49) hx hb d_Md_two_45 (by decide) ?_
            exact Jk9 (x7 ^^^ (285 : Int32)) Hf _ (lv_sub hl [1, 2] rfl)
    exact L1 n0 (1 : Int32) (0 : Int32) Hf _ (lv_sub hl [2, 1, 0] rfl)
  refine lv_if_ge (tgt := 20) hx hb d_Md_two_9 (by decide) (fun c12 => ?_) (fun c12 => ?_)
  · replace Hf := sq_ite_t Hf c12
    refine lv_iload_n hx hb d_Md_two_20 rfl (lv_at hl 0 rfl) ?_
    exact Jk3 x1 Hf _ (lv_sub hl [1] rfl)
  · replace Hf := sq_ite_f Hf c12
    refine lv_iload_n hx hb d_Md_two_12 rfl (lv_at hl 0 rfl) ?_
    refine lv_sipush (v := (255 : Int32)) hx hb d_Md_two_13 (by decide) ?_
    refine lv_iadd hx hb d_Md_two_16 ?_
    refine lv_goto (tgt := 21) hx hb d_Md_two_17 (by decide) ?_
    exact Jk3 (x1 + (255 : Int32)) Hf _ (lv_sub hl [1] rfl)

def fn_Md_times_L1 : Nat → Int32 → Int32 → Int32 → Option (Int32)
  | 0, _, _, _ => none
  | m1 + 1, x1, x2, x3 => if x3 = 0 then (some (x1)) else (sq_jn (fun (x5 : Int32) => sq_bd (x2 <<< ((1 : Int32) &&& 31)) fun x7 => sq_jn (fun (x8 : Int32) => sq_bd (x3 >>> ((1 : Int32) &&& 31)) fun x10 => fn_Md_times_L1 m1 x5 x8 x10) fun k9 => if x7 ≤ (255 : Int32) then (k9 x7) else (k9 (x7 ^^^ (285 : Int32)))) fun k6 => if (x3 &&& (1 : Int32)) = (1 : Int32) then (k6 (x1 ^^^ x2)) else (k6 x1))
theorem fn_Md_times_L1_s (m1 : Nat) (x1 : Int32) (x2 : Int32) (x3 : Int32) : fn_Md_times_L1  (m1 + 1) x1 x2 x3 = if x3 = 0 then (some (x1)) else (sq_jn (fun (x5 : Int32) => sq_bd (x2 <<< ((1 : Int32) &&& 31)) fun x7 => sq_jn (fun (x8 : Int32) => sq_bd (x3 >>> ((1 : Int32) &&& 31)) fun x10 => fn_Md_times_L1 m1 x5 x8 x10) fun k9 => if x7 ≤ (255 : Int32) then (k9 x7) else (k9 (x7 ^^^ (285 : Int32)))) fun k6 => if (x3 &&& (1 : Int32)) = (1 : Int32) then (k6 (x1 ^^^ x2)) else (k6 x1)) := rfl
def fn_Md_times (n0 : Nat) (p1 : Int32) (p2 : Int32) : Option (Int32) :=
  fn_Md_times_L1 n0 (0 : Int32) p1 p2
def rm_Md_times : Room := { frames := 0, cells := 0, slots := 0, locals := 0 }
abbrev qc_Md_times (r0 : Int32) : Array Value → State → Outcome → State → Prop := vp_Si (fun r => r = r0)

set_option maxHeartbeats 4000000 in
set_option maxRecDepth 100000 in
theorem kt_Md_times (l : Launch) (dC : Nat → ClassId) (dI : Nat → Nat → Nat) (p1 : Int32) (p2 : Int32) (n0 : Nat) (r0 : Int32) (Hf : fn_Md_times n0 p1 p2 = some r0) : Met l y_Md_times w_Md_times rm_Md_times (va_Pc [.int p1, .int p2] (fun U => va_P (dC, dI) cl_All ([] : va_W) U.heap ∧ va_K (dC, dI) cl_All [] U)) (qc_Md_times r0) 0 0 (fun _ => False) := by
  refine Met.ofW (cc := prog_14_method_26_code) (maxL := 5) (ret := (some .int)) (by decide) rfl ?_
  intro p e s m args below meth c s₁ B hml hv
  obtain ⟨rfl, hP, hK⟩ := hv
  have hx := B.exec; have hb := B.bytes; have hr := B.returns; have hlocks := B.notSynchronized
  have ht : ∀ w ∈ lw_g, w.before _ s = true := fun w h => atoms_spec (ws := w_Md_times) B.pre w (List.mem_cons_of_mem _ h)
  have hown : s.vm.findClass "SquareSymbolsModel" = some m.cls := findClass_of_methodNamed B.named
  have hl := lv_entry ([.int p1, .int p2]) (n := 5) (Nat.le_of_ble_eq_true rfl)
  rw [lg_entry_eq]
  generalize (lg_sl ([.int p1, .int p2]) ++ List.replicate (5 - (lg_sl ([.int p1, .int p2])).length) Slot.unset).toArray = ls at hl ⊢
  have hl : lv_has ls 5 [(0, .int p1), (1, .int p2)] := hl
  refine lv_iconst (v := (0 : Int32)) hx hb d_Md_times_0 (by decide) ?_
  refine lv_istore_n (lv' := [(2, .int (0 : Int32)), (0, .int p1), (1, .int p2)]) hx hb d_Md_times_1 rfl hl (by decide) rfl (fun ls hl => ?_)
  refine lv_iload_n hx hb d_Md_times_2 rfl (lv_at hl 1 rfl) ?_
  refine lv_istore_n (lv' := [(3, .int p1), (2, .int (0 : Int32)), (0, .int p1), (1, .int p2)]) hx hb d_Md_times_3 rfl hl (by decide) rfl (fun ls hl => ?_)
  refine lv_iload_n hx hb d_Md_times_4 rfl (lv_at hl 3 rfl) ?_
  refine lv_istore (lv' := [(4, .int p2), (3, .int p1), (2, .int (0 : Int32)), (0, .int p1), (1, .int p2)]) hx hb d_Md_times_5 hl (by decide) rfl (fun ls hl => ?_)
  have L1 : ∀ (m1 : Nat), ∀ (x1 : Int32) (x2 : Int32) (x3 : Int32), fn_Md_times_L1  m1 x1 x2 x3 = some r0 → ∀ ls : Array Slot, lv_has ls 5 [(2, .int x1), (3, .int x2), (4, .int x3)] → W p l e (headSpec w_Md_times rm_Md_times).room s m (([.int p1, .int p2] : List Value).toArray) below meth c s.heap [] 0 0 (MQ below (qc_Md_times r0) (([.int p1, .int p2] : List Value).toArray) s 0 0 (fun _ => False)) (F0 m 7 ls []) := by
    intro m1
    induction m1 with
    | zero => intro x1 x2 x3 Hf; exact sq_none Hf
    | succ m1 ih1 =>
      intro x1 x2 x3 Hf ls hl
      replace Hf := (fn_Md_times_L1_s  m1 x1 x2 x3).symm.trans Hf
      refine lv_iload hx hb d_Md_times_7 (lv_at hl 2 rfl) ?_
      refine lv_if_eq (tgt := 58) hx hb d_Md_times_9 (by decide) (fun c4 => ?_) (fun c4 => ?_)
      · replace Hf := sq_ite_t Hf c4
        refine lv_iload_n hx hb d_Md_times_58 rfl (lv_at hl 0 rfl) ?_
        have er := Option.some.inj Hf
        exact W.iret hx hb hr (fun t ht hW => ⟨_, rfl, er, ht⟩) (fun q h => by cases h) d_Md_times_59
      · replace Hf := sq_ite_f Hf c4
        refine lv_iload hx hb d_Md_times_12 (lv_at hl 2 rfl) ?_
        refine lv_iconst (v := (1 : Int32)) hx hb d_Md_times_14 (by decide) ?_
        refine lv_iand hx hb d_Md_times_15 ?_
        refine lv_iconst (v := (1 : Int32)) hx hb d_Md_times_16 (by decide) ?_
        obtain ⟨k6, hk6, Hf⟩ := sq_jn_e Hf
        have Jk6 : ∀ (x5 : Int32), k6 x5 = some r0 → ∀ ls : Array Slot, lv_has ls 5 [(3, .int x2), (4, .int x3)] → W p l e (headSpec w_Md_times rm_Md_times).room s m (([.int p1, .int p2] : List Value).toArray) below meth c s.heap [] 0 0 (MQ below (qc_Md_times r0) (([.int p1, .int p2] : List Value).toArray) s 0 0 (fun _ => False)) (F0 m 27 ls [.int x5]) := by
          intro x5 Hf ls hl
          rw [hk6] at Hf
          refine lv_istore_n (lv' := [(2, .int x5), (3, .int x2), (4, .int x3)]) hx hb d_Md_times_27 rfl hl (by decide) rfl (fun ls hl => ?_)
          refine lv_iload_n hx hb d_Md_times_28 rfl (lv_at hl 1 rfl) ?_
          refine lv_iconst (v := (1 : Int32)) hx hb d_Md_times_29 (by decide) ?_
          refine lv_ishl hx hb d_Md_times_30 ?_
          obtain ⟨x7, ex7, Hf⟩ := sq_bd_e Hf
          refine sq_top ex7 ?_
          refine lv_istore_n (lv' := [(3, .int x7), (2, .int x5), (4, .int x3)]) hx hb d_Md_times_31 rfl hl (by decide) rfl (fun ls hl => ?_)
          refine lv_iload_n hx hb d_Md_times_32 rfl (lv_at hl 0 rfl) ?_
          refine lv_sipush (v := (255 : Int32)) hx hb d_Md_times_33 (by decide) ?_
          obtain ⟨k9, hk9, Hf⟩ := sq_jn_e Hf
          have Jk9 : ∀ (x8 : Int32), k9 x8 = some r0 → ∀ ls : Array Slot, lv_has ls 5 [(2, .int x5), (4, .int x3)] → W p l e (headSpec w_Md_times rm_Md_times).room s m (([.int p1, .int p2] : List Value).toArray) below meth c s.heap [] 0 0 (MQ below (qc_Md_times r0) (([.int p1, .int p2] : List Value).toArray) s 0 0 (fun _ => False)) (F0 m 48 ls [.int x8]) := by
            intro x8 Hf ls hl
            rw [hk9] at Hf
            refine lv_istore_n (lv' := [(3, .int x8), (2, .int x5), (4, .int x3)]) hx hb d_Md_times_48 rfl hl (by decide) rfl (fun ls hl => ?_)
            refine lv_iload hx hb d_Md_times_49 (lv_at hl 2 rfl) ?_
            refine lv_iconst (v := (1 : Int32)) hx hb d_Md_times_51 (by decide) ?_
            refine lv_ishr hx hb d_Md_times_52 ?_
            obtain ⟨x10, ex10, Hf⟩ := sq_bd_e Hf
            refine sq_top ex10 ?_
            refine lv_istore (lv' := [(4, .int x10), (3, .int x8), (2, .int x5)]) hx hb d_Md_times_53 hl (by decide) rfl (fun ls hl => ?_)
            refine lv_goto (tgt := 7) hx hb d_Md_times_55 (by decide) ?_
            exact ih1 x5 x8 x10 Hf _ (lv_sub hl [2, 1, 0] rfl)
          refine lv_icmp_le (tgt := 47) hx hb d_Md_times_36 (by decide) (fun c11 => ?_) (fun c11 => ?_)
          · replace Hf := sq_ite_t Hf c11
            refine lv_iload_n hx hb d_Md_times_47 rfl (lv_at hl 0 rfl) ?_
            exact Jk9 x7 Hf _ (lv_sub hl [1, 2] rfl)
          · replace Hf := sq_ite_f Hf c11
            refine lv_iload_n hx hb d_Md_times_39 rfl (lv_at hl 0 rfl) ?_
            refine lv_sipush (v := (285 : Int32)) hx hb d_Md_times_40 (by decide) ?_
            refine lv_ixor hx hb d_Md_times_43 ?_
            refine lv_goto (tgt := 48) hx hb d_Md_times_44 (by decide) ?_
            exact Jk9 (x7 ^^^ (285 : Int32)) Hf _ (lv_sub hl [1, 2] rfl)
        refine lv_icmp_ne (tgt := 26) hx hb d_Md_times_17 (by decide) (fun c12 => ?_) (fun c12 => ?_)
        · replace Hf := sq_ite_f Hf c12
          refine lv_iload_n hx hb d_Md_times_26 rfl (lv_at hl 0 rfl) ?_
          exact Jk6 x1 Hf _ (lv_sub hl [1, 2] rfl)
        · replace Hf := sq_ite_t Hf c12
          refine lv_iload_n hx hb d_Md_times_20 rfl (lv_at hl 0 rfl) ?_
          refine lv_iload_n hx hb d_Md_times_21 rfl (lv_at hl 1 rfl) ?_
          refine lv_ixor hx hb d_Md_times_22 ?_
          refine lv_goto (tgt := 27) hx hb d_Md_times_23 (by decide) ?_
          exact Jk6 (x1 ^^^ x2) Hf _ (lv_sub hl [1, 2] rfl)
  exact L1 n0 (0 : Int32) p1 p2 Hf _ (lv_sub hl [2, 1, 0] rfl)

def fn_Md_generate_L2 (n0 : Nat) (r6 : Int32) (k13 : (Nat → Int32) → Option ((Nat → Int32))) : Nat → Int32 → (Nat → Int32) → Option ((Nat → Int32))
  | 0, _, _ => none
  | m2 + 1, x15, b16 => if x15 ≤ 0 then (k13 b16) else (sq_gi x15 32 <| sq_bd (b16 x15.toNatClampNeg) fun x19 => sq_bd (x15 - (1 : Int32)) fun x20 => sq_gi x20 32 <| sq_bd (b16 x20.toNatClampNeg) fun x22 => sq_cb1 (fn_Md_times n0 x22 r6) fun r23 => sq_bd (x19 ^^^ r23) fun x25 => sq_gi x15 32 <| sq_bd (upd b16 x15.toNatClampNeg x25) fun b27 => sq_bd (x15 + (-1 : Int32)) fun x28 => fn_Md_generate_L2 n0 r6 k13 m2 x28 b27)
theorem fn_Md_generate_L2_s (n0 : Nat) (r6 : Int32) (k13 : (Nat → Int32) → Option ((Nat → Int32))) (m2 : Nat) (x15 : Int32) (b16 : Nat → Int32) : fn_Md_generate_L2 n0 r6 k13 (m2 + 1) x15 b16 = if x15 ≤ 0 then (k13 b16) else (sq_gi x15 32 <| sq_bd (b16 x15.toNatClampNeg) fun x19 => sq_bd (x15 - (1 : Int32)) fun x20 => sq_gi x20 32 <| sq_bd (b16 x20.toNatClampNeg) fun x22 => sq_cb1 (fn_Md_times n0 x22 r6) fun r23 => sq_bd (x19 ^^^ r23) fun x25 => sq_gi x15 32 <| sq_bd (upd b16 x15.toNatClampNeg x25) fun b27 => sq_bd (x15 + (-1 : Int32)) fun x28 => fn_Md_generate_L2 n0 r6 k13 m2 x28 b27) := rfl
def fn_Md_generate_L1 (p1 : Int32) (n0 : Nat) : Nat → Int32 → (Nat → Int32) → Option ((Nat → Int32))
  | 0, _, _ => none
  | m1 + 1, x3, b4 => if p1 ≤ x3 then (some b4) else (sq_cb1 (fn_Md_two n0 x3) fun r6 => sq_bd (x3 + (1 : Int32)) fun x9 => sq_gi x9 32 <| sq_bd (upd b4 x9.toNatClampNeg (0 : Int32)) fun b10 => sq_bd (x3 + (1 : Int32)) fun x11 => sq_jn (fun (b12 : Nat → Int32) => sq_bd (x3 + (1 : Int32)) fun x14 => fn_Md_generate_L1 p1 n0 m1 x14 b12) fun k13 => fn_Md_generate_L2 n0 r6 k13 n0 x11 b10)
theorem fn_Md_generate_L1_s (p1 : Int32) (n0 : Nat) (m1 : Nat) (x3 : Int32) (b4 : Nat → Int32) : fn_Md_generate_L1 p1 n0 (m1 + 1) x3 b4 = if p1 ≤ x3 then (some b4) else (sq_cb1 (fn_Md_two n0 x3) fun r6 => sq_bd (x3 + (1 : Int32)) fun x9 => sq_gi x9 32 <| sq_bd (upd b4 x9.toNatClampNeg (0 : Int32)) fun b10 => sq_bd (x3 + (1 : Int32)) fun x11 => sq_jn (fun (b12 : Nat → Int32) => sq_bd (x3 + (1 : Int32)) fun x14 => fn_Md_generate_L1 p1 n0 m1 x14 b12) fun k13 => fn_Md_generate_L2 n0 r6 k13 n0 x11 b10) := rfl
def fn_Md_generate (n0 : Nat) (p1 : Int32) (vt_generator : Nat → Int32) : Option ((Nat → Int32)) :=
  sq_gi (0 : Int32) 32 <| sq_bd (upd vt_generator (0 : Int32).toNatClampNeg (1 : Int32)) fun b2 => fn_Md_generate_L1 p1 n0 n0 (0 : Int32) b2
abbrev ww_Md_generate (qt qt_generator qt_checkBytes qt_blocks qt_data qt_modules qt_fixed qt_tells qt_segmentModes qt_segmentLengths qt_modes qt_takes qt_bytes qt_words qt_block qt_tried qt_values qt_system qt_solved qt_places qt_readBytes qt_readings : Nat) (ct_generator : ClassId) (vt_thrown : Int32) (vt_length : Int32) (vt_version : Int32) (vt_side : Int32) (vt_made : Int32) (vt_segments : Int32) (vt_bits : Int32) (vt_filled : Int32) (vt_readLength : Int32) (vt_at : Int32) (vt_all : Int32) (vt_fault : Int32) (vt_good : Int32) (vt_generator : Nat → Int32) : va_W := [(qt, .inr (10, [.int vt_thrown, .ref qt_checkBytes, .ref qt_blocks, .ref qt_data, .int vt_length, .ref qt_modules, .ref qt_fixed, .int vt_version, .int vt_side, .int vt_made, .ref qt_tells, .ref qt_segmentModes, .ref qt_segmentLengths, .int vt_segments, .ref qt_modes, .ref qt_takes, .int vt_bits, .ref qt_bytes, .ref qt_words, .int vt_filled, .ref qt_block, .ref qt_tried, .ref qt_values, .ref qt_system, .ref qt_solved, .ref qt_places, .ref qt_generator, .ref qt_readBytes, .int vt_readLength, .int vt_at, .int vt_all, .int vt_fault, .int vt_good, .ref qt_readings])), (qt_generator, .inl (ct_generator, 32, .inl vt_generator))]

def rm_Md_generate : Room := { frames := 1, cells := 0, slots := 0, locals := 24 }
abbrev qc_Md_generate (dC : Nat → ClassId) (dI : Nat → Nat → Nat) (A : Nat → Prop) (qt qt_generator qt_checkBytes qt_blocks qt_data qt_modules qt_fixed qt_tells qt_segmentModes qt_segmentLengths qt_modes qt_takes qt_bytes qt_words qt_block qt_tried qt_values qt_system qt_solved qt_places qt_readBytes qt_readings : Nat) (ct_generator : ClassId) (vt_thrown : Int32) (vt_length : Int32) (vt_version : Int32) (vt_side : Int32) (vt_made : Int32) (vt_segments : Int32) (vt_bits : Int32) (vt_filled : Int32) (vt_readLength : Int32) (vt_at : Int32) (vt_all : Int32) (vt_fault : Int32) (vt_good : Int32) (vt_generator : Nat → Int32) : Array Value → State → Outcome → State → Prop := va_Qv (fun (_ : Unit) => True) (fun _ t => va_P (dC, dI) cl_All (ww_Md_generate qt qt_generator qt_checkBytes qt_blocks qt_data qt_modules qt_fixed qt_tells qt_segmentModes qt_segmentLengths qt_modes qt_takes qt_bytes qt_words qt_block qt_tried qt_values qt_system qt_solved qt_places qt_readBytes qt_readings ct_generator vt_thrown vt_length vt_version vt_side vt_made vt_segments vt_bits vt_filled vt_readLength vt_at vt_all vt_fault vt_good vt_generator) t.heap ∧ va_D A (ww_Md_generate qt qt_generator qt_checkBytes qt_blocks qt_data qt_modules qt_fixed qt_tells qt_segmentModes qt_segmentLengths qt_modes qt_takes qt_bytes qt_words qt_block qt_tried qt_values qt_system qt_solved qt_places qt_readBytes qt_readings ct_generator vt_thrown vt_length vt_version vt_side vt_made vt_segments vt_bits vt_filled vt_readLength vt_at vt_all vt_fault vt_good vt_generator)) A

set_option maxHeartbeats 4000000 in
set_option maxRecDepth 100000 in
theorem kt_Md_generate (l : Launch) (dC : Nat → ClassId) (dI : Nat → Nat → Nat) (qt qt_generator qt_checkBytes qt_blocks qt_data qt_modules qt_fixed qt_tells qt_segmentModes qt_segmentLengths qt_modes qt_takes qt_bytes qt_words qt_block qt_tried qt_values qt_system qt_solved qt_places qt_readBytes qt_readings : Nat) (ct_generator : ClassId) (vt_thrown : Int32) (vt_length : Int32) (vt_version : Int32) (vt_side : Int32) (vt_made : Int32) (vt_segments : Int32) (vt_bits : Int32) (vt_filled : Int32) (vt_readLength : Int32) (vt_at : Int32) (vt_all : Int32) (vt_fault : Int32) (vt_good : Int32) (vt_generator : Nat → Int32) (p1 : Int32) (sz : Nat) (n0 : Nat) (nvt_generator : Nat → Int32) (Hf : fn_Md_generate n0 p1 vt_generator = some nvt_generator) : Met l y_Md_generate w_Md_generate rm_Md_generate (va_Pc [.ref qt, .int p1] (fun U => U.heap.size = sz ∧ va_P (dC, dI) cl_All (ww_Md_generate qt qt_generator qt_checkBytes qt_blocks qt_data qt_modules qt_fixed qt_tells qt_segmentModes qt_segmentLengths qt_modes qt_takes qt_bytes qt_words qt_block qt_tried qt_values qt_system qt_solved qt_places qt_readBytes qt_readings ct_generator vt_thrown vt_length vt_version vt_side vt_made vt_segments vt_bits vt_filled vt_readLength vt_at vt_all vt_fault vt_good vt_generator) U.heap ∧ va_K (dC, dI) cl_All [(ct_generator, .int)] U ∧ va_D (fun _ => True) (ww_Md_generate qt qt_generator qt_checkBytes qt_blocks qt_data qt_modules qt_fixed qt_tells qt_segmentModes qt_segmentLengths qt_modes qt_takes qt_bytes qt_words qt_block qt_tried qt_values qt_system qt_solved qt_places qt_readBytes qt_readings ct_generator vt_thrown vt_length vt_version vt_side vt_made vt_segments vt_bits vt_filled vt_readLength vt_at vt_all vt_fault vt_good vt_generator))) (qc_Md_generate dC dI (va_A (ww_Md_generate qt qt_generator qt_checkBytes qt_blocks qt_data qt_modules qt_fixed qt_tells qt_segmentModes qt_segmentLengths qt_modes qt_takes qt_bytes qt_words qt_block qt_tried qt_values qt_system qt_solved qt_places qt_readBytes qt_readings ct_generator vt_thrown vt_length vt_version vt_side vt_made vt_segments vt_bits vt_filled vt_readLength vt_at vt_all vt_fault vt_good vt_generator) sz) qt qt_generator qt_checkBytes qt_blocks qt_data qt_modules qt_fixed qt_tells qt_segmentModes qt_segmentLengths qt_modes qt_takes qt_bytes qt_words qt_block qt_tried qt_values qt_system qt_solved qt_places qt_readBytes qt_readings ct_generator vt_thrown vt_length vt_version vt_side vt_made vt_segments vt_bits vt_filled vt_readLength vt_at vt_all vt_fault vt_good nvt_generator) 0 0 (va_A (ww_Md_generate qt qt_generator qt_checkBytes qt_blocks qt_data qt_modules qt_fixed qt_tells qt_segmentModes qt_segmentLengths qt_modes qt_takes qt_bytes qt_words qt_block qt_tried qt_values qt_system qt_solved qt_places qt_readBytes qt_readings ct_generator vt_thrown vt_length vt_version vt_side vt_made vt_segments vt_bits vt_filled vt_readLength vt_at vt_all vt_fault vt_good vt_generator) sz) := by
  refine Met.ofW (cc := prog_14_method_28_code) (maxL := 5) (ret := none) (by decide) rfl ?_
  intro p e s m args below meth c s₁ B hml hv
  obtain ⟨rfl, hsz, hP, hK, hD0⟩ := hv
  have hx := B.exec; have hb := B.bytes; have hr := B.returns; have hlocks := B.notSynchronized
  have ht : ∀ w ∈ lw_g, w.before _ s = true := fun w h => atoms_spec (ws := w_Md_generate) B.pre w (List.mem_cons_of_mem _ h)
  have hown : s.vm.findClass "SquareSymbolsModel" = some m.cls := findClass_of_methodNamed B.named
  subst hsz
  have hD := hD0.self (sz := s.heap.size)
  generalize hAe : va_A (ww_Md_generate qt qt_generator qt_checkBytes qt_blocks qt_data qt_modules qt_fixed qt_tells qt_segmentModes qt_segmentLengths qt_modes qt_takes qt_bytes qt_words qt_block qt_tried qt_values qt_system qt_solved qt_places qt_readBytes qt_readings ct_generator vt_thrown vt_length vt_version vt_side vt_made vt_segments vt_bits vt_filled vt_readLength vt_at vt_all vt_fault vt_good vt_generator) s.heap.size = A at hD ⊢
  have hA : ∀ q : Nat, s.heap.size ≤ q → A q := fun q h => by rw [← hAe]; exact Or.inr h
  have hS : va_S A s.heap s.heap [] := va_S.rf
  have hl := lv_entry ([.ref qt, .int p1]) (n := 5) (Nat.le_of_ble_eq_true rfl)
  rw [lg_entry_eq]
  generalize (lg_sl ([.ref qt, .int p1]) ++ List.replicate (5 - (lg_sl ([.ref qt, .int p1])).length) Slot.unset).toArray = ls at hl ⊢
  have hl : lv_has ls 5 [(0, .ref qt), (1, .int p1)] := hl
  refine lv_aload_n hx hb d_Md_generate_0 rfl (lv_at hl 0 rfl) ?_
  refine va_get (D := (dC, dI)) (ci := 10) (v := .ref qt_generator) (C := R_Md) (T := F_Md) (N := 34) hx hb ht i_Md hown hK hP 0 rfl rfl 26 (by decide) (ht _ tb_1088) (fun _ h9 => h9) rfl d_Md_generate_1 ?_
  refine lv_iconst (v := (0 : Int32)) hx hb d_Md_generate_4 (by decide) ?_
  refine lv_iconst (v := (1 : Int32)) hx hb d_Md_generate_5 (by decide) ?_
  obtain ⟨hi1, Hf⟩ := sq_gi_e Hf
  obtain ⟨b2, eb2, Hf⟩ := sq_bd_e Hf
  refine va_iast hx hb hK hP hD hS 1 0 rfl rfl hi1 d_Md_generate_6 (fun H locs hP hD hS => ?_)
  rw [← eb2] at hP hD
  replace hP : va_P (dC, dI) cl_All (ww_Md_generate qt qt_generator qt_checkBytes qt_blocks qt_data qt_modules qt_fixed qt_tells qt_segmentModes qt_segmentLengths qt_modes qt_takes qt_bytes qt_words qt_block qt_tried qt_values qt_system qt_solved qt_places qt_readBytes qt_readings ct_generator vt_thrown vt_length vt_version vt_side vt_made vt_segments vt_bits vt_filled vt_readLength vt_at vt_all vt_fault vt_good b2) H := hP
  replace hD : va_D A (ww_Md_generate qt qt_generator qt_checkBytes qt_blocks qt_data qt_modules qt_fixed qt_tells qt_segmentModes qt_segmentLengths qt_modes qt_takes qt_bytes qt_words qt_block qt_tried qt_values qt_system qt_solved qt_places qt_readBytes qt_readings ct_generator vt_thrown vt_length vt_version vt_side vt_made vt_segments vt_bits vt_filled vt_readLength vt_at vt_all vt_fault vt_good b2) := hD
  refine lv_iconst (v := (0 : Int32)) hx hb d_Md_generate_7 (by decide) ?_
  refine lv_istore_n (lv' := [(2, .int (0 : Int32)), (0, .ref qt), (1, .int p1)]) hx hb d_Md_generate_8 rfl hl (by decide) rfl (fun ls hl => ?_)
  have L1 : ∀ (m1 : Nat), ∀ (x3 : Int32) (b4 : Nat → Int32), fn_Md_generate_L1 p1 n0 m1 x3 b4 = some nvt_generator → ∀ (H : Heap) (locs : List Loc), va_P (dC, dI) cl_All (ww_Md_generate qt qt_generator qt_checkBytes qt_blocks qt_data qt_modules qt_fixed qt_tells qt_segmentModes qt_segmentLengths qt_modes qt_takes qt_bytes qt_words qt_block qt_tried qt_values qt_system qt_solved qt_places qt_readBytes qt_readings ct_generator vt_thrown vt_length vt_version vt_side vt_made vt_segments vt_bits vt_filled vt_readLength vt_at vt_all vt_fault vt_good b4) H → va_D A (ww_Md_generate qt qt_generator qt_checkBytes qt_blocks qt_data qt_modules qt_fixed qt_tells qt_segmentModes qt_segmentLengths qt_modes qt_takes qt_bytes qt_words qt_block qt_tried qt_values qt_system qt_solved qt_places qt_readBytes qt_readings ct_generator vt_thrown vt_length vt_version vt_side vt_made vt_segments vt_bits vt_filled vt_readLength vt_at vt_all vt_fault vt_good b4) → va_S A s.heap H locs → ∀ ls : Array Slot, lv_has ls 5 [(0, .ref qt), (1, .int p1), (2, .int x3)] → W p l e (headSpec w_Md_generate rm_Md_generate).room s m (([.ref qt, .int p1] : List Value).toArray) below meth c H locs 0 0 (MQ below (qc_Md_generate dC dI A qt qt_generator qt_checkBytes qt_blocks qt_data qt_modules qt_fixed qt_tells qt_segmentModes qt_segmentLengths qt_modes qt_takes qt_bytes qt_words qt_block qt_tried qt_values qt_system qt_solved qt_places qt_readBytes qt_readings ct_generator vt_thrown vt_length vt_version vt_side vt_made vt_segments vt_bits vt_filled vt_readLength vt_at vt_all vt_fault vt_good nvt_generator) (([.ref qt, .int p1] : List Value).toArray) s 0 0 A) (F0 m 9 ls []) := by
    intro m1
    induction m1 with
    | zero => intro x3 b4 Hf; exact sq_none Hf
    | succ m1 ih1 =>
      intro x3 b4 Hf H locs  hP hD hS ls hl
      replace Hf := (fn_Md_generate_L1_s p1 n0 m1 x3 b4).symm.trans Hf
      refine lv_iload_n hx hb d_Md_generate_9 rfl (lv_at hl 2 rfl) ?_
      refine lv_iload_n hx hb d_Md_generate_10 rfl (lv_at hl 1 rfl) ?_
      refine lv_icmp_ge (tgt := 78) hx hb d_Md_generate_11 (by decide) (fun c5 => ?_) (fun c5 => ?_)
      · replace Hf := sq_ite_t Hf c5
        obtain rfl := Option.some.inj Hf
        exact W.vret hx hb hr (fun t ht hW => ⟨⟨(), rfl, trivial, by rw [ht]; exact hP, hD⟩, hS.F ht⟩) hS.2.2 d_Md_generate_78
      · replace Hf := sq_ite_f Hf c5
        refine lv_iload_n hx hb d_Md_generate_14 rfl (lv_at hl 2 rfl) ?_
        obtain ⟨r6, hc7, Hf⟩ := sq_cb1_e Hf
        refine sq_roi (va_runS (As := [.int x3]) (rest := []) ⟨hx, hb, hml, hown, ht⟩ (kt_Md_two l dC dI x3 n0 r6 hc7) (va_cwS 1 ht (sq_gS tb_1267 tb_1268 tb_11 tb_1269) rfl rfl rfl (by decide +kernel) ⟨Nat.le_of_ble_eq_true rfl, Nat.le_of_ble_eq_true rfl⟩) (sq_roS (hP.sub (ws' := ([] : va_W)) [] rfl) (hK.sub (tys' := []) [] rfl)) rfl rfl hl.1 rfl (lv_room (Nat.le_of_ble_eq_true rfl)) d_Md_generate_15 ⟨Nat.le_of_ble_eq_true rfl, Nat.le_of_ble_eq_true rfl⟩) ?_
        refine lv_istore_n (lv' := [(3, .int r6), (0, .ref qt), (1, .int p1), (2, .int x3)]) hx hb d_Md_generate_18 rfl hl (by decide) rfl (fun ls hl => ?_)
        refine lv_aload_n hx hb d_Md_generate_19 rfl (lv_at hl 1 rfl) ?_
        refine va_get (D := (dC, dI)) (ci := 10) (v := .ref qt_generator) (C := R_Md) (T := F_Md) (N := 34) hx hb ht i_Md hown hK hP 0 rfl rfl 26 (by decide) (ht _ tb_1088) (fun _ h9 => h9) rfl d_Md_generate_20 ?_
        refine lv_iload_n hx hb d_Md_generate_23 rfl (lv_at hl 3 rfl) ?_
        refine lv_iconst (v := (1 : Int32)) hx hb d_Md_generate_24 (by decide) ?_
        refine lv_iadd hx hb d_Md_generate_25 ?_
        refine lv_iconst (v := (0 : Int32)) hx hb d_Md_generate_26 (by decide) ?_
        obtain ⟨x9, ex9, Hf⟩ := sq_bd_e Hf
        refine sq_top2 ex9 ?_
        obtain ⟨hi8, Hf⟩ := sq_gi_e Hf
        obtain ⟨b10, eb10, Hf⟩ := sq_bd_e Hf
        refine va_iast hx hb hK hP hD hS 1 0 rfl rfl hi8 d_Md_generate_27 (fun H locs hP hD hS => ?_)
        rw [← eb10] at hP hD
        replace hP : va_P (dC, dI) cl_All (ww_Md_generate qt qt_generator qt_checkBytes qt_blocks qt_data qt_modules qt_fixed qt_tells qt_segmentModes qt_segmentLengths qt_modes qt_takes qt_bytes qt_words qt_block qt_tried qt_values qt_system qt_solved qt_places qt_readBytes qt_readings ct_generator vt_thrown vt_length vt_version vt_side vt_made vt_segments vt_bits vt_filled vt_readLength vt_at vt_all vt_fault vt_good b10) H := hP
        replace hD : va_D A (ww_Md_generate qt qt_generator qt_checkBytes qt_blocks qt_data qt_modules qt_fixed qt_tells qt_segmentModes qt_segmentLengths qt_modes qt_takes qt_bytes qt_words qt_block qt_tried qt_values qt_system qt_solved qt_places qt_readBytes qt_readings ct_generator vt_thrown vt_length vt_version vt_side vt_made vt_segments vt_bits vt_filled vt_readLength vt_at vt_all vt_fault vt_good b10) := hD
        refine lv_iload_n hx hb d_Md_generate_28 rfl (lv_at hl 3 rfl) ?_
        refine lv_iconst (v := (1 : Int32)) hx hb d_Md_generate_29 (by decide) ?_
        refine lv_iadd hx hb d_Md_generate_30 ?_
        obtain ⟨x11, ex11, Hf⟩ := sq_bd_e Hf
        refine sq_top ex11 ?_
        refine lv_istore (lv' := [(4, .int x11), (3, .int r6), (0, .ref qt), (1, .int p1), (2, .int x3)]) hx hb d_Md_generate_31 hl (by decide) rfl (fun ls hl => ?_)
        obtain ⟨k13, hk13, Hf⟩ := sq_jn_e Hf
        have Jk13 : ∀ (b12 : Nat → Int32), k13 b12 = some nvt_generator → ∀ (H : Heap) (locs : List Loc), va_P (dC, dI) cl_All (ww_Md_generate qt qt_generator qt_checkBytes qt_blocks qt_data qt_modules qt_fixed qt_tells qt_segmentModes qt_segmentLengths qt_modes qt_takes qt_bytes qt_words qt_block qt_tried qt_values qt_system qt_solved qt_places qt_readBytes qt_readings ct_generator vt_thrown vt_length vt_version vt_side vt_made vt_segments vt_bits vt_filled vt_readLength vt_at vt_all vt_fault vt_good b12) H → va_D A (ww_Md_generate qt qt_generator qt_checkBytes qt_blocks qt_data qt_modules qt_fixed qt_tells qt_segmentModes qt_segmentLengths qt_modes qt_takes qt_bytes qt_words qt_block qt_tried qt_values qt_system qt_solved qt_places qt_readBytes qt_readings ct_generator vt_thrown vt_length vt_version vt_side vt_made vt_segments vt_bits vt_filled vt_readLength vt_at vt_all vt_fault vt_good b12) → va_S A s.heap H locs → ∀ ls : Array Slot, lv_has ls 5 [(0, .ref qt), (1, .int p1), (2, .int x3)] → W p l e (headSpec w_Md_generate rm_Md_generate).room s m (([.ref qt, .int p1] : List Value).toArray) below meth c H locs 0 0 (MQ below (qc_Md_generate dC dI A qt qt_generator qt_checkBytes qt_blocks qt_data qt_modules qt_fixed qt_tells qt_segmentModes qt_segmentLengths qt_modes qt_takes qt_bytes qt_words qt_block qt_tried qt_values qt_system qt_solved qt_places qt_readBytes qt_readings ct_generator vt_thrown vt_length vt_version vt_side vt_made vt_segments vt_bits vt_filled vt_readLength vt_at vt_all vt_fault vt_good nvt_generator) (([.ref qt, .int p1] : List Value).toArray) s 0 0 A) (F0 m 72 ls []) := by
          intro b12 Hf H locs  hP hD hS ls hl
          rw [hk13] at Hf
          obtain ⟨x14, ex14, Hf⟩ := sq_bd_e Hf
          refine lv_iinc (v := x14) (lv' := [(2, .int x14), (0, .ref qt), (1, .int p1)]) hx hb d_Md_generate_72 hl (k := 2) rfl (by rw [ex14]; rfl) (by decide) rfl (fun ls hl => ?_)
          refine lv_goto (tgt := 9) hx hb d_Md_generate_75 (by decide) ?_
          exact ih1 x14 b12 Hf _ _  hP hD hS _ (lv_sub hl [1, 2, 0] rfl)
        have L2 : ∀ (m2 : Nat), ∀ (x15 : Int32) (b16 : Nat → Int32), fn_Md_generate_L2 n0 r6 k13 m2 x15 b16 = some nvt_generator → ∀ (H : Heap) (locs : List Loc), va_P (dC, dI) cl_All (ww_Md_generate qt qt_generator qt_checkBytes qt_blocks qt_data qt_modules qt_fixed qt_tells qt_segmentModes qt_segmentLengths qt_modes qt_takes qt_bytes qt_words qt_block qt_tried qt_values qt_system qt_solved qt_places qt_readBytes qt_readings ct_generator vt_thrown vt_length vt_version vt_side vt_made vt_segments vt_bits vt_filled vt_readLength vt_at vt_all vt_fault vt_good b16) H → va_D A (ww_Md_generate qt qt_generator qt_checkBytes qt_blocks qt_data qt_modules qt_fixed qt_tells qt_segmentModes qt_segmentLengths qt_modes qt_takes qt_bytes qt_words qt_block qt_tried qt_values qt_system qt_solved qt_places qt_readBytes qt_readings ct_generator vt_thrown vt_length vt_version vt_side vt_made vt_segments vt_bits vt_filled vt_readLength vt_at vt_all vt_fault vt_good b16) → va_S A s.heap H locs → ∀ ls : Array Slot, lv_has ls 5 [(0, .ref qt), (1, .int p1), (2, .int x3), (3, .int r6), (4, .int x15)] → W p l e (headSpec w_Md_generate rm_Md_generate).room s m (([.ref qt, .int p1] : List Value).toArray) below meth c H locs 0 0 (MQ below (qc_Md_generate dC dI A qt qt_generator qt_checkBytes qt_blocks qt_data qt_modules qt_fixed qt_tells qt_segmentModes qt_segmentLengths qt_modes qt_takes qt_bytes qt_words qt_block qt_tried qt_values qt_system qt_solved qt_places qt_readBytes qt_readings ct_generator vt_thrown vt_length vt_version vt_side vt_made vt_segments vt_bits vt_filled vt_readLength vt_at vt_all vt_fault vt_good nvt_generator) (([.ref qt, .int p1] : List Value).toArray) s 0 0 A) (F0 m 33 ls []) := by
          intro m2
          induction m2 with
          | zero => intro x15 b16 Hf; exact sq_none Hf
          | succ m2 ih2 =>
            intro x15 b16 Hf H locs  hP hD hS ls hl
            replace Hf := (fn_Md_generate_L2_s n0 r6 k13 m2 x15 b16).symm.trans Hf
            refine lv_iload hx hb d_Md_generate_33 (lv_at hl 4 rfl) ?_
            refine lv_if_le (tgt := 72) hx hb d_Md_generate_35 (by decide) (fun c17 => ?_) (fun c17 => ?_)
            · replace Hf := sq_ite_t Hf c17
              exact Jk13 b16 Hf _ _  hP hD hS _ (lv_sub hl [0, 1, 2] rfl)
            · replace Hf := sq_ite_f Hf c17
              refine lv_aload_n hx hb d_Md_generate_38 rfl (lv_at hl 0 rfl) ?_
              refine va_get (D := (dC, dI)) (ci := 10) (v := .ref qt_generator) (C := R_Md) (T := F_Md) (N := 34) hx hb ht i_Md hown hK hP 0 rfl rfl 26 (by decide) (ht _ tb_1088) (fun _ h9 => h9) rfl d_Md_generate_39 ?_
              refine lv_iload hx hb d_Md_generate_42 (lv_at hl 4 rfl) ?_
              refine lv_aload_n hx hb d_Md_generate_44 rfl (lv_at hl 0 rfl) ?_
              refine va_get (D := (dC, dI)) (ci := 10) (v := .ref qt_generator) (C := R_Md) (T := F_Md) (N := 34) hx hb ht i_Md hown hK hP 0 rfl rfl 26 (by decide) (ht _ tb_1088) (fun _ h9 => h9) rfl d_Md_generate_45 ?_
              refine lv_iload hx hb d_Md_generate_48 (lv_at hl 4 rfl) ?_
              obtain ⟨hi18, Hf⟩ := sq_gi_e Hf
              refine va_iald hx hb hK hP 1 0 rfl rfl hi18 d_Md_generate_50 ?_
              obtain ⟨x19, ex19, Hf⟩ := sq_bd_e Hf
              refine sq_top ex19 ?_
              refine lv_aload_n hx hb d_Md_generate_51 rfl (lv_at hl 0 rfl) ?_
              refine va_get (D := (dC, dI)) (ci := 10) (v := .ref qt_generator) (C := R_Md) (T := F_Md) (N := 34) hx hb ht i_Md hown hK hP 0 rfl rfl 26 (by decide) (ht _ tb_1088) (fun _ h9 => h9) rfl d_Md_generate_52 ?_
              refine lv_iload hx hb d_Md_generate_55 (lv_at hl 4 rfl) ?_
              refine lv_iconst (v := (1 : Int32)) hx hb d_Md_generate_57 (by decide) ?_
              refine lv_isub hx hb d_Md_generate_58 ?_
              obtain ⟨x20, ex20, Hf⟩ := sq_bd_e Hf
              refine sq_top ex20 ?_
              obtain ⟨hi21, Hf⟩ := sq_gi_e Hf
              refine va_iald hx hb hK hP 1 0 rfl rfl hi21 d_Md_generate_59 ?_
              obtain ⟨x22, ex22, Hf⟩ := sq_bd_e Hf
              refine sq_top ex22 ?_
              refine lv_iload_n hx hb d_Md_generate_60 rfl (lv_at hl 3 rfl) ?_
              obtain ⟨r23, hc24, Hf⟩ := sq_cb1_e Hf
              refine sq_roi (va_runS (As := [.int x22, .int r6]) (rest := [.int x19, .int x15, .ref qt_generator]) ⟨hx, hb, hml, hown, ht⟩ (kt_Md_times l dC dI x22 r6 n0 r23 hc24) (va_cwS 2 ht (sq_gS tb_1270 tb_1271 tb_11 tb_1272) rfl rfl rfl (by decide +kernel) ⟨Nat.le_of_ble_eq_true rfl, Nat.le_of_ble_eq_true rfl⟩) (sq_roS (hP.sub (ws' := ([] : va_W)) [] rfl) (hK.sub (tys' := []) [] rfl)) rfl rfl hl.1 rfl (lv_room (Nat.le_of_ble_eq_true rfl)) d_Md_generate_61 ⟨Nat.le_of_ble_eq_true rfl, Nat.le_of_ble_eq_true rfl⟩) ?_
              refine lv_ixor hx hb d_Md_generate_64 ?_
              obtain ⟨x25, ex25, Hf⟩ := sq_bd_e Hf
              refine sq_top ex25 ?_
              obtain ⟨hi26, Hf⟩ := sq_gi_e Hf
              obtain ⟨b27, eb27, Hf⟩ := sq_bd_e Hf
              refine va_iast hx hb hK hP hD hS 1 0 rfl rfl hi26 d_Md_generate_65 (fun H locs hP hD hS => ?_)
              rw [← eb27] at hP hD
              replace hP : va_P (dC, dI) cl_All (ww_Md_generate qt qt_generator qt_checkBytes qt_blocks qt_data qt_modules qt_fixed qt_tells qt_segmentModes qt_segmentLengths qt_modes qt_takes qt_bytes qt_words qt_block qt_tried qt_values qt_system qt_solved qt_places qt_readBytes qt_readings ct_generator vt_thrown vt_length vt_version vt_side vt_made vt_segments vt_bits vt_filled vt_readLength vt_at vt_all vt_fault vt_good b27) H := hP
              replace hD : va_D A (ww_Md_generate qt qt_generator qt_checkBytes qt_blocks qt_data qt_modules qt_fixed qt_tells qt_segmentModes qt_segmentLengths qt_modes qt_takes qt_bytes qt_words qt_block qt_tried qt_values qt_system qt_solved qt_places qt_readBytes qt_readings ct_generator vt_thrown vt_length vt_version vt_side vt_made vt_segments vt_bits vt_filled vt_readLength vt_at vt_all vt_fault vt_good b27) := hD
              obtain ⟨x28, ex28, Hf⟩ := sq_bd_e Hf
              refine lv_iinc (v := x28) (lv' := [(4, .int x28), (0, .ref qt), (1, .int p1), (2, .int x3), (3, .int r6)]) hx hb d_Md_generate_66 hl (k := 4) rfl (by rw [ex28]; rfl) (by decide) rfl (fun ls hl => ?_)
              refine lv_goto (tgt := 33) hx hb d_Md_generate_69 (by decide) ?_
              exact ih2 x28 b27 Hf _ _  hP hD hS _ (lv_sub hl [1, 2, 3, 4, 0] rfl)
        exact L2 n0 x11 b10 Hf _ _  hP hD hS _ (lv_sub hl [2, 3, 4, 1, 0] rfl)
  exact L1 n0 (0 : Int32) b2 Hf _ _  hP hD hS _ (lv_sub hl [1, 2, 0] rfl)

def fn_Md_shareOf (p1 : Int32) (p2 : Int32) (p3 : Int32) (vt_blocks : Nat → Int32) (vt_checkBytes : Nat → Int32) : Option (Int32) :=
  sq_cb1 (fn_Md_blocksOf p1 p2 vt_blocks) fun r1 => sq_cb1 (fn_Md_holds p1 p2 vt_blocks vt_checkBytes) fun r3 => sq_gz r1 <| sq_bd (r3 / r1) fun x6 => sq_cb1 (fn_Md_holds p1 p2 vt_blocks vt_checkBytes) fun r7 => sq_gz r1 <| sq_bd (sq_rem r7 r1) fun x10 => if p3 < (r1 - x10) then (some (x6)) else (some (x6 + (1 : Int32)))
abbrev ww_Md_shareOf (qt qt_blocks qt_checkBytes qt_data qt_modules qt_fixed qt_tells qt_segmentModes qt_segmentLengths qt_modes qt_takes qt_bytes qt_words qt_block qt_tried qt_values qt_system qt_solved qt_places qt_generator qt_readBytes qt_readings : Nat) (ct_blocks ct_checkBytes : ClassId) (vt_thrown : Int32) (vt_length : Int32) (vt_version : Int32) (vt_side : Int32) (vt_made : Int32) (vt_segments : Int32) (vt_bits : Int32) (vt_filled : Int32) (vt_readLength : Int32) (vt_at : Int32) (vt_all : Int32) (vt_fault : Int32) (vt_good : Int32) (vt_blocks : Nat → Int32) (vt_checkBytes : Nat → Int32) : va_W := [(qt, .inr (10, [.int vt_thrown, .ref qt_checkBytes, .ref qt_blocks, .ref qt_data, .int vt_length, .ref qt_modules, .ref qt_fixed, .int vt_version, .int vt_side, .int vt_made, .ref qt_tells, .ref qt_segmentModes, .ref qt_segmentLengths, .int vt_segments, .ref qt_modes, .ref qt_takes, .int vt_bits, .ref qt_bytes, .ref qt_words, .int vt_filled, .ref qt_block, .ref qt_tried, .ref qt_values, .ref qt_system, .ref qt_solved, .ref qt_places, .ref qt_generator, .ref qt_readBytes, .int vt_readLength, .int vt_at, .int vt_all, .int vt_fault, .int vt_good, .ref qt_readings])), (qt_blocks, .inl (ct_blocks, 160, .inl vt_blocks)), (qt_checkBytes, .inl (ct_checkBytes, 160, .inl vt_checkBytes))]

def rm_Md_shareOf : Room := { frames := 2, cells := 0, slots := 0, locals := 44 }
abbrev qc_Md_shareOf (r0 : Int32) : Array Value → State → Outcome → State → Prop := vp_Si (fun r => r = r0)

set_option maxHeartbeats 4000000 in
set_option maxRecDepth 100000 in
theorem kt_Md_shareOf (l : Launch) (dC : Nat → ClassId) (dI : Nat → Nat → Nat) (qt qt_blocks qt_checkBytes qt_data qt_modules qt_fixed qt_tells qt_segmentModes qt_segmentLengths qt_modes qt_takes qt_bytes qt_words qt_block qt_tried qt_values qt_system qt_solved qt_places qt_generator qt_readBytes qt_readings : Nat) (ct_blocks ct_checkBytes : ClassId) (vt_thrown : Int32) (vt_length : Int32) (vt_version : Int32) (vt_side : Int32) (vt_made : Int32) (vt_segments : Int32) (vt_bits : Int32) (vt_filled : Int32) (vt_readLength : Int32) (vt_at : Int32) (vt_all : Int32) (vt_fault : Int32) (vt_good : Int32) (vt_blocks : Nat → Int32) (vt_checkBytes : Nat → Int32) (p1 : Int32) (p2 : Int32) (p3 : Int32) (r0 : Int32) (Hf : fn_Md_shareOf p1 p2 p3 vt_blocks vt_checkBytes = some r0) : Met l y_Md_shareOf w_Md_shareOf rm_Md_shareOf (va_Pc [.ref qt, .int p1, .int p2, .int p3] (fun U => va_P (dC, dI) cl_All (ww_Md_shareOf qt qt_blocks qt_checkBytes qt_data qt_modules qt_fixed qt_tells qt_segmentModes qt_segmentLengths qt_modes qt_takes qt_bytes qt_words qt_block qt_tried qt_values qt_system qt_solved qt_places qt_generator qt_readBytes qt_readings ct_blocks ct_checkBytes vt_thrown vt_length vt_version vt_side vt_made vt_segments vt_bits vt_filled vt_readLength vt_at vt_all vt_fault vt_good vt_blocks vt_checkBytes) U.heap ∧ va_K (dC, dI) cl_All [(ct_blocks, .int), (ct_checkBytes, .int)] U)) (qc_Md_shareOf r0) 0 0 (fun _ => False) := by
  refine Met.ofW (cc := prog_14_method_29_code) (maxL := 6) (ret := (some .int)) (by decide) rfl ?_
  intro p e s m args below meth c s₁ B hml hv
  obtain ⟨rfl, hP, hK⟩ := hv
  have hx := B.exec; have hb := B.bytes; have hr := B.returns; have hlocks := B.notSynchronized
  have ht : ∀ w ∈ lw_g, w.before _ s = true := fun w h => atoms_spec (ws := w_Md_shareOf) B.pre w (List.mem_cons_of_mem _ h)
  have hown : s.vm.findClass "SquareSymbolsModel" = some m.cls := findClass_of_methodNamed B.named
  have hl := lv_entry ([.ref qt, .int p1, .int p2, .int p3]) (n := 6) (Nat.le_of_ble_eq_true rfl)
  rw [lg_entry_eq]
  generalize (lg_sl ([.ref qt, .int p1, .int p2, .int p3]) ++ List.replicate (6 - (lg_sl ([.ref qt, .int p1, .int p2, .int p3])).length) Slot.unset).toArray = ls at hl ⊢
  have hl : lv_has ls 6 [(0, .ref qt), (1, .int p1), (2, .int p2), (3, .int p3)] := hl
  refine lv_aload_n hx hb d_Md_shareOf_0 rfl (lv_at hl 0 rfl) ?_
  refine lv_iload_n hx hb d_Md_shareOf_1 rfl (lv_at hl 1 rfl) ?_
  refine lv_iload_n hx hb d_Md_shareOf_2 rfl (lv_at hl 2 rfl) ?_
  obtain ⟨r1, hc2, Hf⟩ := sq_cb1_e Hf
  refine sq_roi (va_runV (As := [.int p1, .int p2]) (rest := []) ⟨hx, hb, hml, hown, ht⟩ (kt_Md_blocksOf l dC dI qt qt_blocks qt_checkBytes qt_data qt_modules qt_fixed qt_tells qt_segmentModes qt_segmentLengths qt_modes qt_takes qt_bytes qt_words qt_block qt_tried qt_values qt_system qt_solved qt_places qt_generator qt_readBytes qt_readings ct_blocks vt_thrown vt_length vt_version vt_side vt_made vt_segments vt_bits vt_filled vt_readLength vt_at vt_all vt_fault vt_good vt_blocks p1 p2 r1 hc2) (cwV 2 ht (sq_gV tb_1243 tb_1245 sl_38 tb_11 tb_1246) rfl rfl rfl (by decide +kernel) ⟨Nat.le_of_ble_eq_true rfl, Nat.le_of_ble_eq_true rfl⟩) (sq_roV (hP.sub (ws' := (ww_Md_blocksOf qt qt_blocks qt_checkBytes qt_data qt_modules qt_fixed qt_tells qt_segmentModes qt_segmentLengths qt_modes qt_takes qt_bytes qt_words qt_block qt_tried qt_values qt_system qt_solved qt_places qt_generator qt_readBytes qt_readings ct_blocks vt_thrown vt_length vt_version vt_side vt_made vt_segments vt_bits vt_filled vt_readLength vt_at vt_all vt_fault vt_good vt_blocks)) [0, 1] rfl) (hK.sub (tys' := [(ct_blocks, .int)]) [0] rfl) (va_recv hK hP (ci := 10) (q0 := 0) rfl rfl)) rfl rfl hl.1 rfl (lv_room (Nat.le_of_ble_eq_true rfl)) d_Md_shareOf_3 ⟨Nat.le_of_ble_eq_true rfl, Nat.le_of_ble_eq_true rfl⟩) ?_
  refine lv_istore (lv' := [(4, .int r1), (0, .ref qt), (1, .int p1), (2, .int p2), (3, .int p3)]) hx hb d_Md_shareOf_6 hl (by decide) rfl (fun ls hl => ?_)
  refine lv_aload_n hx hb d_Md_shareOf_8 rfl (lv_at hl 1 rfl) ?_
  refine lv_iload_n hx hb d_Md_shareOf_9 rfl (lv_at hl 2 rfl) ?_
  refine lv_iload_n hx hb d_Md_shareOf_10 rfl (lv_at hl 3 rfl) ?_
  obtain ⟨r3, hc4, Hf⟩ := sq_cb1_e Hf
  refine sq_roi (va_runV (As := [.int p1, .int p2]) (rest := []) ⟨hx, hb, hml, hown, ht⟩ (kt_Md_holds l dC dI qt qt_blocks qt_checkBytes qt_data qt_modules qt_fixed qt_tells qt_segmentModes qt_segmentLengths qt_modes qt_takes qt_bytes qt_words qt_block qt_tried qt_values qt_system qt_solved qt_places qt_generator qt_readBytes qt_readings ct_blocks ct_checkBytes vt_thrown vt_length vt_version vt_side vt_made vt_segments vt_bits vt_filled vt_readLength vt_at vt_all vt_fault vt_good vt_blocks vt_checkBytes p1 p2 r3 hc4) (cwV 2 ht (sq_gV tb_1232 tb_1234 sl_36 tb_11 tb_1235) rfl rfl rfl (by decide +kernel) ⟨Nat.le_of_ble_eq_true rfl, Nat.le_of_ble_eq_true rfl⟩) (sq_roV (hP.sub (ws' := (ww_Md_holds qt qt_blocks qt_checkBytes qt_data qt_modules qt_fixed qt_tells qt_segmentModes qt_segmentLengths qt_modes qt_takes qt_bytes qt_words qt_block qt_tried qt_values qt_system qt_solved qt_places qt_generator qt_readBytes qt_readings ct_blocks ct_checkBytes vt_thrown vt_length vt_version vt_side vt_made vt_segments vt_bits vt_filled vt_readLength vt_at vt_all vt_fault vt_good vt_blocks vt_checkBytes)) [0, 1, 2] rfl) (hK.sub (tys' := [(ct_blocks, .int), (ct_checkBytes, .int)]) [0, 1] rfl) (va_recv hK hP (ci := 10) (q0 := 0) rfl rfl)) rfl rfl hl.1 rfl (lv_room (Nat.le_of_ble_eq_true rfl)) d_Md_shareOf_11 ⟨Nat.le_of_ble_eq_true rfl, Nat.le_of_ble_eq_true rfl⟩) ?_
  refine lv_iload hx hb d_Md_shareOf_14 (lv_at hl 0 rfl) ?_
  obtain ⟨hz5, Hf⟩ := sq_gz_e Hf
  refine lv_idiv hx hb d_Md_shareOf_16 hz5 ?_
  obtain ⟨x6, ex6, Hf⟩ := sq_bd_e Hf
  refine sq_top ex6 ?_
  refine lv_istore (lv' := [(5, .int x6), (4, .int r1), (0, .ref qt), (1, .int p1), (2, .int p2), (3, .int p3)]) hx hb d_Md_shareOf_17 hl (by decide) rfl (fun ls hl => ?_)
  refine lv_iload_n hx hb d_Md_shareOf_19 rfl (lv_at hl 5 rfl) ?_
  refine lv_iload hx hb d_Md_shareOf_20 (lv_at hl 1 rfl) ?_
  refine lv_aload_n hx hb d_Md_shareOf_22 rfl (lv_at hl 2 rfl) ?_
  refine lv_iload_n hx hb d_Md_shareOf_23 rfl (lv_at hl 3 rfl) ?_
  refine lv_iload_n hx hb d_Md_shareOf_24 rfl (lv_at hl 4 rfl) ?_
  obtain ⟨r7, hc8, Hf⟩ := sq_cb1_e Hf
  refine sq_roi (va_runV (As := [.int p1, .int p2]) (rest := [.int r1, .int p3]) ⟨hx, hb, hml, hown, ht⟩ (kt_Md_holds l dC dI qt qt_blocks qt_checkBytes qt_data qt_modules qt_fixed qt_tells qt_segmentModes qt_segmentLengths qt_modes qt_takes qt_bytes qt_words qt_block qt_tried qt_values qt_system qt_solved qt_places qt_generator qt_readBytes qt_readings ct_blocks ct_checkBytes vt_thrown vt_length vt_version vt_side vt_made vt_segments vt_bits vt_filled vt_readLength vt_at vt_all vt_fault vt_good vt_blocks vt_checkBytes p1 p2 r7 hc8) (cwV 2 ht (sq_gV tb_1232 tb_1234 sl_36 tb_11 tb_1235) rfl rfl rfl (by decide +kernel) ⟨Nat.le_of_ble_eq_true rfl, Nat.le_of_ble_eq_true rfl⟩) (sq_roV (hP.sub (ws' := (ww_Md_holds qt qt_blocks qt_checkBytes qt_data qt_modules qt_fixed qt_tells qt_segmentModes qt_segmentLengths qt_modes qt_takes qt_bytes qt_words qt_block qt_tried qt_values qt_system qt_solved qt_places qt_generator qt_readBytes qt_readings ct_blocks ct_checkBytes vt_thrown vt_length vt_version vt_side vt_made vt_segments vt_bits vt_filled vt_readLength vt_at vt_all vt_fault vt_good vt_blocks vt_checkBytes)) [0, 1, 2] rfl) (hK.sub (tys' := [(ct_blocks, .int), (ct_checkBytes, .int)]) [0, 1] rfl) (va_recv hK hP (ci := 10) (q0 := 0) rfl rfl)) rfl rfl hl.1 rfl (lv_room (Nat.le_of_ble_eq_true rfl)) d_Md_shareOf_25 ⟨Nat.le_of_ble_eq_true rfl, Nat.le_of_ble_eq_true rfl⟩) ?_
  refine lv_iload hx hb d_Md_shareOf_28 (lv_at hl 1 rfl) ?_
  obtain ⟨hz9, Hf⟩ := sq_gz_e Hf
  refine lv_irem hx hb d_Md_shareOf_30 hz9 ?_
  obtain ⟨x10, ex10, Hf⟩ := sq_bd_e Hf
  refine sq_top ex10 ?_
  refine lv_isub hx hb d_Md_shareOf_31 ?_
  refine lv_icmp_lt (tgt := 42) hx hb d_Md_shareOf_32 (by decide) (fun c11 => ?_) (fun c11 => ?_)
  · replace Hf := sq_ite_t Hf c11
    refine lv_iload hx hb d_Md_shareOf_42 (lv_at hl 0 rfl) ?_
    have er := Option.some.inj Hf
    exact W.iret hx hb hr (fun t ht hW => ⟨_, rfl, er, ht⟩) (fun q h => by cases h) d_Md_shareOf_44
  · replace Hf := sq_ite_f Hf c11
    refine lv_iload hx hb d_Md_shareOf_35 (lv_at hl 0 rfl) ?_
    refine lv_iconst (v := (1 : Int32)) hx hb d_Md_shareOf_37 (by decide) ?_
    refine lv_iadd hx hb d_Md_shareOf_38 ?_
    refine lv_goto (tgt := 44) hx hb d_Md_shareOf_39 (by decide) ?_
    have er := Option.some.inj Hf
    exact W.iret hx hb hr (fun t ht hW => ⟨_, rfl, er, ht⟩) (fun q h => by cases h) d_Md_shareOf_44

def fn_Md_startOf_L1 (p1 : Int32) (p2 : Int32) (p3 : Int32) (vt_blocks : Nat → Int32) (vt_checkBytes : Nat → Int32) : Nat → Int32 → Int32 → Option (Int32)
  | 0, _, _ => none
  | m1 + 1, x1, x2 => if p3 ≤ x2 then (some (x1)) else (sq_cb1 (fn_Md_shareOf p1 p2 x2 vt_blocks vt_checkBytes) fun r4 => sq_bd (x1 + r4) fun x6 => sq_bd (x2 + (1 : Int32)) fun x7 => fn_Md_startOf_L1 p1 p2 p3 vt_blocks vt_checkBytes m1 x6 x7)
theorem fn_Md_startOf_L1_s (p1 : Int32) (p2 : Int32) (p3 : Int32) (vt_blocks : Nat → Int32) (vt_checkBytes : Nat → Int32) (m1 : Nat) (x1 : Int32) (x2 : Int32) : fn_Md_startOf_L1 p1 p2 p3 vt_blocks vt_checkBytes (m1 + 1) x1 x2 = if p3 ≤ x2 then (some (x1)) else (sq_cb1 (fn_Md_shareOf p1 p2 x2 vt_blocks vt_checkBytes) fun r4 => sq_bd (x1 + r4) fun x6 => sq_bd (x2 + (1 : Int32)) fun x7 => fn_Md_startOf_L1 p1 p2 p3 vt_blocks vt_checkBytes m1 x6 x7) := rfl
def fn_Md_startOf (n0 : Nat) (p1 : Int32) (p2 : Int32) (p3 : Int32) (vt_blocks : Nat → Int32) (vt_checkBytes : Nat → Int32) : Option (Int32) :=
  fn_Md_startOf_L1 p1 p2 p3 vt_blocks vt_checkBytes n0 (0 : Int32) (0 : Int32)
abbrev ww_Md_startOf (qt qt_blocks qt_checkBytes qt_data qt_modules qt_fixed qt_tells qt_segmentModes qt_segmentLengths qt_modes qt_takes qt_bytes qt_words qt_block qt_tried qt_values qt_system qt_solved qt_places qt_generator qt_readBytes qt_readings : Nat) (ct_blocks ct_checkBytes : ClassId) (vt_thrown : Int32) (vt_length : Int32) (vt_version : Int32) (vt_side : Int32) (vt_made : Int32) (vt_segments : Int32) (vt_bits : Int32) (vt_filled : Int32) (vt_readLength : Int32) (vt_at : Int32) (vt_all : Int32) (vt_fault : Int32) (vt_good : Int32) (vt_blocks : Nat → Int32) (vt_checkBytes : Nat → Int32) : va_W := [(qt, .inr (10, [.int vt_thrown, .ref qt_checkBytes, .ref qt_blocks, .ref qt_data, .int vt_length, .ref qt_modules, .ref qt_fixed, .int vt_version, .int vt_side, .int vt_made, .ref qt_tells, .ref qt_segmentModes, .ref qt_segmentLengths, .int vt_segments, .ref qt_modes, .ref qt_takes, .int vt_bits, .ref qt_bytes, .ref qt_words, .int vt_filled, .ref qt_block, .ref qt_tried, .ref qt_values, .ref qt_system, .ref qt_solved, .ref qt_places, .ref qt_generator, .ref qt_readBytes, .int vt_readLength, .int vt_at, .int vt_all, .int vt_fault, .int vt_good, .ref qt_readings])), (qt_blocks, .inl (ct_blocks, 160, .inl vt_blocks)), (qt_checkBytes, .inl (ct_checkBytes, 160, .inl vt_checkBytes))]

def rm_Md_startOf : Room := { frames := 3, cells := 0, slots := 0, locals := 69 }
abbrev qc_Md_startOf (r0 : Int32) : Array Value → State → Outcome → State → Prop := vp_Si (fun r => r = r0)

set_option maxHeartbeats 4000000 in
set_option maxRecDepth 100000 in
theorem kt_Md_startOf (l : Launch) (dC : Nat → ClassId) (dI : Nat → Nat → Nat) (qt qt_blocks qt_checkBytes qt_data qt_modules qt_fixed qt_tells qt_segmentModes qt_segmentLengths qt_modes qt_takes qt_bytes qt_words qt_block qt_tried qt_values qt_system qt_solved qt_places qt_generator qt_readBytes qt_readings : Nat) (ct_blocks ct_checkBytes : ClassId) (vt_thrown : Int32) (vt_length : Int32) (vt_version : Int32) (vt_side : Int32) (vt_made : Int32) (vt_segments : Int32) (vt_bits : Int32) (vt_filled : Int32) (vt_readLength : Int32) (vt_at : Int32) (vt_all : Int32) (vt_fault : Int32) (vt_good : Int32) (vt_blocks : Nat → Int32) (vt_checkBytes : Nat → Int32) (p1 : Int32) (p2 : Int32) (p3 : Int32) (n0 : Nat) (r0 : Int32) (Hf : fn_Md_startOf n0 p1 p2 p3 vt_blocks vt_checkBytes = some r0) : Met l y_Md_startOf w_Md_startOf rm_Md_startOf (va_Pc [.ref qt, .int p1, .int p2, .int p3] (fun U => va_P (dC, dI) cl_All (ww_Md_startOf qt qt_blocks qt_checkBytes qt_data qt_modules qt_fixed qt_tells qt_segmentModes qt_segmentLengths qt_modes qt_takes qt_bytes qt_words qt_block qt_tried qt_values qt_system qt_solved qt_places qt_generator qt_readBytes qt_readings ct_blocks ct_checkBytes vt_thrown vt_length vt_version vt_side vt_made vt_segments vt_bits vt_filled vt_readLength vt_at vt_all vt_fault vt_good vt_blocks vt_checkBytes) U.heap ∧ va_K (dC, dI) cl_All [(ct_blocks, .int), (ct_checkBytes, .int)] U)) (qc_Md_startOf r0) 0 0 (fun _ => False) := by
  refine Met.ofW (cc := prog_14_method_30_code) (maxL := 6) (ret := (some .int)) (by decide) rfl ?_
  intro p e s m args below meth c s₁ B hml hv
  obtain ⟨rfl, hP, hK⟩ := hv
  have hx := B.exec; have hb := B.bytes; have hr := B.returns; have hlocks := B.notSynchronized
  have ht : ∀ w ∈ lw_g, w.before _ s = true := fun w h => atoms_spec (ws := w_Md_startOf) B.pre w (List.mem_cons_of_mem _ h)
  have hown : s.vm.findClass "SquareSymbolsModel" = some m.cls := findClass_of_methodNamed B.named
  have hl := lv_entry ([.ref qt, .int p1, .int p2, .int p3]) (n := 6) (Nat.le_of_ble_eq_true rfl)
  rw [lg_entry_eq]
  generalize (lg_sl ([.ref qt, .int p1, .int p2, .int p3]) ++ List.replicate (6 - (lg_sl ([.ref qt, .int p1, .int p2, .int p3])).length) Slot.unset).toArray = ls at hl ⊢
  have hl : lv_has ls 6 [(0, .ref qt), (1, .int p1), (2, .int p2), (3, .int p3)] := hl
  refine lv_iconst (v := (0 : Int32)) hx hb d_Md_startOf_0 (by decide) ?_
  refine lv_istore (lv' := [(4, .int (0 : Int32)), (0, .ref qt), (1, .int p1), (2, .int p2), (3, .int p3)]) hx hb d_Md_startOf_1 hl (by decide) rfl (fun ls hl => ?_)
  refine lv_iconst (v := (0 : Int32)) hx hb d_Md_startOf_3 (by decide) ?_
  refine lv_istore (lv' := [(5, .int (0 : Int32)), (4, .int (0 : Int32)), (0, .ref qt), (1, .int p1), (2, .int p2), (3, .int p3)]) hx hb d_Md_startOf_4 hl (by decide) rfl (fun ls hl => ?_)
  have L1 : ∀ (m1 : Nat), ∀ (x1 : Int32) (x2 : Int32), fn_Md_startOf_L1 p1 p2 p3 vt_blocks vt_checkBytes m1 x1 x2 = some r0 → ∀ ls : Array Slot, lv_has ls 6 [(0, .ref qt), (1, .int p1), (2, .int p2), (3, .int p3), (4, .int x1), (5, .int x2)] → W p l e (headSpec w_Md_startOf rm_Md_startOf).room s m (([.ref qt, .int p1, .int p2, .int p3] : List Value).toArray) below meth c s.heap [] 0 0 (MQ below (qc_Md_startOf r0) (([.ref qt, .int p1, .int p2, .int p3] : List Value).toArray) s 0 0 (fun _ => False)) (F0 m 6 ls []) := by
    intro m1
    induction m1 with
    | zero => intro x1 x2 Hf; exact sq_none Hf
    | succ m1 ih1 =>
      intro x1 x2 Hf ls hl
      replace Hf := (fn_Md_startOf_L1_s p1 p2 p3 vt_blocks vt_checkBytes m1 x1 x2).symm.trans Hf
      refine lv_iload hx hb d_Md_startOf_6 (lv_at hl 5 rfl) ?_
      refine lv_iload_n hx hb d_Md_startOf_8 rfl (lv_at hl 3 rfl) ?_
      refine lv_icmp_ge (tgt := 31) hx hb d_Md_startOf_9 (by decide) (fun c3 => ?_) (fun c3 => ?_)
      · replace Hf := sq_ite_t Hf c3
        refine lv_iload hx hb d_Md_startOf_31 (lv_at hl 4 rfl) ?_
        have er := Option.some.inj Hf
        exact W.iret hx hb hr (fun t ht hW => ⟨_, rfl, er, ht⟩) (fun q h => by cases h) d_Md_startOf_33
      · replace Hf := sq_ite_f Hf c3
        refine lv_iload hx hb d_Md_startOf_12 (lv_at hl 4 rfl) ?_
        refine lv_aload_n hx hb d_Md_startOf_14 rfl (lv_at hl 0 rfl) ?_
        refine lv_iload_n hx hb d_Md_startOf_15 rfl (lv_at hl 1 rfl) ?_
        refine lv_iload_n hx hb d_Md_startOf_16 rfl (lv_at hl 2 rfl) ?_
        refine lv_iload hx hb d_Md_startOf_17 (lv_at hl 5 rfl) ?_
        obtain ⟨r4, hc5, Hf⟩ := sq_cb1_e Hf
        refine sq_roi (va_runV (As := [.int p1, .int p2, .int x2]) (rest := [.int x1]) ⟨hx, hb, hml, hown, ht⟩ (kt_Md_shareOf l dC dI qt qt_blocks qt_checkBytes qt_data qt_modules qt_fixed qt_tells qt_segmentModes qt_segmentLengths qt_modes qt_takes qt_bytes qt_words qt_block qt_tried qt_values qt_system qt_solved qt_places qt_generator qt_readBytes qt_readings ct_blocks ct_checkBytes vt_thrown vt_length vt_version vt_side vt_made vt_segments vt_bits vt_filled vt_readLength vt_at vt_all vt_fault vt_good vt_blocks vt_checkBytes p1 p2 x2 r4 hc5) (cwV 3 ht (sq_gV tb_1273 tb_1275 sl_44 tb_11 tb_1276) rfl rfl rfl (by decide +kernel) ⟨Nat.le_of_ble_eq_true rfl, Nat.le_of_ble_eq_true rfl⟩) (sq_roV (hP.sub (ws' := (ww_Md_shareOf qt qt_blocks qt_checkBytes qt_data qt_modules qt_fixed qt_tells qt_segmentModes qt_segmentLengths qt_modes qt_takes qt_bytes qt_words qt_block qt_tried qt_values qt_system qt_solved qt_places qt_generator qt_readBytes qt_readings ct_blocks ct_checkBytes vt_thrown vt_length vt_version vt_side vt_made vt_segments vt_bits vt_filled vt_readLength vt_at vt_all vt_fault vt_good vt_blocks vt_checkBytes)) [0, 1, 2] rfl) (hK.sub (tys' := [(ct_blocks, .int), (ct_checkBytes, .int)]) [0, 1] rfl) (va_recv hK hP (ci := 10) (q0 := 0) rfl rfl)) rfl rfl hl.1 rfl (lv_room (Nat.le_of_ble_eq_true rfl)) d_Md_startOf_19 ⟨Nat.le_of_ble_eq_true rfl, Nat.le_of_ble_eq_true rfl⟩) ?_
        refine lv_iadd hx hb d_Md_startOf_22 ?_
        obtain ⟨x6, ex6, Hf⟩ := sq_bd_e Hf
        refine sq_top ex6 ?_
        refine lv_istore (lv' := [(4, .int x6), (0, .ref qt), (1, .int p1), (2, .int p2), (3, .int p3), (5, .int x2)]) hx hb d_Md_startOf_23 hl (by decide) rfl (fun ls hl => ?_)
        obtain ⟨x7, ex7, Hf⟩ := sq_bd_e Hf
        refine lv_iinc (v := x7) (lv' := [(5, .int x7), (4, .int x6), (0, .ref qt), (1, .int p1), (2, .int p2), (3, .int p3)]) hx hb d_Md_startOf_25 hl (k := 5) rfl (by rw [ex7]; rfl) (by decide) rfl (fun ls hl => ?_)
        refine lv_goto (tgt := 6) hx hb d_Md_startOf_28 (by decide) ?_
        exact ih1 x6 x7 Hf _ (lv_sub hl [2, 3, 4, 5, 1, 0] rfl)
  exact L1 n0 (0 : Int32) (0 : Int32) Hf _ (lv_sub hl [2, 3, 4, 5, 1, 0] rfl)

def fn_Md_placeOf (p1 : Int32) (p2 : Int32) (p3 : Int32) (p4 : Int32) (vt_blocks : Nat → Int32) (vt_checkBytes : Nat → Int32) : Option (Int32) :=
  sq_cb1 (fn_Md_blocksOf p1 p2 vt_blocks) fun r1 => sq_cb1 (fn_Md_shareOf p1 p2 p3 vt_blocks vt_checkBytes) fun r3 => if p4 < r3 then (sq_cb1 (fn_Md_holds p1 p2 vt_blocks vt_checkBytes) fun r6 => sq_gz r1 <| sq_bd (r6 / r1) fun x9 => sq_cb1 (fn_Md_holds p1 p2 vt_blocks vt_checkBytes) fun r10 => sq_gz r1 <| sq_bd (sq_rem r10 r1) fun x13 => sq_bd (r1 - x13) fun x14 => if x9 ≤ p4 then (some (((x9 * r1) + p3) - x14)) else (some ((p4 * r1) + p3))) else (sq_cb1 (fn_Md_holds p1 p2 vt_blocks vt_checkBytes) fun r16 => some ((r16 + ((p4 - r3) * r1)) + p3))
abbrev ww_Md_placeOf (qt qt_blocks qt_checkBytes qt_data qt_modules qt_fixed qt_tells qt_segmentModes qt_segmentLengths qt_modes qt_takes qt_bytes qt_words qt_block qt_tried qt_values qt_system qt_solved qt_places qt_generator qt_readBytes qt_readings : Nat) (ct_blocks ct_checkBytes : ClassId) (vt_thrown : Int32) (vt_length : Int32) (vt_version : Int32) (vt_side : Int32) (vt_made : Int32) (vt_segments : Int32) (vt_bits : Int32) (vt_filled : Int32) (vt_readLength : Int32) (vt_at : Int32) (vt_all : Int32) (vt_fault : Int32) (vt_good : Int32) (vt_blocks : Nat → Int32) (vt_checkBytes : Nat → Int32) : va_W := [(qt, .inr (10, [.int vt_thrown, .ref qt_checkBytes, .ref qt_blocks, .ref qt_data, .int vt_length, .ref qt_modules, .ref qt_fixed, .int vt_version, .int vt_side, .int vt_made, .ref qt_tells, .ref qt_segmentModes, .ref qt_segmentLengths, .int vt_segments, .ref qt_modes, .ref qt_takes, .int vt_bits, .ref qt_bytes, .ref qt_words, .int vt_filled, .ref qt_block, .ref qt_tried, .ref qt_values, .ref qt_system, .ref qt_solved, .ref qt_places, .ref qt_generator, .ref qt_readBytes, .int vt_readLength, .int vt_at, .int vt_all, .int vt_fault, .int vt_good, .ref qt_readings])), (qt_blocks, .inl (ct_blocks, 160, .inl vt_blocks)), (qt_checkBytes, .inl (ct_checkBytes, 160, .inl vt_checkBytes))]

def rm_Md_placeOf : Room := { frames := 3, cells := 0, slots := 0, locals := 69 }
abbrev qc_Md_placeOf (r0 : Int32) : Array Value → State → Outcome → State → Prop := vp_Si (fun r => r = r0)

set_option maxHeartbeats 4000000 in
set_option maxRecDepth 100000 in
theorem kt_Md_placeOf (l : Launch) (dC : Nat → ClassId) (dI : Nat → Nat → Nat) (qt qt_blocks qt_checkBytes qt_data qt_modules qt_fixed qt_tells qt_segmentModes qt_segmentLengths qt_modes qt_takes qt_bytes qt_words qt_block qt_tried qt_values qt_system qt_solved qt_places qt_generator qt_readBytes qt_readings : Nat) (ct_blocks ct_checkBytes : ClassId) (vt_thrown : Int32) (vt_length : Int32) (vt_version : Int32) (vt_side : Int32) (vt_made : Int32) (vt_segments : Int32) (vt_bits : Int32) (vt_filled : Int32) (vt_readLength : Int32) (vt_at : Int32) (vt_all : Int32) (vt_fault : Int32) (vt_good : Int32) (vt_blocks : Nat → Int32) (vt_checkBytes : Nat → Int32) (p1 : Int32) (p2 : Int32) (p3 : Int32) (p4 : Int32) (r0 : Int32) (Hf : fn_Md_placeOf p1 p2 p3 p4 vt_blocks vt_checkBytes = some r0) : Met l y_Md_placeOf w_Md_placeOf rm_Md_placeOf (va_Pc [.ref qt, .int p1, .int p2, .int p3, .int p4] (fun U => va_P (dC, dI) cl_All (ww_Md_placeOf qt qt_blocks qt_checkBytes qt_data qt_modules qt_fixed qt_tells qt_segmentModes qt_segmentLengths qt_modes qt_takes qt_bytes qt_words qt_block qt_tried qt_values qt_system qt_solved qt_places qt_generator qt_readBytes qt_readings ct_blocks ct_checkBytes vt_thrown vt_length vt_version vt_side vt_made vt_segments vt_bits vt_filled vt_readLength vt_at vt_all vt_fault vt_good vt_blocks vt_checkBytes) U.heap ∧ va_K (dC, dI) cl_All [(ct_blocks, .int), (ct_checkBytes, .int)] U)) (qc_Md_placeOf r0) 0 0 (fun _ => False) := by
  refine Met.ofW (cc := prog_14_method_31_code) (maxL := 9) (ret := (some .int)) (by decide) rfl ?_
  intro p e s m args below meth c s₁ B hml hv
  obtain ⟨rfl, hP, hK⟩ := hv
  have hx := B.exec; have hb := B.bytes; have hr := B.returns; have hlocks := B.notSynchronized
  have ht : ∀ w ∈ lw_g, w.before _ s = true := fun w h => atoms_spec (ws := w_Md_placeOf) B.pre w (List.mem_cons_of_mem _ h)
  have hown : s.vm.findClass "SquareSymbolsModel" = some m.cls := findClass_of_methodNamed B.named
  have hl := lv_entry ([.ref qt, .int p1, .int p2, .int p3, .int p4]) (n := 9) (Nat.le_of_ble_eq_true rfl)
  rw [lg_entry_eq]
  generalize (lg_sl ([.ref qt, .int p1, .int p2, .int p3, .int p4]) ++ List.replicate (9 - (lg_sl ([.ref qt, .int p1, .int p2, .int p3, .int p4])).length) Slot.unset).toArray = ls at hl ⊢
  have hl : lv_has ls 9 [(0, .ref qt), (1, .int p1), (2, .int p2), (3, .int p3), (4, .int p4)] := hl
  refine lv_aload_n hx hb d_Md_placeOf_0 rfl (lv_at hl 0 rfl) ?_
  refine lv_iload_n hx hb d_Md_placeOf_1 rfl (lv_at hl 1 rfl) ?_
  refine lv_iload_n hx hb d_Md_placeOf_2 rfl (lv_at hl 2 rfl) ?_
  obtain ⟨r1, hc2, Hf⟩ := sq_cb1_e Hf
  refine sq_roi (va_runV (As := [.int p1, .int p2]) (rest := []) ⟨hx, hb, hml, hown, ht⟩ (kt_Md_blocksOf l dC dI qt qt_blocks qt_checkBytes qt_data qt_modules qt_fixed qt_tells qt_segmentModes qt_segmentLengths qt_modes qt_takes qt_bytes qt_words qt_block qt_tried qt_values qt_system qt_solved qt_places qt_generator qt_readBytes qt_readings ct_blocks vt_thrown vt_length vt_version vt_side vt_made vt_segments vt_bits vt_filled vt_readLength vt_at vt_all vt_fault vt_good vt_blocks p1 p2 r1 hc2) (cwV 2 ht (sq_gV tb_1243 tb_1245 sl_38 tb_11 tb_1246) rfl rfl rfl (by decide +kernel) ⟨Nat.le_of_ble_eq_true rfl, Nat.le_of_ble_eq_true rfl⟩) (sq_roV (hP.sub (ws' := (ww_Md_blocksOf qt qt_blocks qt_checkBytes qt_data qt_modules qt_fixed qt_tells qt_segmentModes qt_segmentLengths qt_modes qt_takes qt_bytes qt_words qt_block qt_tried qt_values qt_system qt_solved qt_places qt_generator qt_readBytes qt_readings ct_blocks vt_thrown vt_length vt_version vt_side vt_made vt_segments vt_bits vt_filled vt_readLength vt_at vt_all vt_fault vt_good vt_blocks)) [0, 1] rfl) (hK.sub (tys' := [(ct_blocks, .int)]) [0] rfl) (va_recv hK hP (ci := 10) (q0 := 0) rfl rfl)) rfl rfl hl.1 rfl (lv_room (Nat.le_of_ble_eq_true rfl)) d_Md_placeOf_3 ⟨Nat.le_of_ble_eq_true rfl, Nat.le_of_ble_eq_true rfl⟩) ?_
  refine lv_istore (lv' := [(5, .int r1), (0, .ref qt), (1, .int p1), (2, .int p2), (3, .int p3), (4, .int p4)]) hx hb d_Md_placeOf_6 hl (by decide) rfl (fun ls hl => ?_)
  refine lv_aload_n hx hb d_Md_placeOf_8 rfl (lv_at hl 1 rfl) ?_
  refine lv_iload_n hx hb d_Md_placeOf_9 rfl (lv_at hl 2 rfl) ?_
  refine lv_iload_n hx hb d_Md_placeOf_10 rfl (lv_at hl 3 rfl) ?_
  refine lv_iload_n hx hb d_Md_placeOf_11 rfl (lv_at hl 4 rfl) ?_
  obtain ⟨r3, hc4, Hf⟩ := sq_cb1_e Hf
  refine sq_roi (va_runV (As := [.int p1, .int p2, .int p3]) (rest := []) ⟨hx, hb, hml, hown, ht⟩ (kt_Md_shareOf l dC dI qt qt_blocks qt_checkBytes qt_data qt_modules qt_fixed qt_tells qt_segmentModes qt_segmentLengths qt_modes qt_takes qt_bytes qt_words qt_block qt_tried qt_values qt_system qt_solved qt_places qt_generator qt_readBytes qt_readings ct_blocks ct_checkBytes vt_thrown vt_length vt_version vt_side vt_made vt_segments vt_bits vt_filled vt_readLength vt_at vt_all vt_fault vt_good vt_blocks vt_checkBytes p1 p2 p3 r3 hc4) (cwV 3 ht (sq_gV tb_1273 tb_1275 sl_44 tb_11 tb_1276) rfl rfl rfl (by decide +kernel) ⟨Nat.le_of_ble_eq_true rfl, Nat.le_of_ble_eq_true rfl⟩) (sq_roV (hP.sub (ws' := (ww_Md_shareOf qt qt_blocks qt_checkBytes qt_data qt_modules qt_fixed qt_tells qt_segmentModes qt_segmentLengths qt_modes qt_takes qt_bytes qt_words qt_block qt_tried qt_values qt_system qt_solved qt_places qt_generator qt_readBytes qt_readings ct_blocks ct_checkBytes vt_thrown vt_length vt_version vt_side vt_made vt_segments vt_bits vt_filled vt_readLength vt_at vt_all vt_fault vt_good vt_blocks vt_checkBytes)) [0, 1, 2] rfl) (hK.sub (tys' := [(ct_blocks, .int), (ct_checkBytes, .int)]) [0, 1] rfl) (va_recv hK hP (ci := 10) (q0 := 0) rfl rfl)) rfl rfl hl.1 rfl (lv_room (Nat.le_of_ble_eq_true rfl)) d_Md_placeOf_12 ⟨Nat.le_of_ble_eq_true rfl, Nat.le_of_ble_eq_true rfl⟩) ?_
  refine lv_istore (lv' := [(6, .int r3), (5, .int r1), (0, .ref qt), (1, .int p1), (2, .int p2), (3, .int p3), (4, .int p4)]) hx hb d_Md_placeOf_15 hl (by decide) rfl (fun ls hl => ?_)
  refine lv_iload hx hb d_Md_placeOf_17 (lv_at hl 6 rfl) ?_
  refine lv_iload hx hb d_Md_placeOf_19 (lv_at hl 0 rfl) ?_
  refine lv_icmp_lt (tgt := 42) hx hb d_Md_placeOf_21 (by decide) (fun c5 => ?_) (fun c5 => ?_)
  · replace Hf := sq_ite_t Hf c5
    refine lv_aload_n hx hb d_Md_placeOf_42 rfl (lv_at hl 2 rfl) ?_
    refine lv_iload_n hx hb d_Md_placeOf_43 rfl (lv_at hl 3 rfl) ?_
    refine lv_iload_n hx hb d_Md_placeOf_44 rfl (lv_at hl 4 rfl) ?_
    obtain ⟨r6, hc7, Hf⟩ := sq_cb1_e Hf
    refine sq_roi (va_runV (As := [.int p1, .int p2]) (rest := []) ⟨hx, hb, hml, hown, ht⟩ (kt_Md_holds l dC dI qt qt_blocks qt_checkBytes qt_data qt_modules qt_fixed qt_tells qt_segmentModes qt_segmentLengths qt_modes qt_takes qt_bytes qt_words qt_block qt_tried qt_values qt_system qt_solved qt_places qt_generator qt_readBytes qt_readings ct_blocks ct_checkBytes vt_thrown vt_length vt_version vt_side vt_made vt_segments vt_bits vt_filled vt_readLength vt_at vt_all vt_fault vt_good vt_blocks vt_checkBytes p1 p2 r6 hc7) (cwV 2 ht (sq_gV tb_1232 tb_1234 sl_36 tb_11 tb_1235) rfl rfl rfl (by decide +kernel) ⟨Nat.le_of_ble_eq_true rfl, Nat.le_of_ble_eq_true rfl⟩) (sq_roV (hP.sub (ws' := (ww_Md_holds qt qt_blocks qt_checkBytes qt_data qt_modules qt_fixed qt_tells qt_segmentModes qt_segmentLengths qt_modes qt_takes qt_bytes qt_words qt_block qt_tried qt_values qt_system qt_solved qt_places qt_generator qt_readBytes qt_readings ct_blocks ct_checkBytes vt_thrown vt_length vt_version vt_side vt_made vt_segments vt_bits vt_filled vt_readLength vt_at vt_all vt_fault vt_good vt_blocks vt_checkBytes)) [0, 1, 2] rfl) (hK.sub (tys' := [(ct_blocks, .int), (ct_checkBytes, .int)]) [0, 1] rfl) (va_recv hK hP (ci := 10) (q0 := 0) rfl rfl)) rfl rfl hl.1 rfl (lv_room (Nat.le_of_ble_eq_true rfl)) d_Md_placeOf_45 ⟨Nat.le_of_ble_eq_true rfl, Nat.le_of_ble_eq_true rfl⟩) ?_
    refine lv_iload hx hb d_Md_placeOf_48 (lv_at hl 1 rfl) ?_
    obtain ⟨hz8, Hf⟩ := sq_gz_e Hf
    refine lv_idiv hx hb d_Md_placeOf_50 hz8 ?_
    obtain ⟨x9, ex9, Hf⟩ := sq_bd_e Hf
    refine sq_top ex9 ?_
    refine lv_istore (lv' := [(7, .int x9), (6, .int r3), (5, .int r1), (0, .ref qt), (1, .int p1), (2, .int p2), (3, .int p3), (4, .int p4)]) hx hb d_Md_placeOf_51 hl (by decide) rfl (fun ls hl => ?_)
    refine lv_iload hx hb d_Md_placeOf_53 (lv_at hl 2 rfl) ?_
    refine lv_aload_n hx hb d_Md_placeOf_55 rfl (lv_at hl 3 rfl) ?_
    refine lv_iload_n hx hb d_Md_placeOf_56 rfl (lv_at hl 4 rfl) ?_
    refine lv_iload_n hx hb d_Md_placeOf_57 rfl (lv_at hl 5 rfl) ?_
    obtain ⟨r10, hc11, Hf⟩ := sq_cb1_e Hf
    refine sq_roi (va_runV (As := [.int p1, .int p2]) (rest := [.int r1]) ⟨hx, hb, hml, hown, ht⟩ (kt_Md_holds l dC dI qt qt_blocks qt_checkBytes qt_data qt_modules qt_fixed qt_tells qt_segmentModes qt_segmentLengths qt_modes qt_takes qt_bytes qt_words qt_block qt_tried qt_values qt_system qt_solved qt_places qt_generator qt_readBytes qt_readings ct_blocks ct_checkBytes vt_thrown vt_length vt_version vt_side vt_made vt_segments vt_bits vt_filled vt_readLength vt_at vt_all vt_fault vt_good vt_blocks vt_checkBytes p1 p2 r10 hc11) (cwV 2 ht (sq_gV tb_1232 tb_1234 sl_36 tb_11 tb_1235) rfl rfl rfl (by decide +kernel) ⟨Nat.le_of_ble_eq_true rfl, Nat.le_of_ble_eq_true rfl⟩) (sq_roV (hP.sub (ws' := (ww_Md_holds qt qt_blocks qt_checkBytes qt_data qt_modules qt_fixed qt_tells qt_segmentModes qt_segmentLengths qt_modes qt_takes qt_bytes qt_words qt_block qt_tried qt_values qt_system qt_solved qt_places qt_generator qt_readBytes qt_readings ct_blocks ct_checkBytes vt_thrown vt_length vt_version vt_side vt_made vt_segments vt_bits vt_filled vt_readLength vt_at vt_all vt_fault vt_good vt_blocks vt_checkBytes)) [0, 1, 2] rfl) (hK.sub (tys' := [(ct_blocks, .int), (ct_checkBytes, .int)]) [0, 1] rfl) (va_recv hK hP (ci := 10) (q0 := 0) rfl rfl)) rfl rfl hl.1 rfl (lv_room (Nat.le_of_ble_eq_true rfl)) d_Md_placeOf_58 ⟨Nat.le_of_ble_eq_true rfl, Nat.le_of_ble_eq_true rfl⟩) ?_
    refine lv_iload hx hb d_Md_placeOf_61 (lv_at hl 2 rfl) ?_
    obtain ⟨hz12, Hf⟩ := sq_gz_e Hf
    refine lv_irem hx hb d_Md_placeOf_63 hz12 ?_
    obtain ⟨x13, ex13, Hf⟩ := sq_bd_e Hf
    refine sq_top ex13 ?_
    refine lv_isub hx hb d_Md_placeOf_64 ?_
    obtain ⟨x14, ex14, Hf⟩ := sq_bd_e Hf
    refine sq_top ex14 ?_
    refine lv_istore (lv' := [(8, .int x14), (7, .int x9), (6, .int r3), (5, .int r1), (0, .ref qt), (1, .int p1), (2, .int p2), (3, .int p3), (4, .int p4)]) hx hb d_Md_placeOf_65 hl (by decide) rfl (fun ls hl => ?_)
    refine lv_iload hx hb d_Md_placeOf_67 (lv_at hl 8 rfl) ?_
    refine lv_iload hx hb d_Md_placeOf_69 (lv_at hl 1 rfl) ?_
    refine lv_icmp_ge (tgt := 84) hx hb d_Md_placeOf_71 (by decide) (fun c15 => ?_) (fun c15 => ?_)
    · replace Hf := sq_ite_t Hf c15
      refine lv_iload hx hb d_Md_placeOf_84 (lv_at hl 1 rfl) ?_
      refine lv_iload hx hb d_Md_placeOf_86 (lv_at hl 3 rfl) ?_
      refine lv_imul hx hb d_Md_placeOf_88 ?_
      refine lv_iload_n hx hb d_Md_placeOf_89 rfl (lv_at hl 7 rfl) ?_
      refine lv_iadd hx hb d_Md_placeOf_90 ?_
      refine lv_iload hx hb d_Md_placeOf_91 (lv_at hl 0 rfl) ?_
      refine lv_isub hx hb d_Md_placeOf_93 ?_
      have er := Option.some.inj Hf
      exact W.iret hx hb hr (fun t ht hW => ⟨_, rfl, er, ht⟩) (fun q h => by cases h) d_Md_placeOf_94
    · replace Hf := sq_ite_f Hf c15
      refine lv_iload hx hb d_Md_placeOf_74 (lv_at hl 8 rfl) ?_
      refine lv_iload hx hb d_Md_placeOf_76 (lv_at hl 3 rfl) ?_
      refine lv_imul hx hb d_Md_placeOf_78 ?_
      refine lv_iload_n hx hb d_Md_placeOf_79 rfl (lv_at hl 7 rfl) ?_
      refine lv_iadd hx hb d_Md_placeOf_80 ?_
      refine lv_goto (tgt := 94) hx hb d_Md_placeOf_81 (by decide) ?_
      have er := Option.some.inj Hf
      exact W.iret hx hb hr (fun t ht hW => ⟨_, rfl, er, ht⟩) (fun q h => by cases h) d_Md_placeOf_94
  · replace Hf := sq_ite_f Hf c5
    refine lv_aload_n hx hb d_Md_placeOf_24 rfl (lv_at hl 2 rfl) ?_
    refine lv_iload_n hx hb d_Md_placeOf_25 rfl (lv_at hl 3 rfl) ?_
    refine lv_iload_n hx hb d_Md_placeOf_26 rfl (lv_at hl 4 rfl) ?_
    obtain ⟨r16, hc17, Hf⟩ := sq_cb1_e Hf
    refine sq_roi (va_runV (As := [.int p1, .int p2]) (rest := []) ⟨hx, hb, hml, hown, ht⟩ (kt_Md_holds l dC dI qt qt_blocks qt_checkBytes qt_data qt_modules qt_fixed qt_tells qt_segmentModes qt_segmentLengths qt_modes qt_takes qt_bytes qt_words qt_block qt_tried qt_values qt_system qt_solved qt_places qt_generator qt_readBytes qt_readings ct_blocks ct_checkBytes vt_thrown vt_length vt_version vt_side vt_made vt_segments vt_bits vt_filled vt_readLength vt_at vt_all vt_fault vt_good vt_blocks vt_checkBytes p1 p2 r16 hc17) (cwV 2 ht (sq_gV tb_1232 tb_1234 sl_36 tb_11 tb_1235) rfl rfl rfl (by decide +kernel) ⟨Nat.le_of_ble_eq_true rfl, Nat.le_of_ble_eq_true rfl⟩) (sq_roV (hP.sub (ws' := (ww_Md_holds qt qt_blocks qt_checkBytes qt_data qt_modules qt_fixed qt_tells qt_segmentModes qt_segmentLengths qt_modes qt_takes qt_bytes qt_words qt_block qt_tried qt_values qt_system qt_solved qt_places qt_generator qt_readBytes qt_readings ct_blocks ct_checkBytes vt_thrown vt_length vt_version vt_side vt_made vt_segments vt_bits vt_filled vt_readLength vt_at vt_all vt_fault vt_good vt_blocks vt_checkBytes)) [0, 1, 2] rfl) (hK.sub (tys' := [(ct_blocks, .int), (ct_checkBytes, .int)]) [0, 1] rfl) (va_recv hK hP (ci := 10) (q0 := 0) rfl rfl)) rfl rfl hl.1 rfl (lv_room (Nat.le_of_ble_eq_true rfl)) d_Md_placeOf_27 ⟨Nat.le_of_ble_eq_true rfl, Nat.le_of_ble_eq_true rfl⟩) ?_
    refine lv_iload hx hb d_Md_placeOf_30 (lv_at hl 6 rfl) ?_
    refine lv_iload hx hb d_Md_placeOf_32 (lv_at hl 0 rfl) ?_
    refine lv_isub hx hb d_Md_placeOf_34 ?_
    refine lv_iload hx hb d_Md_placeOf_35 (lv_at hl 1 rfl) ?_
    refine lv_imul hx hb d_Md_placeOf_37 ?_
    refine lv_iadd hx hb d_Md_placeOf_38 ?_
    refine lv_iload_n hx hb d_Md_placeOf_39 rfl (lv_at hl 5 rfl) ?_
    refine lv_iadd hx hb d_Md_placeOf_40 ?_
    have er := Option.some.inj Hf
    exact W.iret hx hb hr (fun t ht hW => ⟨_, rfl, er, ht⟩) (fun q h => by cases h) d_Md_placeOf_41

def fn_Md_check_L2 (p1 : Int32) (p2 : Int32) (vt_blocks : Nat → Int32) (vt_bytes : Nat → Int32) (vt_checkBytes : Nat → Int32) (r1 : Int32) (x5 : Int32) (r11 : Int32) (r13 : Int32) (b17 : Nat → Int32) (k20 : (Nat → Int32) → Option ((Nat → Int32) × (Nat → Int32) × (Nat → Int32))) : Nat → Int32 → (Nat → Int32) → Option ((Nat → Int32) × (Nat → Int32) × (Nat → Int32))
  | 0, _, _ => none
  | m2 + 1, x22, b23 => if (r11 + r1) ≤ x22 then (k20 b23) else (sq_cb1 (fn_Md_placeOf p1 p2 x5 x22 vt_blocks vt_checkBytes) fun r25 => sq_jn (fun (x27 : Int32) => sq_gi r25 3800 <| sq_bd (upd b23 r25.toNatClampNeg x27) fun b30 => sq_bd (x22 + (1 : Int32)) fun x31 => fn_Md_check_L2 p1 p2 vt_blocks vt_bytes vt_checkBytes r1 x5 r11 r13 b17 k20 m2 x31 b30) fun k28 => if r11 ≤ x22 then (sq_gi x22 256 <| sq_bd (b17 x22.toNatClampNeg) fun x34 => k28 x34) else (sq_bd (r13 + x22) fun x35 => sq_gi x35 3800 <| sq_bd (vt_bytes x35.toNatClampNeg) fun x37 => k28 x37))
theorem fn_Md_check_L2_s (p1 : Int32) (p2 : Int32) (vt_blocks : Nat → Int32) (vt_bytes : Nat → Int32) (vt_checkBytes : Nat → Int32) (r1 : Int32) (x5 : Int32) (r11 : Int32) (r13 : Int32) (b17 : Nat → Int32) (k20 : (Nat → Int32) → Option ((Nat → Int32) × (Nat → Int32) × (Nat → Int32))) (m2 : Nat) (x22 : Int32) (b23 : Nat → Int32) : fn_Md_check_L2 p1 p2 vt_blocks vt_bytes vt_checkBytes r1 x5 r11 r13 b17 k20 (m2 + 1) x22 b23 = if (r11 + r1) ≤ x22 then (k20 b23) else (sq_cb1 (fn_Md_placeOf p1 p2 x5 x22 vt_blocks vt_checkBytes) fun r25 => sq_jn (fun (x27 : Int32) => sq_gi r25 3800 <| sq_bd (upd b23 r25.toNatClampNeg x27) fun b30 => sq_bd (x22 + (1 : Int32)) fun x31 => fn_Md_check_L2 p1 p2 vt_blocks vt_bytes vt_checkBytes r1 x5 r11 r13 b17 k20 m2 x31 b30) fun k28 => if r11 ≤ x22 then (sq_gi x22 256 <| sq_bd (b17 x22.toNatClampNeg) fun x34 => k28 x34) else (sq_bd (r13 + x22) fun x35 => sq_gi x35 3800 <| sq_bd (vt_bytes x35.toNatClampNeg) fun x37 => k28 x37)) := rfl
def fn_Md_check_L4 (n0 : Nat) (r1 : Int32) (b3 : Nat → Int32) (x38 : Int32) (x42 : Int32) (k44 : (Nat → Int32) → Option ((Nat → Int32) × (Nat → Int32) × (Nat → Int32))) : Nat → Int32 → (Nat → Int32) → Option ((Nat → Int32) × (Nat → Int32) × (Nat → Int32))
  | 0, _, _ => none
  | m4 + 1, x46, b47 => if r1 < x46 then (k44 b47) else (if x42 = 0 then (k44 b47) else (sq_bd (x38 + x46) fun x50 => sq_gi x50 256 <| sq_bd (b47 x50.toNatClampNeg) fun x52 => sq_gi x46 32 <| sq_bd (b3 x46.toNatClampNeg) fun x54 => sq_cb1 (fn_Md_times n0 x42 x54) fun r55 => sq_bd (x52 ^^^ r55) fun x57 => sq_bd (x38 + x46) fun x59 => sq_gi x59 256 <| sq_bd (upd b47 x59.toNatClampNeg x57) fun b60 => sq_bd (x46 + (1 : Int32)) fun x61 => fn_Md_check_L4 n0 r1 b3 x38 x42 k44 m4 x61 b60))
theorem fn_Md_check_L4_s (n0 : Nat) (r1 : Int32) (b3 : Nat → Int32) (x38 : Int32) (x42 : Int32) (k44 : (Nat → Int32) → Option ((Nat → Int32) × (Nat → Int32) × (Nat → Int32))) (m4 : Nat) (x46 : Int32) (b47 : Nat → Int32) : fn_Md_check_L4 n0 r1 b3 x38 x42 k44 (m4 + 1) x46 b47 = if r1 < x46 then (k44 b47) else (if x42 = 0 then (k44 b47) else (sq_bd (x38 + x46) fun x50 => sq_gi x50 256 <| sq_bd (b47 x50.toNatClampNeg) fun x52 => sq_gi x46 32 <| sq_bd (b3 x46.toNatClampNeg) fun x54 => sq_cb1 (fn_Md_times n0 x42 x54) fun r55 => sq_bd (x52 ^^^ r55) fun x57 => sq_bd (x38 + x46) fun x59 => sq_gi x59 256 <| sq_bd (upd b47 x59.toNatClampNeg x57) fun b60 => sq_bd (x46 + (1 : Int32)) fun x61 => fn_Md_check_L4 n0 r1 b3 x38 x42 k44 m4 x61 b60)) := rfl
def fn_Md_check_L3 (n0 : Nat) (r1 : Int32) (b3 : Nat → Int32) (r11 : Int32) (k18 : (Nat → Int32) → Option ((Nat → Int32) × (Nat → Int32) × (Nat → Int32))) : Nat → Int32 → (Nat → Int32) → Option ((Nat → Int32) × (Nat → Int32) × (Nat → Int32))
  | 0, _, _ => none
  | m3 + 1, x38, b39 => if r11 ≤ x38 then (k18 b39) else (sq_gi x38 256 <| sq_bd (b39 x38.toNatClampNeg) fun x42 => sq_jn (fun (b43 : Nat → Int32) => sq_bd (x38 + (1 : Int32)) fun x45 => fn_Md_check_L3 n0 r1 b3 r11 k18 m3 x45 b43) fun k44 => fn_Md_check_L4 n0 r1 b3 x38 x42 k44 n0 (0 : Int32) b39)
theorem fn_Md_check_L3_s (n0 : Nat) (r1 : Int32) (b3 : Nat → Int32) (r11 : Int32) (k18 : (Nat → Int32) → Option ((Nat → Int32) × (Nat → Int32) × (Nat → Int32))) (m3 : Nat) (x38 : Int32) (b39 : Nat → Int32) : fn_Md_check_L3 n0 r1 b3 r11 k18 (m3 + 1) x38 b39 = if r11 ≤ x38 then (k18 b39) else (sq_gi x38 256 <| sq_bd (b39 x38.toNatClampNeg) fun x42 => sq_jn (fun (b43 : Nat → Int32) => sq_bd (x38 + (1 : Int32)) fun x45 => fn_Md_check_L3 n0 r1 b3 r11 k18 m3 x45 b43) fun k44 => fn_Md_check_L4 n0 r1 b3 x38 x42 k44 n0 (0 : Int32) b39) := rfl
def fn_Md_check_L5 (vt_bytes : Nat → Int32) (r1 : Int32) (r11 : Int32) (r13 : Int32) (k16 : (Nat → Int32) → Option ((Nat → Int32) × (Nat → Int32) × (Nat → Int32))) : Nat → Int32 → (Nat → Int32) → Option ((Nat → Int32) × (Nat → Int32) × (Nat → Int32))
  | 0, _, _ => none
  | m5 + 1, x62, b63 => if (r11 + r1) ≤ x62 then (k16 b63) else (sq_jn (fun (x65 : Int32) => sq_gi x62 256 <| sq_bd (upd b63 x62.toNatClampNeg x65) fun b68 => sq_bd (x62 + (1 : Int32)) fun x69 => fn_Md_check_L5 vt_bytes r1 r11 r13 k16 m5 x69 b68) fun k66 => if r11 ≤ x62 then (k66 (0 : Int32)) else (sq_bd (r13 + x62) fun x71 => sq_gi x71 3800 <| sq_bd (vt_bytes x71.toNatClampNeg) fun x73 => k66 x73))
theorem fn_Md_check_L5_s (vt_bytes : Nat → Int32) (r1 : Int32) (r11 : Int32) (r13 : Int32) (k16 : (Nat → Int32) → Option ((Nat → Int32) × (Nat → Int32) × (Nat → Int32))) (m5 : Nat) (x62 : Int32) (b63 : Nat → Int32) : fn_Md_check_L5 vt_bytes r1 r11 r13 k16 (m5 + 1) x62 b63 = if (r11 + r1) ≤ x62 then (k16 b63) else (sq_jn (fun (x65 : Int32) => sq_gi x62 256 <| sq_bd (upd b63 x62.toNatClampNeg x65) fun b68 => sq_bd (x62 + (1 : Int32)) fun x69 => fn_Md_check_L5 vt_bytes r1 r11 r13 k16 m5 x69 b68) fun k66 => if r11 ≤ x62 then (k66 (0 : Int32)) else (sq_bd (r13 + x62) fun x71 => sq_gi x71 3800 <| sq_bd (vt_bytes x71.toNatClampNeg) fun x73 => k66 x73)) := rfl
def fn_Md_check_L1 (p1 : Int32) (p2 : Int32) (n0 : Nat) (vt_blocks : Nat → Int32) (vt_bytes : Nat → Int32) (vt_checkBytes : Nat → Int32) (r1 : Int32) (b3 : Nat → Int32) : Nat → Int32 → (Nat → Int32) → (Nat → Int32) → Option ((Nat → Int32) × (Nat → Int32) × (Nat → Int32))
  | 0, _, _, _ => none
  | m1 + 1, x5, b6, b7 => sq_cb1 (fn_Md_blocksOf p1 p2 vt_blocks) fun r8 => if r8 ≤ x5 then (some (b6, b3, b7)) else (sq_cb1 (fn_Md_shareOf p1 p2 x5 vt_blocks vt_checkBytes) fun r11 => sq_cb1 (fn_Md_startOf n0 p1 p2 x5 vt_blocks vt_checkBytes) fun r13 => sq_jn (fun (b15 : Nat → Int32) => sq_jn (fun (b17 : Nat → Int32) => sq_jn (fun (b19 : Nat → Int32) => sq_bd (x5 + (1 : Int32)) fun x21 => fn_Md_check_L1 p1 p2 n0 vt_blocks vt_bytes vt_checkBytes r1 b3 m1 x21 b17 b19) fun k20 => fn_Md_check_L2 p1 p2 vt_blocks vt_bytes vt_checkBytes r1 x5 r11 r13 b17 k20 n0 (0 : Int32) b7) fun k18 => fn_Md_check_L3 n0 r1 b3 r11 k18 n0 (0 : Int32) b15) fun k16 => fn_Md_check_L5 vt_bytes r1 r11 r13 k16 n0 (0 : Int32) b6)
theorem fn_Md_check_L1_s (p1 : Int32) (p2 : Int32) (n0 : Nat) (vt_blocks : Nat → Int32) (vt_bytes : Nat → Int32) (vt_checkBytes : Nat → Int32) (r1 : Int32) (b3 : Nat → Int32) (m1 : Nat) (x5 : Int32) (b6 : Nat → Int32) (b7 : Nat → Int32) : fn_Md_check_L1 p1 p2 n0 vt_blocks vt_bytes vt_checkBytes r1 b3 (m1 + 1) x5 b6 b7 = sq_cb1 (fn_Md_blocksOf p1 p2 vt_blocks) fun r8 => if r8 ≤ x5 then (some (b6, b3, b7)) else (sq_cb1 (fn_Md_shareOf p1 p2 x5 vt_blocks vt_checkBytes) fun r11 => sq_cb1 (fn_Md_startOf n0 p1 p2 x5 vt_blocks vt_checkBytes) fun r13 => sq_jn (fun (b15 : Nat → Int32) => sq_jn (fun (b17 : Nat → Int32) => sq_jn (fun (b19 : Nat → Int32) => sq_bd (x5 + (1 : Int32)) fun x21 => fn_Md_check_L1 p1 p2 n0 vt_blocks vt_bytes vt_checkBytes r1 b3 m1 x21 b17 b19) fun k20 => fn_Md_check_L2 p1 p2 vt_blocks vt_bytes vt_checkBytes r1 x5 r11 r13 b17 k20 n0 (0 : Int32) b7) fun k18 => fn_Md_check_L3 n0 r1 b3 r11 k18 n0 (0 : Int32) b15) fun k16 => fn_Md_check_L5 vt_bytes r1 r11 r13 k16 n0 (0 : Int32) b6) := rfl
def fn_Md_check (n0 : Nat) (p1 : Int32) (p2 : Int32) (vt_block : Nat → Int32) (vt_blocks : Nat → Int32) (vt_bytes : Nat → Int32) (vt_checkBytes : Nat → Int32) (vt_generator : Nat → Int32) (vt_words : Nat → Int32) : Option ((Nat → Int32) × (Nat → Int32) × (Nat → Int32)) :=
  sq_cb1 (fn_Md_checkOf p1 p2 vt_checkBytes) fun r1 => sq_cb1 (fn_Md_generate n0 r1 vt_generator) fun b3 => fn_Md_check_L1 p1 p2 n0 vt_blocks vt_bytes vt_checkBytes r1 b3 n0 (0 : Int32) vt_block vt_words
abbrev ww_Md_check (qt qt_block qt_blocks qt_bytes qt_checkBytes qt_generator qt_words qt_data qt_modules qt_fixed qt_tells qt_segmentModes qt_segmentLengths qt_modes qt_takes qt_tried qt_values qt_system qt_solved qt_places qt_readBytes qt_readings : Nat) (ct_block ct_blocks ct_bytes ct_checkBytes ct_generator ct_words : ClassId) (vt_thrown : Int32) (vt_length : Int32) (vt_version : Int32) (vt_side : Int32) (vt_made : Int32) (vt_segments : Int32) (vt_bits : Int32) (vt_filled : Int32) (vt_readLength : Int32) (vt_at : Int32) (vt_all : Int32) (vt_fault : Int32) (vt_good : Int32) (vt_block : Nat → Int32) (vt_blocks : Nat → Int32) (vt_bytes : Nat → Int32) (vt_checkBytes : Nat → Int32) (vt_generator : Nat → Int32) (vt_words : Nat → Int32) : va_W := [(qt, .inr (10, [.int vt_thrown, .ref qt_checkBytes, .ref qt_blocks, .ref qt_data, .int vt_length, .ref qt_modules, .ref qt_fixed, .int vt_version, .int vt_side, .int vt_made, .ref qt_tells, .ref qt_segmentModes, .ref qt_segmentLengths, .int vt_segments, .ref qt_modes, .ref qt_takes, .int vt_bits, .ref qt_bytes, .ref qt_words, .int vt_filled, .ref qt_block, .ref qt_tried, .ref qt_values, .ref qt_system, .ref qt_solved, .ref qt_places, .ref qt_generator, .ref qt_readBytes, .int vt_readLength, .int vt_at, .int vt_all, .int vt_fault, .int vt_good, .ref qt_readings])), (qt_block, .inl (ct_block, 256, .inl vt_block)), (qt_blocks, .inl (ct_blocks, 160, .inl vt_blocks)), (qt_bytes, .inl (ct_bytes, 3800, .inl vt_bytes)), (qt_checkBytes, .inl (ct_checkBytes, 160, .inl vt_checkBytes)), (qt_generator, .inl (ct_generator, 32, .inl vt_generator)), (qt_words, .inl (ct_words, 3800, .inl vt_words))]

def rm_Md_check : Room := { frames := 4, cells := 0, slots := 0, locals := 97 }
abbrev qc_Md_check (dC : Nat → ClassId) (dI : Nat → Nat → Nat) (A : Nat → Prop) (qt qt_block qt_blocks qt_bytes qt_checkBytes qt_generator qt_words qt_data qt_modules qt_fixed qt_tells qt_segmentModes qt_segmentLengths qt_modes qt_takes qt_tried qt_values qt_system qt_solved qt_places qt_readBytes qt_readings : Nat) (ct_block ct_blocks ct_bytes ct_checkBytes ct_generator ct_words : ClassId) (vt_thrown : Int32) (vt_length : Int32) (vt_version : Int32) (vt_side : Int32) (vt_made : Int32) (vt_segments : Int32) (vt_bits : Int32) (vt_filled : Int32) (vt_readLength : Int32) (vt_at : Int32) (vt_all : Int32) (vt_fault : Int32) (vt_good : Int32) (vt_block : Nat → Int32) (vt_blocks : Nat → Int32) (vt_bytes : Nat → Int32) (vt_checkBytes : Nat → Int32) (vt_generator : Nat → Int32) (vt_words : Nat → Int32) : Array Value → State → Outcome → State → Prop := va_Qv (fun (_ : Unit) => True) (fun _ t => va_P (dC, dI) cl_All (ww_Md_check qt qt_block qt_blocks qt_bytes qt_checkBytes qt_generator qt_words qt_data qt_modules qt_fixed qt_tells qt_segmentModes qt_segmentLengths qt_modes qt_takes qt_tried qt_values qt_system qt_solved qt_places qt_readBytes qt_readings ct_block ct_blocks ct_bytes ct_checkBytes ct_generator ct_words vt_thrown vt_length vt_version vt_side vt_made vt_segments vt_bits vt_filled vt_readLength vt_at vt_all vt_fault vt_good vt_block vt_blocks vt_bytes vt_checkBytes vt_generator vt_words) t.heap ∧ va_D A (ww_Md_check qt qt_block qt_blocks qt_bytes qt_checkBytes qt_generator qt_words qt_data qt_modules qt_fixed qt_tells qt_segmentModes qt_segmentLengths qt_modes qt_takes qt_tried qt_values qt_system qt_solved qt_places qt_readBytes qt_readings ct_block ct_blocks ct_bytes ct_checkBytes ct_generator ct_words vt_thrown vt_length vt_version vt_side vt_made vt_segments vt_bits vt_filled vt_readLength vt_at vt_all vt_fault vt_good vt_block vt_blocks vt_bytes vt_checkBytes vt_generator vt_words)) A

set_option maxHeartbeats 4000000 in
set_option maxRecDepth 100000 in
theorem kt_Md_check (l : Launch) (dC : Nat → ClassId) (dI : Nat → Nat → Nat) (qt qt_block qt_blocks qt_bytes qt_checkBytes qt_generator qt_words qt_data qt_modules qt_fixed qt_tells qt_segmentModes qt_segmentLengths qt_modes qt_takes qt_tried qt_values qt_system qt_solved qt_places qt_readBytes qt_readings : Nat) (ct_block ct_blocks ct_bytes ct_checkBytes ct_generator ct_words : ClassId) (vt_thrown : Int32) (vt_length : Int32) (vt_version : Int32) (vt_side : Int32) (vt_made : Int32) (vt_segments : Int32) (vt_bits : Int32) (vt_filled : Int32) (vt_readLength : Int32) (vt_at : Int32) (vt_all : Int32) (vt_fault : Int32) (vt_good : Int32) (vt_block : Nat → Int32) (vt_blocks : Nat → Int32) (vt_bytes : Nat → Int32) (vt_checkBytes : Nat → Int32) (vt_generator : Nat → Int32) (vt_words : Nat → Int32) (p1 : Int32) (p2 : Int32) (sz : Nat) (n0 : Nat) (nvt_block : Nat → Int32) (nvt_generator : Nat → Int32) (nvt_words : Nat → Int32) (Hf : fn_Md_check n0 p1 p2 vt_block vt_blocks vt_bytes vt_checkBytes vt_generator vt_words = some (nvt_block, nvt_generator, nvt_words)) : Met l y_Md_check w_Md_check rm_Md_check (va_Pc [.ref qt, .int p1, .int p2] (fun U => U.heap.size = sz ∧ va_P (dC, dI) cl_All (ww_Md_check qt qt_block qt_blocks qt_bytes qt_checkBytes qt_generator qt_words qt_data qt_modules qt_fixed qt_tells qt_segmentModes qt_segmentLengths qt_modes qt_takes qt_tried qt_values qt_system qt_solved qt_places qt_readBytes qt_readings ct_block ct_blocks ct_bytes ct_checkBytes ct_generator ct_words vt_thrown vt_length vt_version vt_side vt_made vt_segments vt_bits vt_filled vt_readLength vt_at vt_all vt_fault vt_good vt_block vt_blocks vt_bytes vt_checkBytes vt_generator vt_words) U.heap ∧ va_K (dC, dI) cl_All [(ct_block, .int), (ct_blocks, .int), (ct_bytes, .int), (ct_checkBytes, .int), (ct_generator, .int), (ct_words, .int)] U ∧ va_D (fun _ => True) (ww_Md_check qt qt_block qt_blocks qt_bytes qt_checkBytes qt_generator qt_words qt_data qt_modules qt_fixed qt_tells qt_segmentModes qt_segmentLengths qt_modes qt_takes qt_tried qt_values qt_system qt_solved qt_places qt_readBytes qt_readings ct_block ct_blocks ct_bytes ct_checkBytes ct_generator ct_words vt_thrown vt_length vt_version vt_side vt_made vt_segments vt_bits vt_filled vt_readLength vt_at vt_all vt_fault vt_good vt_block vt_blocks vt_bytes vt_checkBytes vt_generator vt_words))) (qc_Md_check dC dI (va_A (ww_Md_check qt qt_block qt_blocks qt_bytes qt_checkBytes qt_generator qt_words qt_data qt_modules qt_fixed qt_tells qt_segmentModes qt_segmentLengths qt_modes qt_takes qt_tried qt_values qt_system qt_solved qt_places qt_readBytes qt_readings ct_block ct_blocks ct_bytes ct_checkBytes ct_generator ct_words vt_thrown vt_length vt_version vt_side vt_made vt_segments vt_bits vt_filled vt_readLength vt_at vt_all vt_fault vt_good vt_block vt_blocks vt_bytes vt_checkBytes vt_generator vt_words) sz) qt qt_block qt_blocks qt_bytes qt_checkBytes qt_generator qt_words qt_data qt_modules qt_fixed qt_tells qt_segmentModes qt_segmentLengths qt_modes qt_takes qt_tried qt_values qt_system qt_solved qt_places qt_readBytes qt_readings ct_block ct_blocks ct_bytes ct_checkBytes ct_generator ct_words vt_thrown vt_length vt_version vt_side vt_made vt_segments vt_bits vt_filled vt_readLength vt_at vt_all vt_fault vt_good nvt_block vt_blocks vt_bytes vt_checkBytes nvt_generator nvt_words) 0 0 (va_A (ww_Md_check qt qt_block qt_blocks qt_bytes qt_checkBytes qt_generator qt_words qt_data qt_modules qt_fixed qt_tells qt_segmentModes qt_segmentLengths qt_modes qt_takes qt_tried qt_values qt_system qt_solved qt_places qt_readBytes qt_readings ct_block ct_blocks ct_bytes ct_checkBytes ct_generator ct_words vt_thrown vt_length vt_version vt_side vt_made vt_segments vt_bits vt_filled vt_readLength vt_at vt_all vt_fault vt_good vt_block vt_blocks vt_bytes vt_checkBytes vt_generator vt_words) sz) := by
  refine Met.ofW (cc := prog_14_method_32_code) (maxL := 10) (ret := none) (by decide) rfl ?_
  intro p e s m args below meth c s₁ B hml hv
  obtain ⟨rfl, hsz, hP, hK, hD0⟩ := hv
  have hx := B.exec; have hb := B.bytes; have hr := B.returns; have hlocks := B.notSynchronized
  have ht : ∀ w ∈ lw_g, w.before _ s = true := fun w h => atoms_spec (ws := w_Md_check) B.pre w (List.mem_cons_of_mem _ h)
  have hown : s.vm.findClass "SquareSymbolsModel" = some m.cls := findClass_of_methodNamed B.named
  subst hsz
  have hD := hD0.self (sz := s.heap.size)
  generalize hAe : va_A (ww_Md_check qt qt_block qt_blocks qt_bytes qt_checkBytes qt_generator qt_words qt_data qt_modules qt_fixed qt_tells qt_segmentModes qt_segmentLengths qt_modes qt_takes qt_tried qt_values qt_system qt_solved qt_places qt_readBytes qt_readings ct_block ct_blocks ct_bytes ct_checkBytes ct_generator ct_words vt_thrown vt_length vt_version vt_side vt_made vt_segments vt_bits vt_filled vt_readLength vt_at vt_all vt_fault vt_good vt_block vt_blocks vt_bytes vt_checkBytes vt_generator vt_words) s.heap.size = A at hD ⊢
  have hA : ∀ q : Nat, s.heap.size ≤ q → A q := fun q h => by rw [← hAe]; exact Or.inr h
  have hS : va_S A s.heap s.heap [] := va_S.rf
  have hl := lv_entry ([.ref qt, .int p1, .int p2]) (n := 10) (Nat.le_of_ble_eq_true rfl)
  rw [lg_entry_eq]
  generalize (lg_sl ([.ref qt, .int p1, .int p2]) ++ List.replicate (10 - (lg_sl ([.ref qt, .int p1, .int p2])).length) Slot.unset).toArray = ls at hl ⊢
  have hl : lv_has ls 10 [(0, .ref qt), (1, .int p1), (2, .int p2)] := hl
  refine lv_aload_n hx hb d_Md_check_0 rfl (lv_at hl 0 rfl) ?_
  refine lv_iload_n hx hb d_Md_check_1 rfl (lv_at hl 1 rfl) ?_
  refine lv_iload_n hx hb d_Md_check_2 rfl (lv_at hl 2 rfl) ?_
  obtain ⟨r1, hc2, Hf⟩ := sq_cb1_e Hf
  refine sq_roi (va_runV (As := [.int p1, .int p2]) (rest := []) ⟨hx, hb, hml, hown, ht⟩ (kt_Md_checkOf l dC dI qt qt_checkBytes qt_blocks qt_data qt_modules qt_fixed qt_tells qt_segmentModes qt_segmentLengths qt_modes qt_takes qt_bytes qt_words qt_block qt_tried qt_values qt_system qt_solved qt_places qt_generator qt_readBytes qt_readings ct_checkBytes vt_thrown vt_length vt_version vt_side vt_made vt_segments vt_bits vt_filled vt_readLength vt_at vt_all vt_fault vt_good vt_checkBytes p1 p2 r1 hc2) (cwV 2 ht (sq_gV tb_1239 tb_1241 sl_37 tb_11 tb_1242) rfl rfl rfl (by decide +kernel) ⟨Nat.le_of_ble_eq_true rfl, Nat.le_of_ble_eq_true rfl⟩) (sq_roV (hP.sub (ws' := (ww_Md_checkOf qt qt_checkBytes qt_blocks qt_data qt_modules qt_fixed qt_tells qt_segmentModes qt_segmentLengths qt_modes qt_takes qt_bytes qt_words qt_block qt_tried qt_values qt_system qt_solved qt_places qt_generator qt_readBytes qt_readings ct_checkBytes vt_thrown vt_length vt_version vt_side vt_made vt_segments vt_bits vt_filled vt_readLength vt_at vt_all vt_fault vt_good vt_checkBytes)) [0, 4] rfl) (hK.sub (tys' := [(ct_checkBytes, .int)]) [3] rfl) (va_recv hK hP (ci := 10) (q0 := 0) rfl rfl)) rfl rfl hl.1 rfl (lv_room (Nat.le_of_ble_eq_true rfl)) d_Md_check_3 ⟨Nat.le_of_ble_eq_true rfl, Nat.le_of_ble_eq_true rfl⟩) ?_
  refine lv_istore_n (lv' := [(3, .int r1), (0, .ref qt), (1, .int p1), (2, .int p2)]) hx hb d_Md_check_6 rfl hl (by decide) rfl (fun ls hl => ?_)
  refine lv_aload_n hx hb d_Md_check_7 rfl (lv_at hl 1 rfl) ?_
  refine lv_iload_n hx hb d_Md_check_8 rfl (lv_at hl 0 rfl) ?_
  obtain ⟨b3, hc4, Hf⟩ := sq_cb1_e Hf
  refine sq_rwv (wn := (ww_Md_check qt qt_block qt_blocks qt_bytes qt_checkBytes qt_generator qt_words qt_data qt_modules qt_fixed qt_tells qt_segmentModes qt_segmentLengths qt_modes qt_takes qt_tried qt_values qt_system qt_solved qt_places qt_readBytes qt_readings ct_block ct_blocks ct_bytes ct_checkBytes ct_generator ct_words vt_thrown vt_length vt_version vt_side vt_made vt_segments vt_bits vt_filled vt_readLength vt_at vt_all vt_fault vt_good vt_block vt_blocks vt_bytes vt_checkBytes b3 vt_words)) (va_runV (As := [.int r1]) (rest := []) ⟨hx, hb, hml, hown, ht⟩ (kt_Md_generate l dC dI qt qt_generator qt_checkBytes qt_blocks qt_data qt_modules qt_fixed qt_tells qt_segmentModes qt_segmentLengths qt_modes qt_takes qt_bytes qt_words qt_block qt_tried qt_values qt_system qt_solved qt_places qt_readBytes qt_readings ct_generator vt_thrown vt_length vt_version vt_side vt_made vt_segments vt_bits vt_filled vt_readLength vt_at vt_all vt_fault vt_good vt_generator r1 s.heap.size n0 b3 hc4) (cwV 1 ht (sq_gV tb_1263 tb_1265 sl_43 tb_11 tb_1266) rfl rfl rfl (by decide +kernel) ⟨Nat.le_of_ble_eq_true rfl, Nat.le_of_ble_eq_true rfl⟩) (sq_rwV (hP.sub (ws' := (ww_Md_generate qt qt_generator qt_checkBytes qt_blocks qt_data qt_modules qt_fixed qt_tells qt_segmentModes qt_segmentLengths qt_modes qt_takes qt_bytes qt_words qt_block qt_tried qt_values qt_system qt_solved qt_places qt_readBytes qt_readings ct_generator vt_thrown vt_length vt_version vt_side vt_made vt_segments vt_bits vt_filled vt_readLength vt_at vt_all vt_fault vt_good vt_generator)) [0, 5] rfl) (hK.sub (tys' := [(ct_generator, .int)]) [4] rfl) (hD.sub (ws' := (ww_Md_generate qt qt_generator qt_checkBytes qt_blocks qt_data qt_modules qt_fixed qt_tells qt_segmentModes qt_segmentLengths qt_modes qt_takes qt_bytes qt_words qt_block qt_tried qt_values qt_system qt_solved qt_places qt_readBytes qt_readings ct_generator vt_thrown vt_length vt_version vt_side vt_made vt_segments vt_bits vt_filled vt_readLength vt_at vt_all vt_fault vt_good vt_generator)) [0, 5] (by decide) rfl) (va_recv hK hP (ci := 10) (q0 := 0) rfl rfl)) rfl rfl hl.1 rfl (lv_room (Nat.le_of_ble_eq_true rfl)) d_Md_check_9 ⟨Nat.le_of_ble_eq_true rfl, Nat.le_of_ble_eq_true rfl⟩) hP hD hS hA [0, 5] [1, 2, 3, 4, 6] [5, 0, 1, 2, 3, 6, 4] rfl rfl (by decide) (by decide) rfl (by decide) (fun H locs hP hD hS => ?_)
  refine lv_iconst (v := (0 : Int32)) hx hb d_Md_check_12 (by decide) ?_
  refine lv_istore (lv' := [(4, .int (0 : Int32)), (3, .int r1), (0, .ref qt), (1, .int p1), (2, .int p2)]) hx hb d_Md_check_13 hl (by decide) rfl (fun ls hl => ?_)
  have L1 : ∀ (m1 : Nat), ∀ (x5 : Int32) (b6 : Nat → Int32) (b7 : Nat → Int32), fn_Md_check_L1 p1 p2 n0 vt_blocks vt_bytes vt_checkBytes r1 b3 m1 x5 b6 b7 = some (nvt_block, nvt_generator, nvt_words) → ∀ (H : Heap) (locs : List Loc), va_P (dC, dI) cl_All (ww_Md_check qt qt_block qt_blocks qt_bytes qt_checkBytes qt_generator qt_words qt_data qt_modules qt_fixed qt_tells qt_segmentModes qt_segmentLengths qt_modes qt_takes qt_tried qt_values qt_system qt_solved qt_places qt_readBytes qt_readings ct_block ct_blocks ct_bytes ct_checkBytes ct_generator ct_words vt_thrown vt_length vt_version vt_side vt_made vt_segments vt_bits vt_filled vt_readLength vt_at vt_all vt_fault vt_good b6 vt_blocks vt_bytes vt_checkBytes b3 b7) H → va_D A (ww_Md_check qt qt_block qt_blocks qt_bytes qt_checkBytes qt_generator qt_words qt_data qt_modules qt_fixed qt_tells qt_segmentModes qt_segmentLengths qt_modes qt_takes qt_tried qt_values qt_system qt_solved qt_places qt_readBytes qt_readings ct_block ct_blocks ct_bytes ct_checkBytes ct_generator ct_words vt_thrown vt_length vt_version vt_side vt_made vt_segments vt_bits vt_filled vt_readLength vt_at vt_all vt_fault vt_good b6 vt_blocks vt_bytes vt_checkBytes b3 b7) → va_S A s.heap H locs → ∀ ls : Array Slot, lv_has ls 10 [(0, .ref qt), (1, .int p1), (2, .int p2), (3, .int r1), (4, .int x5)] → W p l e (headSpec w_Md_check rm_Md_check).room s m (([.ref qt, .int p1, .int p2] : List Value).toArray) below meth c H locs 0 0 (MQ below (qc_Md_check dC dI A qt qt_block qt_blocks qt_bytes qt_checkBytes qt_generator qt_words qt_data qt_modules qt_fixed qt_tells qt_segmentModes qt_segmentLengths qt_modes qt_takes qt_tried qt_values qt_system qt_solved qt_places qt_readBytes qt_readings ct_block ct_blocks ct_bytes ct_checkBytes ct_generator ct_words vt_thrown vt_length vt_version vt_side vt_made vt_segments vt_bits vt_filled vt_readLength vt_at vt_all vt_fault vt_good nvt_block vt_blocks vt_bytes vt_checkBytes nvt_generator nvt_words) (([.ref qt, .int p1, .int p2] : List Value).toArray) s 0 0 A) (F0 m 15 ls []) := by
    intro m1
    induction m1 with
    | zero => intro x5 b6 b7 Hf; exact sq_none Hf
    | succ m1 ih1 =>
      intro x5 b6 b7 Hf H locs  hP hD hS ls hl
      replace Hf := (fn_Md_check_L1_s p1 p2 n0 vt_blocks vt_bytes vt_checkBytes r1 b3 m1 x5 b6 b7).symm.trans Hf
      refine lv_iload hx hb d_Md_check_15 (lv_at hl 4 rfl) ?_
      refine lv_aload_n hx hb d_Md_check_17 rfl (lv_at hl 0 rfl) ?_
      refine lv_iload_n hx hb d_Md_check_18 rfl (lv_at hl 1 rfl) ?_
      refine lv_iload_n hx hb d_Md_check_19 rfl (lv_at hl 2 rfl) ?_
      obtain ⟨r8, hc9, Hf⟩ := sq_cb1_e Hf
      refine sq_roi (va_runV (As := [.int p1, .int p2]) (rest := [.int x5]) ⟨hx, hb, hml, hown, ht⟩ (kt_Md_blocksOf l dC dI qt qt_blocks qt_checkBytes qt_data qt_modules qt_fixed qt_tells qt_segmentModes qt_segmentLengths qt_modes qt_takes qt_bytes qt_words qt_block qt_tried qt_values qt_system qt_solved qt_places qt_generator qt_readBytes qt_readings ct_blocks vt_thrown vt_length vt_version vt_side vt_made vt_segments vt_bits vt_filled vt_readLength vt_at vt_all vt_fault vt_good vt_blocks p1 p2 r8 hc9) (cwV 2 ht (sq_gV tb_1243 tb_1245 sl_38 tb_11 tb_1246) rfl rfl rfl (by decide +kernel) ⟨Nat.le_of_ble_eq_true rfl, Nat.le_of_ble_eq_true rfl⟩) (sq_roV (hP.sub (ws' := (ww_Md_blocksOf qt qt_blocks qt_checkBytes qt_data qt_modules qt_fixed qt_tells qt_segmentModes qt_segmentLengths qt_modes qt_takes qt_bytes qt_words qt_block qt_tried qt_values qt_system qt_solved qt_places qt_generator qt_readBytes qt_readings ct_blocks vt_thrown vt_length vt_version vt_side vt_made vt_segments vt_bits vt_filled vt_readLength vt_at vt_all vt_fault vt_good vt_blocks)) [0, 2] rfl) (hK.sub (tys' := [(ct_blocks, .int)]) [1] rfl) (va_recv hK hP (ci := 10) (q0 := 0) rfl rfl)) rfl rfl hl.1 rfl (lv_room (Nat.le_of_ble_eq_true rfl)) d_Md_check_20 ⟨Nat.le_of_ble_eq_true rfl, Nat.le_of_ble_eq_true rfl⟩) ?_
      refine lv_icmp_ge (tgt := 236) hx hb d_Md_check_23 (by decide) (fun c10 => ?_) (fun c10 => ?_)
      · replace Hf := sq_ite_t Hf c10
        obtain ⟨rfl, rfl, rfl⟩ := sq_so3 Hf
        exact W.vret hx hb hr (fun t ht hW => ⟨⟨(), rfl, trivial, by rw [ht]; exact hP, hD⟩, hS.F ht⟩) hS.2.2 d_Md_check_236
      · replace Hf := sq_ite_f Hf c10
        refine lv_aload_n hx hb d_Md_check_26 rfl (lv_at hl 0 rfl) ?_
        refine lv_iload_n hx hb d_Md_check_27 rfl (lv_at hl 1 rfl) ?_
        refine lv_iload_n hx hb d_Md_check_28 rfl (lv_at hl 2 rfl) ?_
        refine lv_iload hx hb d_Md_check_29 (lv_at hl 4 rfl) ?_
        obtain ⟨r11, hc12, Hf⟩ := sq_cb1_e Hf
        refine sq_roi (va_runV (As := [.int p1, .int p2, .int x5]) (rest := []) ⟨hx, hb, hml, hown, ht⟩ (kt_Md_shareOf l dC dI qt qt_blocks qt_checkBytes qt_data qt_modules qt_fixed qt_tells qt_segmentModes qt_segmentLengths qt_modes qt_takes qt_bytes qt_words qt_block qt_tried qt_values qt_system qt_solved qt_places qt_generator qt_readBytes qt_readings ct_blocks ct_checkBytes vt_thrown vt_length vt_version vt_side vt_made vt_segments vt_bits vt_filled vt_readLength vt_at vt_all vt_fault vt_good vt_blocks vt_checkBytes p1 p2 x5 r11 hc12) (cwV 3 ht (sq_gV tb_1273 tb_1275 sl_44 tb_11 tb_1276) rfl rfl rfl (by decide +kernel) ⟨Nat.le_of_ble_eq_true rfl, Nat.le_of_ble_eq_true rfl⟩) (sq_roV (hP.sub (ws' := (ww_Md_shareOf qt qt_blocks qt_checkBytes qt_data qt_modules qt_fixed qt_tells qt_segmentModes qt_segmentLengths qt_modes qt_takes qt_bytes qt_words qt_block qt_tried qt_values qt_system qt_solved qt_places qt_generator qt_readBytes qt_readings ct_blocks ct_checkBytes vt_thrown vt_length vt_version vt_side vt_made vt_segments vt_bits vt_filled vt_readLength vt_at vt_all vt_fault vt_good vt_blocks vt_checkBytes)) [0, 2, 4] rfl) (hK.sub (tys' := [(ct_blocks, .int), (ct_checkBytes, .int)]) [1, 3] rfl) (va_recv hK hP (ci := 10) (q0 := 0) rfl rfl)) rfl rfl hl.1 rfl (lv_room (Nat.le_of_ble_eq_true rfl)) d_Md_check_31 ⟨Nat.le_of_ble_eq_true rfl, Nat.le_of_ble_eq_true rfl⟩) ?_
        refine lv_istore (lv' := [(5, .int r11), (0, .ref qt), (1, .int p1), (2, .int p2), (3, .int r1), (4, .int x5)]) hx hb d_Md_check_34 hl (by decide) rfl (fun ls hl => ?_)
        refine lv_aload_n hx hb d_Md_check_36 rfl (lv_at hl 1 rfl) ?_
        refine lv_iload_n hx hb d_Md_check_37 rfl (lv_at hl 2 rfl) ?_
        refine lv_iload_n hx hb d_Md_check_38 rfl (lv_at hl 3 rfl) ?_
        refine lv_iload hx hb d_Md_check_39 (lv_at hl 5 rfl) ?_
        obtain ⟨r13, hc14, Hf⟩ := sq_cb1_e Hf
        refine sq_roi (va_runV (As := [.int p1, .int p2, .int x5]) (rest := []) ⟨hx, hb, hml, hown, ht⟩ (kt_Md_startOf l dC dI qt qt_blocks qt_checkBytes qt_data qt_modules qt_fixed qt_tells qt_segmentModes qt_segmentLengths qt_modes qt_takes qt_bytes qt_words qt_block qt_tried qt_values qt_system qt_solved qt_places qt_generator qt_readBytes qt_readings ct_blocks ct_checkBytes vt_thrown vt_length vt_version vt_side vt_made vt_segments vt_bits vt_filled vt_readLength vt_at vt_all vt_fault vt_good vt_blocks vt_checkBytes p1 p2 x5 n0 r13 hc14) (cwV 3 ht (sq_gV tb_1277 tb_1279 sl_45 tb_11 tb_1280) rfl rfl rfl (by decide +kernel) ⟨Nat.le_of_ble_eq_true rfl, Nat.le_of_ble_eq_true rfl⟩) (sq_roV (hP.sub (ws' := (ww_Md_startOf qt qt_blocks qt_checkBytes qt_data qt_modules qt_fixed qt_tells qt_segmentModes qt_segmentLengths qt_modes qt_takes qt_bytes qt_words qt_block qt_tried qt_values qt_system qt_solved qt_places qt_generator qt_readBytes qt_readings ct_blocks ct_checkBytes vt_thrown vt_length vt_version vt_side vt_made vt_segments vt_bits vt_filled vt_readLength vt_at vt_all vt_fault vt_good vt_blocks vt_checkBytes)) [0, 2, 4] rfl) (hK.sub (tys' := [(ct_blocks, .int), (ct_checkBytes, .int)]) [1, 3] rfl) (va_recv hK hP (ci := 10) (q0 := 0) rfl rfl)) rfl rfl hl.1 rfl (lv_room (Nat.le_of_ble_eq_true rfl)) d_Md_check_41 ⟨Nat.le_of_ble_eq_true rfl, Nat.le_of_ble_eq_true rfl⟩) ?_
        refine lv_istore (lv' := [(6, .int r13), (5, .int r11), (0, .ref qt), (1, .int p1), (2, .int p2), (3, .int r1), (4, .int x5)]) hx hb d_Md_check_44 hl (by decide) rfl (fun ls hl => ?_)
        refine lv_iconst (v := (0 : Int32)) hx hb d_Md_check_46 (by decide) ?_
        refine lv_istore (lv' := [(7, .int (0 : Int32)), (6, .int r13), (5, .int r11), (0, .ref qt), (1, .int p1), (2, .int p2), (3, .int r1), (4, .int x5)]) hx hb d_Md_check_47 hl (by decide) rfl (fun ls hl => ?_)
        obtain ⟨k16, hk16, Hf⟩ := sq_jn_e Hf
        have Jk16 : ∀ (b15 : Nat → Int32), k16 b15 = some (nvt_block, nvt_generator, nvt_words) → ∀ (H : Heap) (locs : List Loc), va_P (dC, dI) cl_All (ww_Md_check qt qt_block qt_blocks qt_bytes qt_checkBytes qt_generator qt_words qt_data qt_modules qt_fixed qt_tells qt_segmentModes qt_segmentLengths qt_modes qt_takes qt_tried qt_values qt_system qt_solved qt_places qt_readBytes qt_readings ct_block ct_blocks ct_bytes ct_checkBytes ct_generator ct_words vt_thrown vt_length vt_version vt_side vt_made vt_segments vt_bits vt_filled vt_readLength vt_at vt_all vt_fault vt_good b15 vt_blocks vt_bytes vt_checkBytes b3 b7) H → va_D A (ww_Md_check qt qt_block qt_blocks qt_bytes qt_checkBytes qt_generator qt_words qt_data qt_modules qt_fixed qt_tells qt_segmentModes qt_segmentLengths qt_modes qt_takes qt_tried qt_values qt_system qt_solved qt_places qt_readBytes qt_readings ct_block ct_blocks ct_bytes ct_checkBytes ct_generator ct_words vt_thrown vt_length vt_version vt_side vt_made vt_segments vt_bits vt_filled vt_readLength vt_at vt_all vt_fault vt_good b15 vt_blocks vt_bytes vt_checkBytes b3 b7) → va_S A s.heap H locs → ∀ ls : Array Slot, lv_has ls 10 [(0, .ref qt), (1, .int p1), (2, .int p2), (3, .int r1), (4, .int x5), (5, .int r11), (6, .int r13)] → W p l e (headSpec w_Md_check rm_Md_check).room s m (([.ref qt, .int p1, .int p2] : List Value).toArray) below meth c H locs 0 0 (MQ below (qc_Md_check dC dI A qt qt_block qt_blocks qt_bytes qt_checkBytes qt_generator qt_words qt_data qt_modules qt_fixed qt_tells qt_segmentModes qt_segmentLengths qt_modes qt_takes qt_tried qt_values qt_system qt_solved qt_places qt_readBytes qt_readings ct_block ct_blocks ct_bytes ct_checkBytes ct_generator ct_words vt_thrown vt_length vt_version vt_side vt_made vt_segments vt_bits vt_filled vt_readLength vt_at vt_all vt_fault vt_good nvt_block vt_blocks vt_bytes vt_checkBytes nvt_generator nvt_words) (([.ref qt, .int p1, .int p2] : List Value).toArray) s 0 0 A) (F0 m 92 ls []) := by
          intro b15 Hf H locs  hP hD hS ls hl
          rw [hk16] at Hf
          refine lv_iconst (v := (0 : Int32)) hx hb d_Md_check_92 (by decide) ?_
          refine lv_istore (lv' := [(7, .int (0 : Int32)), (0, .ref qt), (1, .int p1), (2, .int p2), (3, .int r1), (4, .int x5), (5, .int r11), (6, .int r13)]) hx hb d_Md_check_93 hl (by decide) rfl (fun ls hl => ?_)
          obtain ⟨k18, hk18, Hf⟩ := sq_jn_e Hf
          have Jk18 : ∀ (b17 : Nat → Int32), k18 b17 = some (nvt_block, nvt_generator, nvt_words) → ∀ (H : Heap) (locs : List Loc), va_P (dC, dI) cl_All (ww_Md_check qt qt_block qt_blocks qt_bytes qt_checkBytes qt_generator qt_words qt_data qt_modules qt_fixed qt_tells qt_segmentModes qt_segmentLengths qt_modes qt_takes qt_tried qt_values qt_system qt_solved qt_places qt_readBytes qt_readings ct_block ct_blocks ct_bytes ct_checkBytes ct_generator ct_words vt_thrown vt_length vt_version vt_side vt_made vt_segments vt_bits vt_filled vt_readLength vt_at vt_all vt_fault vt_good b17 vt_blocks vt_bytes vt_checkBytes b3 b7) H → va_D A (ww_Md_check qt qt_block qt_blocks qt_bytes qt_checkBytes qt_generator qt_words qt_data qt_modules qt_fixed qt_tells qt_segmentModes qt_segmentLengths qt_modes qt_takes qt_tried qt_values qt_system qt_solved qt_places qt_readBytes qt_readings ct_block ct_blocks ct_bytes ct_checkBytes ct_generator ct_words vt_thrown vt_length vt_version vt_side vt_made vt_segments vt_bits vt_filled vt_readLength vt_at vt_all vt_fault vt_good b17 vt_blocks vt_bytes vt_checkBytes b3 b7) → va_S A s.heap H locs → ∀ ls : Array Slot, lv_has ls 10 [(0, .ref qt), (1, .int p1), (2, .int p2), (3, .int r1), (4, .int x5), (5, .int r11), (6, .int r13)] → W p l e (headSpec w_Md_check rm_Md_check).room s m (([.ref qt, .int p1, .int p2] : List Value).toArray) below meth c H locs 0 0 (MQ below (qc_Md_check dC dI A qt qt_block qt_blocks qt_bytes qt_checkBytes qt_generator qt_words qt_data qt_modules qt_fixed qt_tells qt_segmentModes qt_segmentLengths qt_modes qt_takes qt_tried qt_values qt_system qt_solved qt_places qt_readBytes qt_readings ct_block ct_blocks ct_bytes ct_checkBytes ct_generator ct_words vt_thrown vt_length vt_version vt_side vt_made vt_segments vt_bits vt_filled vt_readLength vt_at vt_all vt_fault vt_good nvt_block vt_blocks vt_bytes vt_checkBytes nvt_generator nvt_words) (([.ref qt, .int p1, .int p2] : List Value).toArray) s 0 0 A) (F0 m 170 ls []) := by
            intro b17 Hf H locs  hP hD hS ls hl
            rw [hk18] at Hf
            refine lv_iconst (v := (0 : Int32)) hx hb d_Md_check_170 (by decide) ?_
            refine lv_istore (lv' := [(7, .int (0 : Int32)), (0, .ref qt), (1, .int p1), (2, .int p2), (3, .int r1), (4, .int x5), (5, .int r11), (6, .int r13)]) hx hb d_Md_check_171 hl (by decide) rfl (fun ls hl => ?_)
            obtain ⟨k20, hk20, Hf⟩ := sq_jn_e Hf
            have Jk20 : ∀ (b19 : Nat → Int32), k20 b19 = some (nvt_block, nvt_generator, nvt_words) → ∀ (H : Heap) (locs : List Loc), va_P (dC, dI) cl_All (ww_Md_check qt qt_block qt_blocks qt_bytes qt_checkBytes qt_generator qt_words qt_data qt_modules qt_fixed qt_tells qt_segmentModes qt_segmentLengths qt_modes qt_takes qt_tried qt_values qt_system qt_solved qt_places qt_readBytes qt_readings ct_block ct_blocks ct_bytes ct_checkBytes ct_generator ct_words vt_thrown vt_length vt_version vt_side vt_made vt_segments vt_bits vt_filled vt_readLength vt_at vt_all vt_fault vt_good b17 vt_blocks vt_bytes vt_checkBytes b3 b19) H → va_D A (ww_Md_check qt qt_block qt_blocks qt_bytes qt_checkBytes qt_generator qt_words qt_data qt_modules qt_fixed qt_tells qt_segmentModes qt_segmentLengths qt_modes qt_takes qt_tried qt_values qt_system qt_solved qt_places qt_readBytes qt_readings ct_block ct_blocks ct_bytes ct_checkBytes ct_generator ct_words vt_thrown vt_length vt_version vt_side vt_made vt_segments vt_bits vt_filled vt_readLength vt_at vt_all vt_fault vt_good b17 vt_blocks vt_bytes vt_checkBytes b3 b19) → va_S A s.heap H locs → ∀ ls : Array Slot, lv_has ls 10 [(0, .ref qt), (1, .int p1), (2, .int p2), (3, .int r1), (4, .int x5)] → W p l e (headSpec w_Md_check rm_Md_check).room s m (([.ref qt, .int p1, .int p2] : List Value).toArray) below meth c H locs 0 0 (MQ below (qc_Md_check dC dI A qt qt_block qt_blocks qt_bytes qt_checkBytes qt_generator qt_words qt_data qt_modules qt_fixed qt_tells qt_segmentModes qt_segmentLengths qt_modes qt_takes qt_tried qt_values qt_system qt_solved qt_places qt_readBytes qt_readings ct_block ct_blocks ct_bytes ct_checkBytes ct_generator ct_words vt_thrown vt_length vt_version vt_side vt_made vt_segments vt_bits vt_filled vt_readLength vt_at vt_all vt_fault vt_good nvt_block vt_blocks vt_bytes vt_checkBytes nvt_generator nvt_words) (([.ref qt, .int p1, .int p2] : List Value).toArray) s 0 0 A) (F0 m 230 ls []) := by
              intro b19 Hf H locs  hP hD hS ls hl
              rw [hk20] at Hf
              obtain ⟨x21, ex21, Hf⟩ := sq_bd_e Hf
              refine lv_iinc (v := x21) (lv' := [(4, .int x21), (0, .ref qt), (1, .int p1), (2, .int p2), (3, .int r1)]) hx hb d_Md_check_230 hl (k := 4) rfl (by rw [ex21]; rfl) (by decide) rfl (fun ls hl => ?_)
              refine lv_goto (tgt := 15) hx hb d_Md_check_233 (by decide) ?_
              exact ih1 x21 b17 b19 Hf _ _  hP hD hS _ (lv_sub hl [1, 2, 3, 4, 0] rfl)
            have L2 : ∀ (m2 : Nat), ∀ (x22 : Int32) (b23 : Nat → Int32), fn_Md_check_L2 p1 p2 vt_blocks vt_bytes vt_checkBytes r1 x5 r11 r13 b17 k20 m2 x22 b23 = some (nvt_block, nvt_generator, nvt_words) → ∀ (H : Heap) (locs : List Loc), va_P (dC, dI) cl_All (ww_Md_check qt qt_block qt_blocks qt_bytes qt_checkBytes qt_generator qt_words qt_data qt_modules qt_fixed qt_tells qt_segmentModes qt_segmentLengths qt_modes qt_takes qt_tried qt_values qt_system qt_solved qt_places qt_readBytes qt_readings ct_block ct_blocks ct_bytes ct_checkBytes ct_generator ct_words vt_thrown vt_length vt_version vt_side vt_made vt_segments vt_bits vt_filled vt_readLength vt_at vt_all vt_fault vt_good b17 vt_blocks vt_bytes vt_checkBytes b3 b23) H → va_D A (ww_Md_check qt qt_block qt_blocks qt_bytes qt_checkBytes qt_generator qt_words qt_data qt_modules qt_fixed qt_tells qt_segmentModes qt_segmentLengths qt_modes qt_takes qt_tried qt_values qt_system qt_solved qt_places qt_readBytes qt_readings ct_block ct_blocks ct_bytes ct_checkBytes ct_generator ct_words vt_thrown vt_length vt_version vt_side vt_made vt_segments vt_bits vt_filled vt_readLength vt_at vt_all vt_fault vt_good b17 vt_blocks vt_bytes vt_checkBytes b3 b23) → va_S A s.heap H locs → ∀ ls : Array Slot, lv_has ls 10 [(0, .ref qt), (1, .int p1), (2, .int p2), (3, .int r1), (4, .int x5), (5, .int r11), (6, .int r13), (7, .int x22)] → W p l e (headSpec w_Md_check rm_Md_check).room s m (([.ref qt, .int p1, .int p2] : List Value).toArray) below meth c H locs 0 0 (MQ below (qc_Md_check dC dI A qt qt_block qt_blocks qt_bytes qt_checkBytes qt_generator qt_words qt_data qt_modules qt_fixed qt_tells qt_segmentModes qt_segmentLengths qt_modes qt_takes qt_tried qt_values qt_system qt_solved qt_places qt_readBytes qt_readings ct_block ct_blocks ct_bytes ct_checkBytes ct_generator ct_words vt_thrown vt_length vt_version vt_side vt_made vt_segments vt_bits vt_filled vt_readLength vt_at vt_all vt_fault vt_good nvt_block vt_blocks vt_bytes vt_checkBytes nvt_generator nvt_words) (([.ref qt, .int p1, .int p2] : List Value).toArray) s 0 0 A) (F0 m 173 ls []) := by
              intro m2
              induction m2 with
              | zero => intro x22 b23 Hf; exact sq_none Hf
              | succ m2 ih2 =>
                intro x22 b23 Hf H locs  hP hD hS ls hl
                replace Hf := (fn_Md_check_L2_s p1 p2 vt_blocks vt_bytes vt_checkBytes r1 x5 r11 r13 b17 k20 m2 x22 b23).symm.trans Hf
                refine lv_iload hx hb d_Md_check_173 (lv_at hl 7 rfl) ?_
                refine lv_iload hx hb d_Md_check_175 (lv_at hl 5 rfl) ?_
                refine lv_iload_n hx hb d_Md_check_177 rfl (lv_at hl 3 rfl) ?_
                refine lv_iadd hx hb d_Md_check_178 ?_
                refine lv_icmp_ge (tgt := 230) hx hb d_Md_check_179 (by decide) (fun c24 => ?_) (fun c24 => ?_)
                · replace Hf := sq_ite_t Hf c24
                  exact Jk20 b23 Hf _ _  hP hD hS _ (lv_sub hl [0, 1, 2, 3, 4] rfl)
                · replace Hf := sq_ite_f Hf c24
                  refine lv_aload_n hx hb d_Md_check_182 rfl (lv_at hl 0 rfl) ?_
                  refine va_get (D := (dC, dI)) (ci := 10) (v := .ref qt_words) (C := R_Md) (T := F_Md) (N := 34) hx hb ht i_Md hown hK hP 0 rfl rfl 18 (by decide) (ht _ tb_1080) (fun _ h9 => h9) rfl d_Md_check_183 ?_
                  refine lv_aload_n hx hb d_Md_check_186 rfl (lv_at hl 0 rfl) ?_
                  refine lv_iload_n hx hb d_Md_check_187 rfl (lv_at hl 1 rfl) ?_
                  refine lv_iload_n hx hb d_Md_check_188 rfl (lv_at hl 2 rfl) ?_
                  refine lv_iload hx hb d_Md_check_189 (lv_at hl 4 rfl) ?_
                  refine lv_iload hx hb d_Md_check_191 (lv_at hl 7 rfl) ?_
                  obtain ⟨r25, hc26, Hf⟩ := sq_cb1_e Hf
                  refine sq_roi (va_runV (As := [.int p1, .int p2, .int x5, .int x22]) (rest := [.ref qt_words]) ⟨hx, hb, hml, hown, ht⟩ (kt_Md_placeOf l dC dI qt qt_blocks qt_checkBytes qt_data qt_modules qt_fixed qt_tells qt_segmentModes qt_segmentLengths qt_modes qt_takes qt_bytes qt_words qt_block qt_tried qt_values qt_system qt_solved qt_places qt_generator qt_readBytes qt_readings ct_blocks ct_checkBytes vt_thrown vt_length vt_version vt_side vt_made vt_segments vt_bits vt_filled vt_readLength vt_at vt_all vt_fault vt_good vt_blocks vt_checkBytes p1 p2 x5 x22 r25 hc26) (cwV 4 ht (sq_gV tb_1281 tb_1283 sl_46 tb_11 tb_1284) rfl rfl rfl (by decide +kernel) ⟨Nat.le_of_ble_eq_true rfl, Nat.le_of_ble_eq_true rfl⟩) (sq_roV (hP.sub (ws' := (ww_Md_placeOf qt qt_blocks qt_checkBytes qt_data qt_modules qt_fixed qt_tells qt_segmentModes qt_segmentLengths qt_modes qt_takes qt_bytes qt_words qt_block qt_tried qt_values qt_system qt_solved qt_places qt_generator qt_readBytes qt_readings ct_blocks ct_checkBytes vt_thrown vt_length vt_version vt_side vt_made vt_segments vt_bits vt_filled vt_readLength vt_at vt_all vt_fault vt_good vt_blocks vt_checkBytes)) [0, 2, 4] rfl) (hK.sub (tys' := [(ct_blocks, .int), (ct_checkBytes, .int)]) [1, 3] rfl) (va_recv hK hP (ci := 10) (q0 := 0) rfl rfl)) rfl rfl hl.1 rfl (lv_room (Nat.le_of_ble_eq_true rfl)) d_Md_check_193 ⟨Nat.le_of_ble_eq_true rfl, Nat.le_of_ble_eq_true rfl⟩) ?_
                  refine lv_iload hx hb d_Md_check_196 (lv_at hl 7 rfl) ?_
                  refine lv_iload hx hb d_Md_check_198 (lv_at hl 5 rfl) ?_
                  obtain ⟨k28, hk28, Hf⟩ := sq_jn_e Hf
                  have Jk28 : ∀ (x27 : Int32), k28 x27 = some (nvt_block, nvt_generator, nvt_words) → ∀ (H : Heap) (locs : List Loc), va_P (dC, dI) cl_All (ww_Md_check qt qt_block qt_blocks qt_bytes qt_checkBytes qt_generator qt_words qt_data qt_modules qt_fixed qt_tells qt_segmentModes qt_segmentLengths qt_modes qt_takes qt_tried qt_values qt_system qt_solved qt_places qt_readBytes qt_readings ct_block ct_blocks ct_bytes ct_checkBytes ct_generator ct_words vt_thrown vt_length vt_version vt_side vt_made vt_segments vt_bits vt_filled vt_readLength vt_at vt_all vt_fault vt_good b17 vt_blocks vt_bytes vt_checkBytes b3 b23) H → va_D A (ww_Md_check qt qt_block qt_blocks qt_bytes qt_checkBytes qt_generator qt_words qt_data qt_modules qt_fixed qt_tells qt_segmentModes qt_segmentLengths qt_modes qt_takes qt_tried qt_values qt_system qt_solved qt_places qt_readBytes qt_readings ct_block ct_blocks ct_bytes ct_checkBytes ct_generator ct_words vt_thrown vt_length vt_version vt_side vt_made vt_segments vt_bits vt_filled vt_readLength vt_at vt_all vt_fault vt_good b17 vt_blocks vt_bytes vt_checkBytes b3 b23) → va_S A s.heap H locs → ∀ ls : Array Slot, lv_has ls 10 [(0, .ref qt), (1, .int p1), (2, .int p2), (3, .int r1), (4, .int x5), (5, .int r11), (6, .int r13), (7, .int x22)] → W p l e (headSpec w_Md_check rm_Md_check).room s m (([.ref qt, .int p1, .int p2] : List Value).toArray) below meth c H locs 0 0 (MQ below (qc_Md_check dC dI A qt qt_block qt_blocks qt_bytes qt_checkBytes qt_generator qt_words qt_data qt_modules qt_fixed qt_tells qt_segmentModes qt_segmentLengths qt_modes qt_takes qt_tried qt_values qt_system qt_solved qt_places qt_readBytes qt_readings ct_block ct_blocks ct_bytes ct_checkBytes ct_generator ct_words vt_thrown vt_length vt_version vt_side vt_made vt_segments vt_bits vt_filled vt_readLength vt_at vt_all vt_fault vt_good nvt_block vt_blocks vt_bytes vt_checkBytes nvt_generator nvt_words) (([.ref qt, .int p1, .int p2] : List Value).toArray) s 0 0 A) (F0 m 223 ls [.int x27, .int r25, .ref qt_words]) := by
                    intro x27 Hf H locs  hP hD hS ls hl
                    rw [hk28] at Hf
                    obtain ⟨hi29, Hf⟩ := sq_gi_e Hf
                    obtain ⟨b30, eb30, Hf⟩ := sq_bd_e Hf
                    refine va_iast hx hb hK hP hD hS 6 5 rfl rfl hi29 d_Md_check_223 (fun H locs hP hD hS => ?_)
                    rw [← eb30] at hP hD
                    replace hP : va_P (dC, dI) cl_All (ww_Md_check qt qt_block qt_blocks qt_bytes qt_checkBytes qt_generator qt_words qt_data qt_modules qt_fixed qt_tells qt_segmentModes qt_segmentLengths qt_modes qt_takes qt_tried qt_values qt_system qt_solved qt_places qt_readBytes qt_readings ct_block ct_blocks ct_bytes ct_checkBytes ct_generator ct_words vt_thrown vt_length vt_version vt_side vt_made vt_segments vt_bits vt_filled vt_readLength vt_at vt_all vt_fault vt_good b17 vt_blocks vt_bytes vt_checkBytes b3 b30) H := hP
                    replace hD : va_D A (ww_Md_check qt qt_block qt_blocks qt_bytes qt_checkBytes qt_generator qt_words qt_data qt_modules qt_fixed qt_tells qt_segmentModes qt_segmentLengths qt_modes qt_takes qt_tried qt_values qt_system qt_solved qt_places qt_readBytes qt_readings ct_block ct_blocks ct_bytes ct_checkBytes ct_generator ct_words vt_thrown vt_length vt_version vt_side vt_made vt_segments vt_bits vt_filled vt_readLength vt_at vt_all vt_fault vt_good b17 vt_blocks vt_bytes vt_checkBytes b3 b30) := hD
                    obtain ⟨x31, ex31, Hf⟩ := sq_bd_e Hf
                    refine lv_iinc (v := x31) (lv' := [(7, .int x31), (0, .ref qt), (1, .int p1), (2, .int p2), (3, .int r1), (4, .int x5), (5, .int r11), (6, .int r13)]) hx hb d_Md_check_224 hl (k := 7) rfl (by rw [ex31]; rfl) (by decide) rfl (fun ls hl => ?_)
                    refine lv_goto (tgt := 173) hx hb d_Md_check_227 (by decide) ?_
                    exact ih2 x31 b30 Hf _ _  hP hD hS _ (lv_sub hl [1, 2, 3, 4, 5, 6, 7, 0] rfl)
                  refine lv_icmp_ge (tgt := 216) hx hb d_Md_check_200 (by decide) (fun c32 => ?_) (fun c32 => ?_)
                  · replace Hf := sq_ite_t Hf c32
                    refine lv_aload_n hx hb d_Md_check_216 rfl (lv_at hl 0 rfl) ?_
                    refine va_get (D := (dC, dI)) (ci := 10) (v := .ref qt_block) (C := R_Md) (T := F_Md) (N := 34) hx hb ht i_Md hown hK hP 0 rfl rfl 20 (by decide) (ht _ tb_1082) (fun _ h9 => h9) rfl d_Md_check_217 ?_
                    refine lv_iload hx hb d_Md_check_220 (lv_at hl 7 rfl) ?_
                    obtain ⟨hi33, Hf⟩ := sq_gi_e Hf
                    refine va_iald hx hb hK hP 1 0 rfl rfl hi33 d_Md_check_222 ?_
                    obtain ⟨x34, ex34, Hf⟩ := sq_bd_e Hf
                    refine sq_top ex34 ?_
                    exact Jk28 x34 Hf _ _  hP hD hS _ (lv_sub hl [0, 1, 2, 3, 4, 5, 6, 7] rfl)
                  · replace Hf := sq_ite_f Hf c32
                    refine lv_aload_n hx hb d_Md_check_203 rfl (lv_at hl 0 rfl) ?_
                    refine va_get (D := (dC, dI)) (ci := 10) (v := .ref qt_bytes) (C := R_Md) (T := F_Md) (N := 34) hx hb ht i_Md hown hK hP 0 rfl rfl 17 (by decide) (ht _ tb_1079) (fun _ h9 => h9) rfl d_Md_check_204 ?_
                    refine lv_iload hx hb d_Md_check_207 (lv_at hl 6 rfl) ?_
                    refine lv_iload hx hb d_Md_check_209 (lv_at hl 7 rfl) ?_
                    refine lv_iadd hx hb d_Md_check_211 ?_
                    obtain ⟨x35, ex35, Hf⟩ := sq_bd_e Hf
                    refine sq_top ex35 ?_
                    obtain ⟨hi36, Hf⟩ := sq_gi_e Hf
                    refine va_iald hx hb hK hP 3 2 rfl rfl hi36 d_Md_check_212 ?_
                    obtain ⟨x37, ex37, Hf⟩ := sq_bd_e Hf
                    refine sq_top ex37 ?_
                    refine lv_goto (tgt := 223) hx hb d_Md_check_213 (by decide) ?_
                    exact Jk28 x37 Hf _ _  hP hD hS _ (lv_sub hl [0, 1, 2, 3, 4, 5, 6, 7] rfl)
            exact L2 n0 (0 : Int32) b7 Hf _ _  hP hD hS _ (lv_sub hl [1, 2, 3, 4, 5, 6, 7, 0] rfl)
          have L3 : ∀ (m3 : Nat), ∀ (x38 : Int32) (b39 : Nat → Int32), fn_Md_check_L3 n0 r1 b3 r11 k18 m3 x38 b39 = some (nvt_block, nvt_generator, nvt_words) → ∀ (H : Heap) (locs : List Loc), va_P (dC, dI) cl_All (ww_Md_check qt qt_block qt_blocks qt_bytes qt_checkBytes qt_generator qt_words qt_data qt_modules qt_fixed qt_tells qt_segmentModes qt_segmentLengths qt_modes qt_takes qt_tried qt_values qt_system qt_solved qt_places qt_readBytes qt_readings ct_block ct_blocks ct_bytes ct_checkBytes ct_generator ct_words vt_thrown vt_length vt_version vt_side vt_made vt_segments vt_bits vt_filled vt_readLength vt_at vt_all vt_fault vt_good b39 vt_blocks vt_bytes vt_checkBytes b3 b7) H → va_D A (ww_Md_check qt qt_block qt_blocks qt_bytes qt_checkBytes qt_generator qt_words qt_data qt_modules qt_fixed qt_tells qt_segmentModes qt_segmentLengths qt_modes qt_takes qt_tried qt_values qt_system qt_solved qt_places qt_readBytes qt_readings ct_block ct_blocks ct_bytes ct_checkBytes ct_generator ct_words vt_thrown vt_length vt_version vt_side vt_made vt_segments vt_bits vt_filled vt_readLength vt_at vt_all vt_fault vt_good b39 vt_blocks vt_bytes vt_checkBytes b3 b7) → va_S A s.heap H locs → ∀ ls : Array Slot, lv_has ls 10 [(0, .ref qt), (1, .int p1), (2, .int p2), (3, .int r1), (4, .int x5), (5, .int r11), (6, .int r13), (7, .int x38)] → W p l e (headSpec w_Md_check rm_Md_check).room s m (([.ref qt, .int p1, .int p2] : List Value).toArray) below meth c H locs 0 0 (MQ below (qc_Md_check dC dI A qt qt_block qt_blocks qt_bytes qt_checkBytes qt_generator qt_words qt_data qt_modules qt_fixed qt_tells qt_segmentModes qt_segmentLengths qt_modes qt_takes qt_tried qt_values qt_system qt_solved qt_places qt_readBytes qt_readings ct_block ct_blocks ct_bytes ct_checkBytes ct_generator ct_words vt_thrown vt_length vt_version vt_side vt_made vt_segments vt_bits vt_filled vt_readLength vt_at vt_all vt_fault vt_good nvt_block vt_blocks vt_bytes vt_checkBytes nvt_generator nvt_words) (([.ref qt, .int p1, .int p2] : List Value).toArray) s 0 0 A) (F0 m 95 ls []) := by
            intro m3
            induction m3 with
            | zero => intro x38 b39 Hf; exact sq_none Hf
            | succ m3 ih3 =>
              intro x38 b39 Hf H locs  hP hD hS ls hl
              replace Hf := (fn_Md_check_L3_s n0 r1 b3 r11 k18 m3 x38 b39).symm.trans Hf
              refine lv_iload hx hb d_Md_check_95 (lv_at hl 7 rfl) ?_
              refine lv_iload hx hb d_Md_check_97 (lv_at hl 5 rfl) ?_
              refine lv_icmp_ge (tgt := 170) hx hb d_Md_check_99 (by decide) (fun c40 => ?_) (fun c40 => ?_)
              · replace Hf := sq_ite_t Hf c40
                exact Jk18 b39 Hf _ _  hP hD hS _ (lv_sub hl [0, 1, 2, 3, 4, 5, 6] rfl)
              · replace Hf := sq_ite_f Hf c40
                refine lv_aload_n hx hb d_Md_check_102 rfl (lv_at hl 0 rfl) ?_
                refine va_get (D := (dC, dI)) (ci := 10) (v := .ref qt_block) (C := R_Md) (T := F_Md) (N := 34) hx hb ht i_Md hown hK hP 0 rfl rfl 20 (by decide) (ht _ tb_1082) (fun _ h9 => h9) rfl d_Md_check_103 ?_
                refine lv_iload hx hb d_Md_check_106 (lv_at hl 7 rfl) ?_
                obtain ⟨hi41, Hf⟩ := sq_gi_e Hf
                refine va_iald hx hb hK hP 1 0 rfl rfl hi41 d_Md_check_108 ?_
                obtain ⟨x42, ex42, Hf⟩ := sq_bd_e Hf
                refine sq_top ex42 ?_
                refine lv_istore (lv' := [(8, .int x42), (0, .ref qt), (1, .int p1), (2, .int p2), (3, .int r1), (4, .int x5), (5, .int r11), (6, .int r13), (7, .int x38)]) hx hb d_Md_check_109 hl (by decide) rfl (fun ls hl => ?_)
                refine lv_iconst (v := (0 : Int32)) hx hb d_Md_check_111 (by decide) ?_
                refine lv_istore (lv' := [(9, .int (0 : Int32)), (8, .int x42), (0, .ref qt), (1, .int p1), (2, .int p2), (3, .int r1), (4, .int x5), (5, .int r11), (6, .int r13), (7, .int x38)]) hx hb d_Md_check_112 hl (by decide) rfl (fun ls hl => ?_)
                obtain ⟨k44, hk44, Hf⟩ := sq_jn_e Hf
                have Jk44 : ∀ (b43 : Nat → Int32), k44 b43 = some (nvt_block, nvt_generator, nvt_words) → ∀ (H : Heap) (locs : List Loc), va_P (dC, dI) cl_All (ww_Md_check qt qt_block qt_blocks qt_bytes qt_checkBytes qt_generator qt_words qt_data qt_modules qt_fixed qt_tells qt_segmentModes qt_segmentLengths qt_modes qt_takes qt_tried qt_values qt_system qt_solved qt_places qt_readBytes qt_readings ct_block ct_blocks ct_bytes ct_checkBytes ct_generator ct_words vt_thrown vt_length vt_version vt_side vt_made vt_segments vt_bits vt_filled vt_readLength vt_at vt_all vt_fault vt_good b43 vt_blocks vt_bytes vt_checkBytes b3 b7) H → va_D A (ww_Md_check qt qt_block qt_blocks qt_bytes qt_checkBytes qt_generator qt_words qt_data qt_modules qt_fixed qt_tells qt_segmentModes qt_segmentLengths qt_modes qt_takes qt_tried qt_values qt_system qt_solved qt_places qt_readBytes qt_readings ct_block ct_blocks ct_bytes ct_checkBytes ct_generator ct_words vt_thrown vt_length vt_version vt_side vt_made vt_segments vt_bits vt_filled vt_readLength vt_at vt_all vt_fault vt_good b43 vt_blocks vt_bytes vt_checkBytes b3 b7) → va_S A s.heap H locs → ∀ ls : Array Slot, lv_has ls 10 [(0, .ref qt), (1, .int p1), (2, .int p2), (3, .int r1), (4, .int x5), (5, .int r11), (6, .int r13), (7, .int x38)] → W p l e (headSpec w_Md_check rm_Md_check).room s m (([.ref qt, .int p1, .int p2] : List Value).toArray) below meth c H locs 0 0 (MQ below (qc_Md_check dC dI A qt qt_block qt_blocks qt_bytes qt_checkBytes qt_generator qt_words qt_data qt_modules qt_fixed qt_tells qt_segmentModes qt_segmentLengths qt_modes qt_takes qt_tried qt_values qt_system qt_solved qt_places qt_readBytes qt_readings ct_block ct_blocks ct_bytes ct_checkBytes ct_generator ct_words vt_thrown vt_length vt_version vt_side vt_made vt_segments vt_bits vt_filled vt_readLength vt_at vt_all vt_fault vt_good nvt_block vt_blocks vt_bytes vt_checkBytes nvt_generator nvt_words) (([.ref qt, .int p1, .int p2] : List Value).toArray) s 0 0 A) (F0 m 164 ls []) := by
                  intro b43 Hf H locs  hP hD hS ls hl
                  rw [hk44] at Hf
                  obtain ⟨x45, ex45, Hf⟩ := sq_bd_e Hf
                  refine lv_iinc (v := x45) (lv' := [(7, .int x45), (0, .ref qt), (1, .int p1), (2, .int p2), (3, .int r1), (4, .int x5), (5, .int r11), (6, .int r13)]) hx hb d_Md_check_164 hl (k := 7) rfl (by rw [ex45]; rfl) (by decide) rfl (fun ls hl => ?_)
                  refine lv_goto (tgt := 95) hx hb d_Md_check_167 (by decide) ?_
                  exact ih3 x45 b43 Hf _ _  hP hD hS _ (lv_sub hl [1, 2, 3, 4, 5, 6, 7, 0] rfl)
                have L4 : ∀ (m4 : Nat), ∀ (x46 : Int32) (b47 : Nat → Int32), fn_Md_check_L4 n0 r1 b3 x38 x42 k44 m4 x46 b47 = some (nvt_block, nvt_generator, nvt_words) → ∀ (H : Heap) (locs : List Loc), va_P (dC, dI) cl_All (ww_Md_check qt qt_block qt_blocks qt_bytes qt_checkBytes qt_generator qt_words qt_data qt_modules qt_fixed qt_tells qt_segmentModes qt_segmentLengths qt_modes qt_takes qt_tried qt_values qt_system qt_solved qt_places qt_readBytes qt_readings ct_block ct_blocks ct_bytes ct_checkBytes ct_generator ct_words vt_thrown vt_length vt_version vt_side vt_made vt_segments vt_bits vt_filled vt_readLength vt_at vt_all vt_fault vt_good b47 vt_blocks vt_bytes vt_checkBytes b3 b7) H → va_D A (ww_Md_check qt qt_block qt_blocks qt_bytes qt_checkBytes qt_generator qt_words qt_data qt_modules qt_fixed qt_tells qt_segmentModes qt_segmentLengths qt_modes qt_takes qt_tried qt_values qt_system qt_solved qt_places qt_readBytes qt_readings ct_block ct_blocks ct_bytes ct_checkBytes ct_generator ct_words vt_thrown vt_length vt_version vt_side vt_made vt_segments vt_bits vt_filled vt_readLength vt_at vt_all vt_fault vt_good b47 vt_blocks vt_bytes vt_checkBytes b3 b7) → va_S A s.heap H locs → ∀ ls : Array Slot, lv_has ls 10 [(0, .ref qt), (1, .int p1), (2, .int p2), (3, .int r1), (4, .int x5), (5, .int r11), (6, .int r13), (7, .int x38), (8, .int x42), (9, .int x46)] → W p l e (headSpec w_Md_check rm_Md_check).room s m (([.ref qt, .int p1, .int p2] : List Value).toArray) below meth c H locs 0 0 (MQ below (qc_Md_check dC dI A qt qt_block qt_blocks qt_bytes qt_checkBytes qt_generator qt_words qt_data qt_modules qt_fixed qt_tells qt_segmentModes qt_segmentLengths qt_modes qt_takes qt_tried qt_values qt_system qt_solved qt_places qt_readBytes qt_readings ct_block ct_blocks ct_bytes ct_checkBytes ct_generator ct_words vt_thrown vt_length vt_version vt_side vt_made vt_segments vt_bits vt_filled vt_readLength vt_at vt_all vt_fault vt_good nvt_block vt_blocks vt_bytes vt_checkBytes nvt_generator nvt_words) (([.ref qt, .int p1, .int p2] : List Value).toArray) s 0 0 A) (F0 m 114 ls []) := by
                  intro m4
                  induction m4 with
                  | zero => intro x46 b47 Hf; exact sq_none Hf
                  | succ m4 ih4 =>
                    intro x46 b47 Hf H locs  hP hD hS ls hl
                    replace Hf := (fn_Md_check_L4_s n0 r1 b3 x38 x42 k44 m4 x46 b47).symm.trans Hf
                    refine lv_iload hx hb d_Md_check_114 (lv_at hl 9 rfl) ?_
                    refine lv_iload_n hx hb d_Md_check_116 rfl (lv_at hl 3 rfl) ?_
                    refine lv_icmp_gt (tgt := 164) hx hb d_Md_check_117 (by decide) (fun c48 => ?_) (fun c48 => ?_)
                    · replace Hf := sq_ite_t Hf c48
                      exact Jk44 b47 Hf _ _  hP hD hS _ (lv_sub hl [0, 1, 2, 3, 4, 5, 6, 7] rfl)
                    · replace Hf := sq_ite_f Hf c48
                      refine lv_iload hx hb d_Md_check_120 (lv_at hl 8 rfl) ?_
                      refine lv_if_eq (tgt := 164) hx hb d_Md_check_122 (by decide) (fun c49 => ?_) (fun c49 => ?_)
                      · replace Hf := sq_ite_t Hf c49
                        exact Jk44 b47 Hf _ _  hP hD hS _ (lv_sub hl [0, 1, 2, 3, 4, 5, 6, 7] rfl)
                      · replace Hf := sq_ite_f Hf c49
                        refine lv_aload_n hx hb d_Md_check_125 rfl (lv_at hl 0 rfl) ?_
                        refine va_get (D := (dC, dI)) (ci := 10) (v := .ref qt_block) (C := R_Md) (T := F_Md) (N := 34) hx hb ht i_Md hown hK hP 0 rfl rfl 20 (by decide) (ht _ tb_1082) (fun _ h9 => h9) rfl d_Md_check_126 ?_
                        refine lv_iload hx hb d_Md_check_129 (lv_at hl 7 rfl) ?_
                        refine lv_iload hx hb d_Md_check_131 (lv_at hl 9 rfl) ?_
                        refine lv_iadd hx hb d_Md_check_133 ?_
                        refine lv_aload_n hx hb d_Md_check_134 rfl (lv_at hl 0 rfl) ?_
                        refine va_get (D := (dC, dI)) (ci := 10) (v := .ref qt_block) (C := R_Md) (T := F_Md) (N := 34) hx hb ht i_Md hown hK hP 0 rfl rfl 20 (by decide) (ht _ tb_1082) (fun _ h9 => h9) rfl d_Md_check_135 ?_
                        refine lv_iload hx hb d_Md_check_138 (lv_at hl 7 rfl) ?_
                        refine lv_iload hx hb d_Md_check_140 (lv_at hl 9 rfl) ?_
                        refine lv_iadd hx hb d_Md_check_142 ?_
                        obtain ⟨x50, ex50, Hf⟩ := sq_bd_e Hf
                        refine sq_top ex50 ?_
                        obtain ⟨hi51, Hf⟩ := sq_gi_e Hf
                        refine va_iald hx hb hK hP 1 0 rfl rfl hi51 d_Md_check_143 ?_
                        obtain ⟨x52, ex52, Hf⟩ := sq_bd_e Hf
                        refine sq_top ex52 ?_
                        refine lv_iload hx hb d_Md_check_144 (lv_at hl 8 rfl) ?_
                        refine lv_aload_n hx hb d_Md_check_146 rfl (lv_at hl 0 rfl) ?_
                        refine va_get (D := (dC, dI)) (ci := 10) (v := .ref qt_generator) (C := R_Md) (T := F_Md) (N := 34) hx hb ht i_Md hown hK hP 0 rfl rfl 26 (by decide) (ht _ tb_1088) (fun _ h9 => h9) rfl d_Md_check_147 ?_
                        refine lv_iload hx hb d_Md_check_150 (lv_at hl 9 rfl) ?_
                        obtain ⟨hi53, Hf⟩ := sq_gi_e Hf
                        refine va_iald hx hb hK hP 5 4 rfl rfl hi53 d_Md_check_152 ?_
                        obtain ⟨x54, ex54, Hf⟩ := sq_bd_e Hf
                        refine sq_top ex54 ?_
                        obtain ⟨r55, hc56, Hf⟩ := sq_cb1_e Hf
                        refine sq_roi (va_runS (As := [.int x42, .int x54]) (rest := [.int x52, .int (x38 + x46), .ref qt_block]) ⟨hx, hb, hml, hown, ht⟩ (kt_Md_times l dC dI x42 x54 n0 r55 hc56) (va_cwS 2 ht (sq_gS tb_1270 tb_1271 tb_11 tb_1272) rfl rfl rfl (by decide +kernel) ⟨Nat.le_of_ble_eq_true rfl, Nat.le_of_ble_eq_true rfl⟩) (sq_roS (hP.sub (ws' := ([] : va_W)) [] rfl) (hK.sub (tys' := []) [] rfl)) rfl rfl hl.1 rfl (lv_room (Nat.le_of_ble_eq_true rfl)) d_Md_check_153 ⟨Nat.le_of_ble_eq_true rfl, Nat.le_of_ble_eq_true rfl⟩) ?_
                        refine lv_ixor hx hb d_Md_check_156 ?_
                        obtain ⟨x57, ex57, Hf⟩ := sq_bd_e Hf
                        refine sq_top ex57 ?_
                        obtain ⟨x59, ex59, Hf⟩ := sq_bd_e Hf
                        refine sq_top2 ex59 ?_
                        obtain ⟨hi58, Hf⟩ := sq_gi_e Hf
                        obtain ⟨b60, eb60, Hf⟩ := sq_bd_e Hf
                        refine va_iast hx hb hK hP hD hS 1 0 rfl rfl hi58 d_Md_check_157 (fun H locs hP hD hS => ?_)
                        rw [← eb60] at hP hD
                        replace hP : va_P (dC, dI) cl_All (ww_Md_check qt qt_block qt_blocks qt_bytes qt_checkBytes qt_generator qt_words qt_data qt_modules qt_fixed qt_tells qt_segmentModes qt_segmentLengths qt_modes qt_takes qt_tried qt_values qt_system qt_solved qt_places qt_readBytes qt_readings ct_block ct_blocks ct_bytes ct_checkBytes ct_generator ct_words vt_thrown vt_length vt_version vt_side vt_made vt_segments vt_bits vt_filled vt_readLength vt_at vt_all vt_fault vt_good b60 vt_blocks vt_bytes vt_checkBytes b3 b7) H := hP
                        replace hD : va_D A (ww_Md_check qt qt_block qt_blocks qt_bytes qt_checkBytes qt_generator qt_words qt_data qt_modules qt_fixed qt_tells qt_segmentModes qt_segmentLengths qt_modes qt_takes qt_tried qt_values qt_system qt_solved qt_places qt_readBytes qt_readings ct_block ct_blocks ct_bytes ct_checkBytes ct_generator ct_words vt_thrown vt_length vt_version vt_side vt_made vt_segments vt_bits vt_filled vt_readLength vt_at vt_all vt_fault vt_good b60 vt_blocks vt_bytes vt_checkBytes b3 b7) := hD
                        obtain ⟨x61, ex61, Hf⟩ := sq_bd_e Hf
                        refine lv_iinc (v := x61) (lv' := [(9, .int x61), (0, .ref qt), (1, .int p1), (2, .int p2), (3, .int r1), (4, .int x5), (5, .int r11), (6, .int r13), (7, .int x38), (8, .int x42)]) hx hb d_Md_check_158 hl (k := 9) rfl (by rw [ex61]; rfl) (by decide) rfl (fun ls hl => ?_)
                        refine lv_goto (tgt := 114) hx hb d_Md_check_161 (by decide) ?_
                        exact ih4 x61 b60 Hf _ _  hP hD hS _ (lv_sub hl [1, 2, 3, 4, 5, 6, 7, 8, 9, 0] rfl)
                exact L4 n0 (0 : Int32) b39 Hf _ _  hP hD hS _ (lv_sub hl [2, 3, 4, 5, 6, 7, 8, 9, 1, 0] rfl)
          exact L3 n0 (0 : Int32) b15 Hf _ _  hP hD hS _ (lv_sub hl [1, 2, 3, 4, 5, 6, 7, 0] rfl)
        have L5 : ∀ (m5 : Nat), ∀ (x62 : Int32) (b63 : Nat → Int32), fn_Md_check_L5 vt_bytes r1 r11 r13 k16 m5 x62 b63 = some (nvt_block, nvt_generator, nvt_words) → ∀ (H : Heap) (locs : List Loc), va_P (dC, dI) cl_All (ww_Md_check qt qt_block qt_blocks qt_bytes qt_checkBytes qt_generator qt_words qt_data qt_modules qt_fixed qt_tells qt_segmentModes qt_segmentLengths qt_modes qt_takes qt_tried qt_values qt_system qt_solved qt_places qt_readBytes qt_readings ct_block ct_blocks ct_bytes ct_checkBytes ct_generator ct_words vt_thrown vt_length vt_version vt_side vt_made vt_segments vt_bits vt_filled vt_readLength vt_at vt_all vt_fault vt_good b63 vt_blocks vt_bytes vt_checkBytes b3 b7) H → va_D A (ww_Md_check qt qt_block qt_blocks qt_bytes qt_checkBytes qt_generator qt_words qt_data qt_modules qt_fixed qt_tells qt_segmentModes qt_segmentLengths qt_modes qt_takes qt_tried qt_values qt_system qt_solved qt_places qt_readBytes qt_readings ct_block ct_blocks ct_bytes ct_checkBytes ct_generator ct_words vt_thrown vt_length vt_version vt_side vt_made vt_segments vt_bits vt_filled vt_readLength vt_at vt_all vt_fault vt_good b63 vt_blocks vt_bytes vt_checkBytes b3 b7) → va_S A s.heap H locs → ∀ ls : Array Slot, lv_has ls 10 [(0, .ref qt), (1, .int p1), (2, .int p2), (3, .int r1), (4, .int x5), (5, .int r11), (6, .int r13), (7, .int x62)] → W p l e (headSpec w_Md_check rm_Md_check).room s m (([.ref qt, .int p1, .int p2] : List Value).toArray) below meth c H locs 0 0 (MQ below (qc_Md_check dC dI A qt qt_block qt_blocks qt_bytes qt_checkBytes qt_generator qt_words qt_data qt_modules qt_fixed qt_tells qt_segmentModes qt_segmentLengths qt_modes qt_takes qt_tried qt_values qt_system qt_solved qt_places qt_readBytes qt_readings ct_block ct_blocks ct_bytes ct_checkBytes ct_generator ct_words vt_thrown vt_length vt_version vt_side vt_made vt_segments vt_bits vt_filled vt_readLength vt_at vt_all vt_fault vt_good nvt_block vt_blocks vt_bytes vt_checkBytes nvt_generator nvt_words) (([.ref qt, .int p1, .int p2] : List Value).toArray) s 0 0 A) (F0 m 49 ls []) := by
          intro m5
          induction m5 with
          | zero => intro x62 b63 Hf; exact sq_none Hf
          | succ m5 ih5 =>
            intro x62 b63 Hf H locs  hP hD hS ls hl
            replace Hf := (fn_Md_check_L5_s vt_bytes r1 r11 r13 k16 m5 x62 b63).symm.trans Hf
            refine lv_iload hx hb d_Md_check_49 (lv_at hl 7 rfl) ?_
            refine lv_iload hx hb d_Md_check_51 (lv_at hl 5 rfl) ?_
            refine lv_iload_n hx hb d_Md_check_53 rfl (lv_at hl 3 rfl) ?_
            refine lv_iadd hx hb d_Md_check_54 ?_
            refine lv_icmp_ge (tgt := 92) hx hb d_Md_check_55 (by decide) (fun c64 => ?_) (fun c64 => ?_)
            · replace Hf := sq_ite_t Hf c64
              exact Jk16 b63 Hf _ _  hP hD hS _ (lv_sub hl [0, 1, 2, 3, 4, 5, 6] rfl)
            · replace Hf := sq_ite_f Hf c64
              refine lv_aload_n hx hb d_Md_check_58 rfl (lv_at hl 0 rfl) ?_
              refine va_get (D := (dC, dI)) (ci := 10) (v := .ref qt_block) (C := R_Md) (T := F_Md) (N := 34) hx hb ht i_Md hown hK hP 0 rfl rfl 20 (by decide) (ht _ tb_1082) (fun _ h9 => h9) rfl d_Md_check_59 ?_
              refine lv_iload hx hb d_Md_check_62 (lv_at hl 7 rfl) ?_
              refine lv_iload hx hb d_Md_check_64 (lv_at hl 7 rfl) ?_
              refine lv_iload hx hb d_Md_check_66 (lv_at hl 5 rfl) ?_
              obtain ⟨k66, hk66, Hf⟩ := sq_jn_e Hf
              have Jk66 : ∀ (x65 : Int32), k66 x65 = some (nvt_block, nvt_generator, nvt_words) → ∀ (H : Heap) (locs : List Loc), va_P (dC, dI) cl_All (ww_Md_check qt qt_block qt_blocks qt_bytes qt_checkBytes qt_generator qt_words qt_data qt_modules qt_fixed qt_tells qt_segmentModes qt_segmentLengths qt_modes qt_takes qt_tried qt_values qt_system qt_solved qt_places qt_readBytes qt_readings ct_block ct_blocks ct_bytes ct_checkBytes ct_generator ct_words vt_thrown vt_length vt_version vt_side vt_made vt_segments vt_bits vt_filled vt_readLength vt_at vt_all vt_fault vt_good b63 vt_blocks vt_bytes vt_checkBytes b3 b7) H → va_D A (ww_Md_check qt qt_block qt_blocks qt_bytes qt_checkBytes qt_generator qt_words qt_data qt_modules qt_fixed qt_tells qt_segmentModes qt_segmentLengths qt_modes qt_takes qt_tried qt_values qt_system qt_solved qt_places qt_readBytes qt_readings ct_block ct_blocks ct_bytes ct_checkBytes ct_generator ct_words vt_thrown vt_length vt_version vt_side vt_made vt_segments vt_bits vt_filled vt_readLength vt_at vt_all vt_fault vt_good b63 vt_blocks vt_bytes vt_checkBytes b3 b7) → va_S A s.heap H locs → ∀ ls : Array Slot, lv_has ls 10 [(0, .ref qt), (1, .int p1), (2, .int p2), (3, .int r1), (4, .int x5), (5, .int r11), (6, .int r13), (7, .int x62)] → W p l e (headSpec w_Md_check rm_Md_check).room s m (([.ref qt, .int p1, .int p2] : List Value).toArray) below meth c H locs 0 0 (MQ below (qc_Md_check dC dI A qt qt_block qt_blocks qt_bytes qt_checkBytes qt_generator qt_words qt_data qt_modules qt_fixed qt_tells qt_segmentModes qt_segmentLengths qt_modes qt_takes qt_tried qt_values qt_system qt_solved qt_places qt_readBytes qt_readings ct_block ct_blocks ct_bytes ct_checkBytes ct_generator ct_words vt_thrown vt_length vt_version vt_side vt_made vt_segments vt_bits vt_filled vt_readLength vt_at vt_all vt_fault vt_good nvt_block vt_blocks vt_bytes vt_checkBytes nvt_generator nvt_words) (([.ref qt, .int p1, .int p2] : List Value).toArray) s 0 0 A) (F0 m 85 ls [.int x65, .int x62, .ref qt_block]) := by
                intro x65 Hf H locs  hP hD hS ls hl
                rw [hk66] at Hf
                obtain ⟨hi67, Hf⟩ := sq_gi_e Hf
                obtain ⟨b68, eb68, Hf⟩ := sq_bd_e Hf
                refine va_iast hx hb hK hP hD hS 1 0 rfl rfl hi67 d_Md_check_85 (fun H locs hP hD hS => ?_)
                rw [← eb68] at hP hD
                replace hP : va_P (dC, dI) cl_All (ww_Md_check qt qt_block qt_blocks qt_bytes qt_checkBytes qt_generator qt_words qt_data qt_modules qt_fixed qt_tells qt_segmentModes qt_segmentLengths qt_modes qt_takes qt_tried qt_values qt_system qt_solved qt_places qt_readBytes qt_readings ct_block ct_blocks ct_bytes ct_checkBytes ct_generator ct_words vt_thrown vt_length vt_version vt_side vt_made vt_segments vt_bits vt_filled vt_readLength vt_at vt_all vt_fault vt_good b68 vt_blocks vt_bytes vt_checkBytes b3 b7) H := hP
                replace hD : va_D A (ww_Md_check qt qt_block qt_blocks qt_bytes qt_checkBytes qt_generator qt_words qt_data qt_modules qt_fixed qt_tells qt_segmentModes qt_segmentLengths qt_modes qt_takes qt_tried qt_values qt_system qt_solved qt_places qt_readBytes qt_readings ct_block ct_blocks ct_bytes ct_checkBytes ct_generator ct_words vt_thrown vt_length vt_version vt_side vt_made vt_segments vt_bits vt_filled vt_readLength vt_at vt_all vt_fault vt_good b68 vt_blocks vt_bytes vt_checkBytes b3 b7) := hD
                obtain ⟨x69, ex69, Hf⟩ := sq_bd_e Hf
                refine lv_iinc (v := x69) (lv' := [(7, .int x69), (0, .ref qt), (1, .int p1), (2, .int p2), (3, .int r1), (4, .int x5), (5, .int r11), (6, .int r13)]) hx hb d_Md_check_86 hl (k := 7) rfl (by rw [ex69]; rfl) (by decide) rfl (fun ls hl => ?_)
                refine lv_goto (tgt := 49) hx hb d_Md_check_89 (by decide) ?_
                exact ih5 x69 b68 Hf _ _  hP hD hS _ (lv_sub hl [1, 2, 3, 4, 5, 6, 7, 0] rfl)
              refine lv_icmp_ge (tgt := 84) hx hb d_Md_check_68 (by decide) (fun c70 => ?_) (fun c70 => ?_)
              · replace Hf := sq_ite_t Hf c70
                refine lv_iconst (v := (0 : Int32)) hx hb d_Md_check_84 (by decide) ?_
                exact Jk66 (0 : Int32) Hf _ _  hP hD hS _ (lv_sub hl [0, 1, 2, 3, 4, 5, 6, 7] rfl)
              · replace Hf := sq_ite_f Hf c70
                refine lv_aload_n hx hb d_Md_check_71 rfl (lv_at hl 0 rfl) ?_
                refine va_get (D := (dC, dI)) (ci := 10) (v := .ref qt_bytes) (C := R_Md) (T := F_Md) (N := 34) hx hb ht i_Md hown hK hP 0 rfl rfl 17 (by decide) (ht _ tb_1079) (fun _ h9 => h9) rfl d_Md_check_72 ?_
                refine lv_iload hx hb d_Md_check_75 (lv_at hl 6 rfl) ?_
                refine lv_iload hx hb d_Md_check_77 (lv_at hl 7 rfl) ?_
                refine lv_iadd hx hb d_Md_check_79 ?_
                obtain ⟨x71, ex71, Hf⟩ := sq_bd_e Hf
                refine sq_top ex71 ?_
                obtain ⟨hi72, Hf⟩ := sq_gi_e Hf
                refine va_iald hx hb hK hP 3 2 rfl rfl hi72 d_Md_check_80 ?_
                obtain ⟨x73, ex73, Hf⟩ := sq_bd_e Hf
                refine sq_top ex73 ?_
                refine lv_goto (tgt := 85) hx hb d_Md_check_81 (by decide) ?_
                exact Jk66 x73 Hf _ _  hP hD hS _ (lv_sub hl [0, 1, 2, 3, 4, 5, 6, 7] rfl)
        exact L5 n0 (0 : Int32) b6 Hf _ _  hP hD hS _ (lv_sub hl [3, 4, 5, 6, 7, 2, 1, 0] rfl)
  exact L1 n0 (0 : Int32) vt_block vt_words Hf _ _  hP hD hS _ (lv_sub hl [2, 3, 4, 1, 0] rfl)

def fn_Md_sideOf (p1 : Int32) : Option (Int32) :=
  some ((17 : Int32) + ((4 : Int32) * p1))
def rm_Md_sideOf : Room := { frames := 0, cells := 0, slots := 0, locals := 0 }
abbrev qc_Md_sideOf (r0 : Int32) : Array Value → State → Outcome → State → Prop := vp_Si (fun r => r = r0)

set_option maxHeartbeats 4000000 in
set_option maxRecDepth 100000 in
theorem kt_Md_sideOf (l : Launch) (dC : Nat → ClassId) (dI : Nat → Nat → Nat) (p1 : Int32) (r0 : Int32) (Hf : fn_Md_sideOf p1 = some r0) : Met l y_Md_sideOf w_Md_sideOf rm_Md_sideOf (va_Pc [.int p1] (fun U => va_P (dC, dI) cl_All ([] : va_W) U.heap ∧ va_K (dC, dI) cl_All [] U)) (qc_Md_sideOf r0) 0 0 (fun _ => False) := by
  refine Met.ofW (cc := prog_14_method_7_code) (maxL := 1) (ret := (some .int)) (by decide) rfl ?_
  intro p e s m args below meth c s₁ B hml hv
  obtain ⟨rfl, hP, hK⟩ := hv
  have hx := B.exec; have hb := B.bytes; have hr := B.returns; have hlocks := B.notSynchronized
  have ht : ∀ w ∈ lw_g, w.before _ s = true := fun w h => atoms_spec (ws := w_Md_sideOf) B.pre w (List.mem_cons_of_mem _ h)
  have hown : s.vm.findClass "SquareSymbolsModel" = some m.cls := findClass_of_methodNamed B.named
  have hl := lv_entry ([.int p1]) (n := 1) (Nat.le_of_ble_eq_true rfl)
  rw [lg_entry_eq]
  generalize (lg_sl ([.int p1]) ++ List.replicate (1 - (lg_sl ([.int p1])).length) Slot.unset).toArray = ls at hl ⊢
  have hl : lv_has ls 1 [(0, .int p1)] := hl
  refine lv_bipush (v := (17 : Int32)) hx hb d_Md_sideOf_0 (by decide) ?_
  refine lv_iconst (v := (4 : Int32)) hx hb d_Md_sideOf_2 (by decide) ?_
  refine lv_iload_n hx hb d_Md_sideOf_3 rfl (lv_at hl 0 rfl) ?_
  refine lv_imul hx hb d_Md_sideOf_4 ?_
  refine lv_iadd hx hb d_Md_sideOf_5 ?_
  have er := Option.some.inj Hf
  exact W.iret hx hb hr (fun t ht hW => ⟨_, rfl, er, ht⟩) (fun q h => by cases h) d_Md_sideOf_6

def fn_Md_greater (p1 : Int32) (p2 : Int32) : Option (Int32) :=
  sq_jn (fun (x1 : Int32) => sq_jn (fun (x3 : Int32) => if x1 ≤ x3 then (some (x3)) else (some (x1))) fun k4 => if 0 ≤ p2 then (k4 p2) else (k4 (-p2))) fun k2 => if 0 ≤ p1 then (k2 p1) else (k2 (-p1))
def rm_Md_greater : Room := { frames := 0, cells := 0, slots := 0, locals := 0 }
abbrev qc_Md_greater (r0 : Int32) : Array Value → State → Outcome → State → Prop := vp_Si (fun r => r = r0)

set_option maxHeartbeats 4000000 in
set_option maxRecDepth 100000 in
theorem kt_Md_greater (l : Launch) (dC : Nat → ClassId) (dI : Nat → Nat → Nat) (p1 : Int32) (p2 : Int32) (r0 : Int32) (Hf : fn_Md_greater p1 p2 = some r0) : Met l y_Md_greater w_Md_greater rm_Md_greater (va_Pc [.int p1, .int p2] (fun U => va_P (dC, dI) cl_All ([] : va_W) U.heap ∧ va_K (dC, dI) cl_All [] U)) (qc_Md_greater r0) 0 0 (fun _ => False) := by
  refine Met.ofW (cc := prog_14_method_35_code) (maxL := 4) (ret := (some .int)) (by decide) rfl ?_
  intro p e s m args below meth c s₁ B hml hv
  obtain ⟨rfl, hP, hK⟩ := hv
  have hx := B.exec; have hb := B.bytes; have hr := B.returns; have hlocks := B.notSynchronized
  have ht : ∀ w ∈ lw_g, w.before _ s = true := fun w h => atoms_spec (ws := w_Md_greater) B.pre w (List.mem_cons_of_mem _ h)
  have hown : s.vm.findClass "SquareSymbolsModel" = some m.cls := findClass_of_methodNamed B.named
  have hl := lv_entry ([.int p1, .int p2]) (n := 4) (Nat.le_of_ble_eq_true rfl)
  rw [lg_entry_eq]
  generalize (lg_sl ([.int p1, .int p2]) ++ List.replicate (4 - (lg_sl ([.int p1, .int p2])).length) Slot.unset).toArray = ls at hl ⊢
  have hl : lv_has ls 4 [(0, .int p1), (1, .int p2)] := hl
  refine lv_iload_n hx hb d_Md_greater_0 rfl (lv_at hl 0 rfl) ?_
  obtain ⟨k2, hk2, Hf⟩ := sq_jn_e Hf
  have Jk2 : ∀ (x1 : Int32), k2 x1 = some r0 → ∀ ls : Array Slot, lv_has ls 4 [(1, .int p2)] → W p l e (headSpec w_Md_greater rm_Md_greater).room s m (([.int p1, .int p2] : List Value).toArray) below meth c s.heap [] 0 0 (MQ below (qc_Md_greater r0) (([.int p1, .int p2] : List Value).toArray) s 0 0 (fun _ => False)) (F0 m 10 ls [.int x1]) := by
    intro x1 Hf ls hl
    rw [hk2] at Hf
    refine lv_istore_n (lv' := [(2, .int x1), (1, .int p2)]) hx hb d_Md_greater_10 rfl hl (by decide) rfl (fun ls hl => ?_)
    refine lv_iload_n hx hb d_Md_greater_11 rfl (lv_at hl 1 rfl) ?_
    obtain ⟨k4, hk4, Hf⟩ := sq_jn_e Hf
    have Jk4 : ∀ (x3 : Int32), k4 x3 = some r0 → ∀ ls : Array Slot, lv_has ls 4 [(2, .int x1)] → W p l e (headSpec w_Md_greater rm_Md_greater).room s m (([.int p1, .int p2] : List Value).toArray) below meth c s.heap [] 0 0 (MQ below (qc_Md_greater r0) (([.int p1, .int p2] : List Value).toArray) s 0 0 (fun _ => False)) (F0 m 21 ls [.int x3]) := by
      intro x3 Hf ls hl
      rw [hk4] at Hf
      refine lv_istore_n (lv' := [(3, .int x3), (2, .int x1)]) hx hb d_Md_greater_21 rfl hl (by decide) rfl (fun ls hl => ?_)
      refine lv_iload_n hx hb d_Md_greater_22 rfl (lv_at hl 1 rfl) ?_
      refine lv_iload_n hx hb d_Md_greater_23 rfl (lv_at hl 0 rfl) ?_
      refine lv_icmp_le (tgt := 31) hx hb d_Md_greater_24 (by decide) (fun c5 => ?_) (fun c5 => ?_)
      · replace Hf := sq_ite_t Hf c5
        refine lv_iload_n hx hb d_Md_greater_31 rfl (lv_at hl 0 rfl) ?_
        have er := Option.some.inj Hf
        exact W.iret hx hb hr (fun t ht hW => ⟨_, rfl, er, ht⟩) (fun q h => by cases h) d_Md_greater_32
      · replace Hf := sq_ite_f Hf c5
        refine lv_iload_n hx hb d_Md_greater_27 rfl (lv_at hl 1 rfl) ?_
        refine lv_goto (tgt := 32) hx hb d_Md_greater_28 (by decide) ?_
        have er := Option.some.inj Hf
        exact W.iret hx hb hr (fun t ht hW => ⟨_, rfl, er, ht⟩) (fun q h => by cases h) d_Md_greater_32
    refine lv_if_ge (tgt := 20) hx hb d_Md_greater_12 (by decide) (fun c6 => ?_) (fun c6 => ?_)
    · replace Hf := sq_ite_t Hf c6
      refine lv_iload_n hx hb d_Md_greater_20 rfl (lv_at hl 1 rfl) ?_
      exact Jk4 p2 Hf _ (lv_sub hl [0] rfl)
    · replace Hf := sq_ite_f Hf c6
      refine lv_iload_n hx hb d_Md_greater_15 rfl (lv_at hl 1 rfl) ?_
      refine lv_ineg hx hb d_Md_greater_16 ?_
      refine lv_goto (tgt := 21) hx hb d_Md_greater_17 (by decide) ?_
      exact Jk4 (-p2) Hf _ (lv_sub hl [0] rfl)
  refine lv_if_ge (tgt := 9) hx hb d_Md_greater_1 (by decide) (fun c7 => ?_) (fun c7 => ?_)
  · replace Hf := sq_ite_t Hf c7
    refine lv_iload_n hx hb d_Md_greater_9 rfl (lv_at hl 0 rfl) ?_
    exact Jk2 p1 Hf _ (lv_sub hl [1] rfl)
  · replace Hf := sq_ite_f Hf c7
    refine lv_iload_n hx hb d_Md_greater_4 rfl (lv_at hl 0 rfl) ?_
    refine lv_ineg hx hb d_Md_greater_5 ?_
    refine lv_goto (tgt := 10) hx hb d_Md_greater_6 (by decide) ?_
    exact Jk2 (-p1) Hf _ (lv_sub hl [1] rfl)

def fn_Md_moduleAt (p1 : Int32) (p2 : Int32) : Option (Int32) :=
  some (p1 + ((177 : Int32) * p2))
abbrev ww_Md_moduleAt (qt qt_checkBytes qt_blocks qt_data qt_modules qt_fixed qt_tells qt_segmentModes qt_segmentLengths qt_modes qt_takes qt_bytes qt_words qt_block qt_tried qt_values qt_system qt_solved qt_places qt_generator qt_readBytes qt_readings : Nat) (vt_thrown : Int32) (vt_length : Int32) (vt_version : Int32) (vt_side : Int32) (vt_made : Int32) (vt_segments : Int32) (vt_bits : Int32) (vt_filled : Int32) (vt_readLength : Int32) (vt_at : Int32) (vt_all : Int32) (vt_fault : Int32) (vt_good : Int32) : va_W := [(qt, .inr (10, [.int vt_thrown, .ref qt_checkBytes, .ref qt_blocks, .ref qt_data, .int vt_length, .ref qt_modules, .ref qt_fixed, .int vt_version, .int vt_side, .int vt_made, .ref qt_tells, .ref qt_segmentModes, .ref qt_segmentLengths, .int vt_segments, .ref qt_modes, .ref qt_takes, .int vt_bits, .ref qt_bytes, .ref qt_words, .int vt_filled, .ref qt_block, .ref qt_tried, .ref qt_values, .ref qt_system, .ref qt_solved, .ref qt_places, .ref qt_generator, .ref qt_readBytes, .int vt_readLength, .int vt_at, .int vt_all, .int vt_fault, .int vt_good, .ref qt_readings]))]

def rm_Md_moduleAt : Room := { frames := 0, cells := 0, slots := 0, locals := 0 }
abbrev qc_Md_moduleAt (r0 : Int32) : Array Value → State → Outcome → State → Prop := vp_Si (fun r => r = r0)

set_option maxHeartbeats 4000000 in
set_option maxRecDepth 100000 in
theorem kt_Md_moduleAt (l : Launch) (dC : Nat → ClassId) (dI : Nat → Nat → Nat) (qt qt_checkBytes qt_blocks qt_data qt_modules qt_fixed qt_tells qt_segmentModes qt_segmentLengths qt_modes qt_takes qt_bytes qt_words qt_block qt_tried qt_values qt_system qt_solved qt_places qt_generator qt_readBytes qt_readings : Nat) (vt_thrown : Int32) (vt_length : Int32) (vt_version : Int32) (vt_side : Int32) (vt_made : Int32) (vt_segments : Int32) (vt_bits : Int32) (vt_filled : Int32) (vt_readLength : Int32) (vt_at : Int32) (vt_all : Int32) (vt_fault : Int32) (vt_good : Int32) (p1 : Int32) (p2 : Int32) (r0 : Int32) (Hf : fn_Md_moduleAt p1 p2 = some r0) : Met l y_Md_moduleAt w_Md_moduleAt rm_Md_moduleAt (va_Pc [.ref qt, .int p1, .int p2] (fun U => va_P (dC, dI) cl_All (ww_Md_moduleAt qt qt_checkBytes qt_blocks qt_data qt_modules qt_fixed qt_tells qt_segmentModes qt_segmentLengths qt_modes qt_takes qt_bytes qt_words qt_block qt_tried qt_values qt_system qt_solved qt_places qt_generator qt_readBytes qt_readings vt_thrown vt_length vt_version vt_side vt_made vt_segments vt_bits vt_filled vt_readLength vt_at vt_all vt_fault vt_good) U.heap ∧ va_K (dC, dI) cl_All [] U)) (qc_Md_moduleAt r0) 0 0 (fun _ => False) := by
  refine Met.ofW (cc := prog_14_method_33_code) (maxL := 3) (ret := (some .int)) (by decide) rfl ?_
  intro p e s m args below meth c s₁ B hml hv
  obtain ⟨rfl, hP, hK⟩ := hv
  have hx := B.exec; have hb := B.bytes; have hr := B.returns; have hlocks := B.notSynchronized
  have ht : ∀ w ∈ lw_g, w.before _ s = true := fun w h => atoms_spec (ws := w_Md_moduleAt) B.pre w (List.mem_cons_of_mem _ h)
  have hown : s.vm.findClass "SquareSymbolsModel" = some m.cls := findClass_of_methodNamed B.named
  have hl := lv_entry ([.ref qt, .int p1, .int p2]) (n := 3) (Nat.le_of_ble_eq_true rfl)
  rw [lg_entry_eq]
  generalize (lg_sl ([.ref qt, .int p1, .int p2]) ++ List.replicate (3 - (lg_sl ([.ref qt, .int p1, .int p2])).length) Slot.unset).toArray = ls at hl ⊢
  have hl : lv_has ls 3 [(0, .ref qt), (1, .int p1), (2, .int p2)] := hl
  refine lv_iload_n hx hb d_Md_moduleAt_0 rfl (lv_at hl 1 rfl) ?_
  refine lv_sipush (v := (177 : Int32)) hx hb d_Md_moduleAt_1 (by decide) ?_
  refine lv_iload_n hx hb d_Md_moduleAt_4 rfl (lv_at hl 2 rfl) ?_
  refine lv_imul hx hb d_Md_moduleAt_5 ?_
  refine lv_iadd hx hb d_Md_moduleAt_6 ?_
  have er := Option.some.inj Hf
  exact W.iret hx hb hr (fun t ht hW => ⟨_, rfl, er, ht⟩) (fun q h => by cases h) d_Md_moduleAt_7

def fn_Md_fix (p1 : Int32) (p2 : Int32) (p3 : Int32) (vt_side : Int32) (vt_fixed : Nat → Int32) (vt_modules : Nat → Int32) : Option ((Nat → Int32) × (Nat → Int32)) :=
  if p1 < 0 then (some (vt_fixed, vt_modules)) else (if p2 < 0 then (some (vt_fixed, vt_modules)) else (if vt_side ≤ p1 then (some (vt_fixed, vt_modules)) else (if vt_side ≤ p2 then (some (vt_fixed, vt_modules)) else (sq_cb1 (fn_Md_moduleAt p1 p2) fun r5 => sq_jn (fun (x7 : Int32) => sq_gi r5 31329 <| sq_bd (upd vt_modules r5.toNatClampNeg x7) fun b10 => sq_cb1 (fn_Md_moduleAt p1 p2) fun r11 => sq_gi r11 31329 <| sq_bd (upd vt_fixed r11.toNatClampNeg (1 : Int32)) fun b14 => some (b14, b10)) fun k8 => if p3 = 0 then (k8 (0 : Int32)) else (k8 (1 : Int32))))))
abbrev ww_Md_fix (qt qt_fixed qt_modules qt_checkBytes qt_blocks qt_data qt_tells qt_segmentModes qt_segmentLengths qt_modes qt_takes qt_bytes qt_words qt_block qt_tried qt_values qt_system qt_solved qt_places qt_generator qt_readBytes qt_readings : Nat) (ct_fixed ct_modules : ClassId) (vt_thrown : Int32) (vt_length : Int32) (vt_version : Int32) (vt_side : Int32) (vt_made : Int32) (vt_segments : Int32) (vt_bits : Int32) (vt_filled : Int32) (vt_readLength : Int32) (vt_at : Int32) (vt_all : Int32) (vt_fault : Int32) (vt_good : Int32) (vt_fixed : Nat → Int32) (vt_modules : Nat → Int32) : va_W := [(qt, .inr (10, [.int vt_thrown, .ref qt_checkBytes, .ref qt_blocks, .ref qt_data, .int vt_length, .ref qt_modules, .ref qt_fixed, .int vt_version, .int vt_side, .int vt_made, .ref qt_tells, .ref qt_segmentModes, .ref qt_segmentLengths, .int vt_segments, .ref qt_modes, .ref qt_takes, .int vt_bits, .ref qt_bytes, .ref qt_words, .int vt_filled, .ref qt_block, .ref qt_tried, .ref qt_values, .ref qt_system, .ref qt_solved, .ref qt_places, .ref qt_generator, .ref qt_readBytes, .int vt_readLength, .int vt_at, .int vt_all, .int vt_fault, .int vt_good, .ref qt_readings])), (qt_fixed, .inl (ct_fixed, 31329, .inl vt_fixed)), (qt_modules, .inl (ct_modules, 31329, .inl vt_modules))]

def rm_Md_fix : Room := { frames := 1, cells := 0, slots := 0, locals := 22 }
abbrev qc_Md_fix (dC : Nat → ClassId) (dI : Nat → Nat → Nat) (A : Nat → Prop) (qt qt_fixed qt_modules qt_checkBytes qt_blocks qt_data qt_tells qt_segmentModes qt_segmentLengths qt_modes qt_takes qt_bytes qt_words qt_block qt_tried qt_values qt_system qt_solved qt_places qt_generator qt_readBytes qt_readings : Nat) (ct_fixed ct_modules : ClassId) (vt_thrown : Int32) (vt_length : Int32) (vt_version : Int32) (vt_side : Int32) (vt_made : Int32) (vt_segments : Int32) (vt_bits : Int32) (vt_filled : Int32) (vt_readLength : Int32) (vt_at : Int32) (vt_all : Int32) (vt_fault : Int32) (vt_good : Int32) (vt_fixed : Nat → Int32) (vt_modules : Nat → Int32) : Array Value → State → Outcome → State → Prop := va_Qv (fun (_ : Unit) => True) (fun _ t => va_P (dC, dI) cl_All (ww_Md_fix qt qt_fixed qt_modules qt_checkBytes qt_blocks qt_data qt_tells qt_segmentModes qt_segmentLengths qt_modes qt_takes qt_bytes qt_words qt_block qt_tried qt_values qt_system qt_solved qt_places qt_generator qt_readBytes qt_readings ct_fixed ct_modules vt_thrown vt_length vt_version vt_side vt_made vt_segments vt_bits vt_filled vt_readLength vt_at vt_all vt_fault vt_good vt_fixed vt_modules) t.heap ∧ va_D A (ww_Md_fix qt qt_fixed qt_modules qt_checkBytes qt_blocks qt_data qt_tells qt_segmentModes qt_segmentLengths qt_modes qt_takes qt_bytes qt_words qt_block qt_tried qt_values qt_system qt_solved qt_places qt_generator qt_readBytes qt_readings ct_fixed ct_modules vt_thrown vt_length vt_version vt_side vt_made vt_segments vt_bits vt_filled vt_readLength vt_at vt_all vt_fault vt_good vt_fixed vt_modules)) A

set_option maxHeartbeats 4000000 in
set_option maxRecDepth 100000 in
theorem kt_Md_fix (l : Launch) (dC : Nat → ClassId) (dI : Nat → Nat → Nat) (qt qt_fixed qt_modules qt_checkBytes qt_blocks qt_data qt_tells qt_segmentModes qt_segmentLengths qt_modes qt_takes qt_bytes qt_words qt_block qt_tried qt_values qt_system qt_solved qt_places qt_generator qt_readBytes qt_readings : Nat) (ct_fixed ct_modules : ClassId) (vt_thrown : Int32) (vt_length : Int32) (vt_version : Int32) (vt_side : Int32) (vt_made : Int32) (vt_segments : Int32) (vt_bits : Int32) (vt_filled : Int32) (vt_readLength : Int32) (vt_at : Int32) (vt_all : Int32) (vt_fault : Int32) (vt_good : Int32) (vt_fixed : Nat → Int32) (vt_modules : Nat → Int32) (p1 : Int32) (p2 : Int32) (p3 : Int32) (sz : Nat) (nvt_fixed : Nat → Int32) (nvt_modules : Nat → Int32) (Hf : fn_Md_fix p1 p2 p3 vt_side vt_fixed vt_modules = some (nvt_fixed, nvt_modules)) : Met l y_Md_fix w_Md_fix rm_Md_fix (va_Pc [.ref qt, .int p1, .int p2, .int p3] (fun U => U.heap.size = sz ∧ va_P (dC, dI) cl_All (ww_Md_fix qt qt_fixed qt_modules qt_checkBytes qt_blocks qt_data qt_tells qt_segmentModes qt_segmentLengths qt_modes qt_takes qt_bytes qt_words qt_block qt_tried qt_values qt_system qt_solved qt_places qt_generator qt_readBytes qt_readings ct_fixed ct_modules vt_thrown vt_length vt_version vt_side vt_made vt_segments vt_bits vt_filled vt_readLength vt_at vt_all vt_fault vt_good vt_fixed vt_modules) U.heap ∧ va_K (dC, dI) cl_All [(ct_fixed, .int), (ct_modules, .int)] U ∧ va_D (fun _ => True) (ww_Md_fix qt qt_fixed qt_modules qt_checkBytes qt_blocks qt_data qt_tells qt_segmentModes qt_segmentLengths qt_modes qt_takes qt_bytes qt_words qt_block qt_tried qt_values qt_system qt_solved qt_places qt_generator qt_readBytes qt_readings ct_fixed ct_modules vt_thrown vt_length vt_version vt_side vt_made vt_segments vt_bits vt_filled vt_readLength vt_at vt_all vt_fault vt_good vt_fixed vt_modules))) (qc_Md_fix dC dI (va_A (ww_Md_fix qt qt_fixed qt_modules qt_checkBytes qt_blocks qt_data qt_tells qt_segmentModes qt_segmentLengths qt_modes qt_takes qt_bytes qt_words qt_block qt_tried qt_values qt_system qt_solved qt_places qt_generator qt_readBytes qt_readings ct_fixed ct_modules vt_thrown vt_length vt_version vt_side vt_made vt_segments vt_bits vt_filled vt_readLength vt_at vt_all vt_fault vt_good vt_fixed vt_modules) sz) qt qt_fixed qt_modules qt_checkBytes qt_blocks qt_data qt_tells qt_segmentModes qt_segmentLengths qt_modes qt_takes qt_bytes qt_words qt_block qt_tried qt_values qt_system qt_solved qt_places qt_generator qt_readBytes qt_readings ct_fixed ct_modules vt_thrown vt_length vt_version vt_side vt_made vt_segments vt_bits vt_filled vt_readLength vt_at vt_all vt_fault vt_good nvt_fixed nvt_modules) 0 0 (va_A (ww_Md_fix qt qt_fixed qt_modules qt_checkBytes qt_blocks qt_data qt_tells qt_segmentModes qt_segmentLengths qt_modes qt_takes qt_bytes qt_words qt_block qt_tried qt_values qt_system qt_solved qt_places qt_generator qt_readBytes qt_readings ct_fixed ct_modules vt_thrown vt_length vt_version vt_side vt_made vt_segments vt_bits vt_filled vt_readLength vt_at vt_all vt_fault vt_good vt_fixed vt_modules) sz) := by
  refine Met.ofW (cc := prog_14_method_34_code) (maxL := 4) (ret := none) (by decide) rfl ?_
  intro p e s m args below meth c s₁ B hml hv
  obtain ⟨rfl, hsz, hP, hK, hD0⟩ := hv
  have hx := B.exec; have hb := B.bytes; have hr := B.returns; have hlocks := B.notSynchronized
  have ht : ∀ w ∈ lw_g, w.before _ s = true := fun w h => atoms_spec (ws := w_Md_fix) B.pre w (List.mem_cons_of_mem _ h)
  have hown : s.vm.findClass "SquareSymbolsModel" = some m.cls := findClass_of_methodNamed B.named
  subst hsz
  have hD := hD0.self (sz := s.heap.size)
  generalize hAe : va_A (ww_Md_fix qt qt_fixed qt_modules qt_checkBytes qt_blocks qt_data qt_tells qt_segmentModes qt_segmentLengths qt_modes qt_takes qt_bytes qt_words qt_block qt_tried qt_values qt_system qt_solved qt_places qt_generator qt_readBytes qt_readings ct_fixed ct_modules vt_thrown vt_length vt_version vt_side vt_made vt_segments vt_bits vt_filled vt_readLength vt_at vt_all vt_fault vt_good vt_fixed vt_modules) s.heap.size = A at hD ⊢
  have hA : ∀ q : Nat, s.heap.size ≤ q → A q := fun q h => by rw [← hAe]; exact Or.inr h
  have hS : va_S A s.heap s.heap [] := va_S.rf
  have hl := lv_entry ([.ref qt, .int p1, .int p2, .int p3]) (n := 4) (Nat.le_of_ble_eq_true rfl)
  rw [lg_entry_eq]
  generalize (lg_sl ([.ref qt, .int p1, .int p2, .int p3]) ++ List.replicate (4 - (lg_sl ([.ref qt, .int p1, .int p2, .int p3])).length) Slot.unset).toArray = ls at hl ⊢
  have hl : lv_has ls 4 [(0, .ref qt), (1, .int p1), (2, .int p2), (3, .int p3)] := hl
  refine lv_iload_n hx hb d_Md_fix_0 rfl (lv_at hl 1 rfl) ?_
  refine lv_if_lt (tgt := 56) hx hb d_Md_fix_1 (by decide) (fun c1 => ?_) (fun c1 => ?_)
  · replace Hf := sq_ite_t Hf c1
    obtain ⟨rfl, rfl⟩ := sq_so2 Hf
    exact W.vret hx hb hr (fun t ht hW => ⟨⟨(), rfl, trivial, by rw [ht]; exact hP, hD⟩, hS.F ht⟩) hS.2.2 d_Md_fix_56
  · replace Hf := sq_ite_f Hf c1
    refine lv_iload_n hx hb d_Md_fix_4 rfl (lv_at hl 2 rfl) ?_
    refine lv_if_lt (tgt := 56) hx hb d_Md_fix_5 (by decide) (fun c2 => ?_) (fun c2 => ?_)
    · replace Hf := sq_ite_t Hf c2
      obtain ⟨rfl, rfl⟩ := sq_so2 Hf
      exact W.vret hx hb hr (fun t ht hW => ⟨⟨(), rfl, trivial, by rw [ht]; exact hP, hD⟩, hS.F ht⟩) hS.2.2 d_Md_fix_56
    · replace Hf := sq_ite_f Hf c2
      refine lv_iload_n hx hb d_Md_fix_8 rfl (lv_at hl 1 rfl) ?_
      refine lv_aload_n hx hb d_Md_fix_9 rfl (lv_at hl 0 rfl) ?_
      refine va_get (D := (dC, dI)) (ci := 10) (v := .int vt_side) (C := R_Md) (T := F_Md) (N := 34) hx hb ht i_Md hown hK hP 0 rfl rfl 8 (by decide) (ht _ tb_1070) (fun _ h9 => h9) rfl d_Md_fix_10 ?_
      refine lv_icmp_ge (tgt := 56) hx hb d_Md_fix_13 (by decide) (fun c3 => ?_) (fun c3 => ?_)
      · replace Hf := sq_ite_t Hf c3
        obtain ⟨rfl, rfl⟩ := sq_so2 Hf
        exact W.vret hx hb hr (fun t ht hW => ⟨⟨(), rfl, trivial, by rw [ht]; exact hP, hD⟩, hS.F ht⟩) hS.2.2 d_Md_fix_56
      · replace Hf := sq_ite_f Hf c3
        refine lv_iload_n hx hb d_Md_fix_16 rfl (lv_at hl 2 rfl) ?_
        refine lv_aload_n hx hb d_Md_fix_17 rfl (lv_at hl 0 rfl) ?_
        refine va_get (D := (dC, dI)) (ci := 10) (v := .int vt_side) (C := R_Md) (T := F_Md) (N := 34) hx hb ht i_Md hown hK hP 0 rfl rfl 8 (by decide) (ht _ tb_1070) (fun _ h9 => h9) rfl d_Md_fix_18 ?_
        refine lv_icmp_ge (tgt := 56) hx hb d_Md_fix_21 (by decide) (fun c4 => ?_) (fun c4 => ?_)
        · replace Hf := sq_ite_t Hf c4
          obtain ⟨rfl, rfl⟩ := sq_so2 Hf
          exact W.vret hx hb hr (fun t ht hW => ⟨⟨(), rfl, trivial, by rw [ht]; exact hP, hD⟩, hS.F ht⟩) hS.2.2 d_Md_fix_56
        · replace Hf := sq_ite_f Hf c4
          refine lv_aload_n hx hb d_Md_fix_24 rfl (lv_at hl 0 rfl) ?_
          refine va_get (D := (dC, dI)) (ci := 10) (v := .ref qt_modules) (C := R_Md) (T := F_Md) (N := 34) hx hb ht i_Md hown hK hP 0 rfl rfl 5 (by decide) (ht _ tb_1067) (fun _ h9 => h9) rfl d_Md_fix_25 ?_
          refine lv_aload_n hx hb d_Md_fix_28 rfl (lv_at hl 0 rfl) ?_
          refine lv_iload_n hx hb d_Md_fix_29 rfl (lv_at hl 1 rfl) ?_
          refine lv_iload_n hx hb d_Md_fix_30 rfl (lv_at hl 2 rfl) ?_
          obtain ⟨r5, hc6, Hf⟩ := sq_cb1_e Hf
          refine sq_roi (va_runV (As := [.int p1, .int p2]) (rest := [.ref qt_modules]) ⟨hx, hb, hml, hown, ht⟩ (kt_Md_moduleAt l dC dI qt qt_checkBytes qt_blocks qt_data qt_modules qt_fixed qt_tells qt_segmentModes qt_segmentLengths qt_modes qt_takes qt_bytes qt_words qt_block qt_tried qt_values qt_system qt_solved qt_places qt_generator qt_readBytes qt_readings vt_thrown vt_length vt_version vt_side vt_made vt_segments vt_bits vt_filled vt_readLength vt_at vt_all vt_fault vt_good p1 p2 r5 hc6) (cwV 2 ht (sq_gV tb_1296 tb_1298 sl_49 tb_11 tb_1299) rfl rfl rfl (by decide +kernel) ⟨Nat.le_of_ble_eq_true rfl, Nat.le_of_ble_eq_true rfl⟩) (sq_roV (hP.sub (ws' := (ww_Md_moduleAt qt qt_checkBytes qt_blocks qt_data qt_modules qt_fixed qt_tells qt_segmentModes qt_segmentLengths qt_modes qt_takes qt_bytes qt_words qt_block qt_tried qt_values qt_system qt_solved qt_places qt_generator qt_readBytes qt_readings vt_thrown vt_length vt_version vt_side vt_made vt_segments vt_bits vt_filled vt_readLength vt_at vt_all vt_fault vt_good)) [0] rfl) (hK.sub (tys' := []) [] rfl) (va_recv hK hP (ci := 10) (q0 := 0) rfl rfl)) rfl rfl hl.1 rfl (lv_room (Nat.le_of_ble_eq_true rfl)) d_Md_fix_31 ⟨Nat.le_of_ble_eq_true rfl, Nat.le_of_ble_eq_true rfl⟩) ?_
          refine lv_iload_n hx hb d_Md_fix_34 rfl (lv_at hl 3 rfl) ?_
          obtain ⟨k8, hk8, Hf⟩ := sq_jn_e Hf
          have Jk8 : ∀ (x7 : Int32), k8 x7 = some (nvt_fixed, nvt_modules) → ∀ (H : Heap) (locs : List Loc), va_P (dC, dI) cl_All (ww_Md_fix qt qt_fixed qt_modules qt_checkBytes qt_blocks qt_data qt_tells qt_segmentModes qt_segmentLengths qt_modes qt_takes qt_bytes qt_words qt_block qt_tried qt_values qt_system qt_solved qt_places qt_generator qt_readBytes qt_readings ct_fixed ct_modules vt_thrown vt_length vt_version vt_side vt_made vt_segments vt_bits vt_filled vt_readLength vt_at vt_all vt_fault vt_good vt_fixed vt_modules) H → va_D A (ww_Md_fix qt qt_fixed qt_modules qt_checkBytes qt_blocks qt_data qt_tells qt_segmentModes qt_segmentLengths qt_modes qt_takes qt_bytes qt_words qt_block qt_tried qt_values qt_system qt_solved qt_places qt_generator qt_readBytes qt_readings ct_fixed ct_modules vt_thrown vt_length vt_version vt_side vt_made vt_segments vt_bits vt_filled vt_readLength vt_at vt_all vt_fault vt_good vt_fixed vt_modules) → va_S A s.heap H locs → ∀ ls : Array Slot, lv_has ls 4 [(0, .ref qt), (1, .int p1), (2, .int p2)] → W p l e (headSpec w_Md_fix rm_Md_fix).room s m (([.ref qt, .int p1, .int p2, .int p3] : List Value).toArray) below meth c H locs 0 0 (MQ below (qc_Md_fix dC dI A qt qt_fixed qt_modules qt_checkBytes qt_blocks qt_data qt_tells qt_segmentModes qt_segmentLengths qt_modes qt_takes qt_bytes qt_words qt_block qt_tried qt_values qt_system qt_solved qt_places qt_generator qt_readBytes qt_readings ct_fixed ct_modules vt_thrown vt_length vt_version vt_side vt_made vt_segments vt_bits vt_filled vt_readLength vt_at vt_all vt_fault vt_good nvt_fixed nvt_modules) (([.ref qt, .int p1, .int p2, .int p3] : List Value).toArray) s 0 0 A) (F0 m 43 ls [.int x7, .int r5, .ref qt_modules]) := by
            intro x7 Hf H locs  hP hD hS ls hl
            rw [hk8] at Hf
            obtain ⟨hi9, Hf⟩ := sq_gi_e Hf
            obtain ⟨b10, eb10, Hf⟩ := sq_bd_e Hf
            refine va_iast hx hb hK hP hD hS 2 1 rfl rfl hi9 d_Md_fix_43 (fun H locs hP hD hS => ?_)
            rw [← eb10] at hP hD
            replace hP : va_P (dC, dI) cl_All (ww_Md_fix qt qt_fixed qt_modules qt_checkBytes qt_blocks qt_data qt_tells qt_segmentModes qt_segmentLengths qt_modes qt_takes qt_bytes qt_words qt_block qt_tried qt_values qt_system qt_solved qt_places qt_generator qt_readBytes qt_readings ct_fixed ct_modules vt_thrown vt_length vt_version vt_side vt_made vt_segments vt_bits vt_filled vt_readLength vt_at vt_all vt_fault vt_good vt_fixed b10) H := hP
            replace hD : va_D A (ww_Md_fix qt qt_fixed qt_modules qt_checkBytes qt_blocks qt_data qt_tells qt_segmentModes qt_segmentLengths qt_modes qt_takes qt_bytes qt_words qt_block qt_tried qt_values qt_system qt_solved qt_places qt_generator qt_readBytes qt_readings ct_fixed ct_modules vt_thrown vt_length vt_version vt_side vt_made vt_segments vt_bits vt_filled vt_readLength vt_at vt_all vt_fault vt_good vt_fixed b10) := hD
            refine lv_aload_n hx hb d_Md_fix_44 rfl (lv_at hl 0 rfl) ?_
            refine va_get (D := (dC, dI)) (ci := 10) (v := .ref qt_fixed) (C := R_Md) (T := F_Md) (N := 34) hx hb ht i_Md hown hK hP 0 rfl rfl 6 (by decide) (ht _ tb_1068) (fun _ h9 => h9) rfl d_Md_fix_45 ?_
            refine lv_aload_n hx hb d_Md_fix_48 rfl (lv_at hl 0 rfl) ?_
            refine lv_iload_n hx hb d_Md_fix_49 rfl (lv_at hl 1 rfl) ?_
            refine lv_iload_n hx hb d_Md_fix_50 rfl (lv_at hl 2 rfl) ?_
            obtain ⟨r11, hc12, Hf⟩ := sq_cb1_e Hf
            refine sq_roi (va_runV (As := [.int p1, .int p2]) (rest := [.ref qt_fixed]) ⟨hx, hb, hml, hown, ht⟩ (kt_Md_moduleAt l dC dI qt qt_checkBytes qt_blocks qt_data qt_modules qt_fixed qt_tells qt_segmentModes qt_segmentLengths qt_modes qt_takes qt_bytes qt_words qt_block qt_tried qt_values qt_system qt_solved qt_places qt_generator qt_readBytes qt_readings vt_thrown vt_length vt_version vt_side vt_made vt_segments vt_bits vt_filled vt_readLength vt_at vt_all vt_fault vt_good p1 p2 r11 hc12) (cwV 2 ht (sq_gV tb_1296 tb_1298 sl_49 tb_11 tb_1299) rfl rfl rfl (by decide +kernel) ⟨Nat.le_of_ble_eq_true rfl, Nat.le_of_ble_eq_true rfl⟩) (sq_roV (hP.sub (ws' := (ww_Md_moduleAt qt qt_checkBytes qt_blocks qt_data qt_modules qt_fixed qt_tells qt_segmentModes qt_segmentLengths qt_modes qt_takes qt_bytes qt_words qt_block qt_tried qt_values qt_system qt_solved qt_places qt_generator qt_readBytes qt_readings vt_thrown vt_length vt_version vt_side vt_made vt_segments vt_bits vt_filled vt_readLength vt_at vt_all vt_fault vt_good)) [0] rfl) (hK.sub (tys' := []) [] rfl) (va_recv hK hP (ci := 10) (q0 := 0) rfl rfl)) rfl rfl hl.1 rfl (lv_room (Nat.le_of_ble_eq_true rfl)) d_Md_fix_51 ⟨Nat.le_of_ble_eq_true rfl, Nat.le_of_ble_eq_true rfl⟩) ?_
            refine lv_iconst (v := (1 : Int32)) hx hb d_Md_fix_54 (by decide) ?_
            obtain ⟨hi13, Hf⟩ := sq_gi_e Hf
            obtain ⟨b14, eb14, Hf⟩ := sq_bd_e Hf
            refine va_iast hx hb hK hP hD hS 1 0 rfl rfl hi13 d_Md_fix_55 (fun H locs hP hD hS => ?_)
            rw [← eb14] at hP hD
            replace hP : va_P (dC, dI) cl_All (ww_Md_fix qt qt_fixed qt_modules qt_checkBytes qt_blocks qt_data qt_tells qt_segmentModes qt_segmentLengths qt_modes qt_takes qt_bytes qt_words qt_block qt_tried qt_values qt_system qt_solved qt_places qt_generator qt_readBytes qt_readings ct_fixed ct_modules vt_thrown vt_length vt_version vt_side vt_made vt_segments vt_bits vt_filled vt_readLength vt_at vt_all vt_fault vt_good b14 b10) H := hP
            replace hD : va_D A (ww_Md_fix qt qt_fixed qt_modules qt_checkBytes qt_blocks qt_data qt_tells qt_segmentModes qt_segmentLengths qt_modes qt_takes qt_bytes qt_words qt_block qt_tried qt_values qt_system qt_solved qt_places qt_generator qt_readBytes qt_readings ct_fixed ct_modules vt_thrown vt_length vt_version vt_side vt_made vt_segments vt_bits vt_filled vt_readLength vt_at vt_all vt_fault vt_good b14 b10) := hD
            obtain ⟨rfl, rfl⟩ := sq_so2 Hf
            exact W.vret hx hb hr (fun t ht hW => ⟨⟨(), rfl, trivial, by rw [ht]; exact hP, hD⟩, hS.F ht⟩) hS.2.2 d_Md_fix_56
          refine lv_if_eq (tgt := 42) hx hb d_Md_fix_35 (by decide) (fun c15 => ?_) (fun c15 => ?_)
          · replace Hf := sq_ite_t Hf c15
            refine lv_iconst (v := (0 : Int32)) hx hb d_Md_fix_42 (by decide) ?_
            exact Jk8 (0 : Int32) Hf _ _  hP hD hS _ (lv_sub hl [0, 1, 2] rfl)
          · replace Hf := sq_ite_f Hf c15
            refine lv_iconst (v := (1 : Int32)) hx hb d_Md_fix_38 (by decide) ?_
            refine lv_goto (tgt := 43) hx hb d_Md_fix_39 (by decide) ?_
            exact Jk8 (1 : Int32) Hf _ _  hP hD hS _ (lv_sub hl [0, 1, 2] rfl)

def fn_Md_square_L2 (p1 : Int32) (p2 : Int32) (p3 : Int32) (p4 : Int32) (vt_side : Int32) (x2 : Int32) (k9 : (Nat → Int32) → (Nat → Int32) → Option ((Nat → Int32) × (Nat → Int32))) : Nat → Int32 → (Nat → Int32) → (Nat → Int32) → Option ((Nat → Int32) × (Nat → Int32))
  | 0, _, _, _ => none
  | m2 + 1, x11, b12, b13 => if p3 < x11 then (k9 b12 b13) else (sq_cb1 (fn_Md_greater x11 x2) fun r15 => sq_jn (fun (x17 : Int32) => sq_cb2 (fn_Md_fix (p1 + x11) (p2 + x2) x17 vt_side b12 b13) fun b19 b20 => sq_bd (x11 + (1 : Int32)) fun x22 => fn_Md_square_L2 p1 p2 p3 p4 vt_side x2 k9 m2 x22 b19 b20) fun k18 => if p4 = 0 then (if r15 = (1 : Int32) then (k18 (0 : Int32)) else (k18 (1 : Int32))) else (sq_jn (fun (_ : Unit) => k18 (0 : Int32)) fun k25 => if r15 = (2 : Int32) then (k25 ()) else (if r15 = (4 : Int32) then (k25 ()) else (k18 (1 : Int32)))))
theorem fn_Md_square_L2_s (p1 : Int32) (p2 : Int32) (p3 : Int32) (p4 : Int32) (vt_side : Int32) (x2 : Int32) (k9 : (Nat → Int32) → (Nat → Int32) → Option ((Nat → Int32) × (Nat → Int32))) (m2 : Nat) (x11 : Int32) (b12 : Nat → Int32) (b13 : Nat → Int32) : fn_Md_square_L2 p1 p2 p3 p4 vt_side x2 k9 (m2 + 1) x11 b12 b13 = if p3 < x11 then (k9 b12 b13) else (sq_cb1 (fn_Md_greater x11 x2) fun r15 => sq_jn (fun (x17 : Int32) => sq_cb2 (fn_Md_fix (p1 + x11) (p2 + x2) x17 vt_side b12 b13) fun b19 b20 => sq_bd (x11 + (1 : Int32)) fun x22 => fn_Md_square_L2 p1 p2 p3 p4 vt_side x2 k9 m2 x22 b19 b20) fun k18 => if p4 = 0 then (if r15 = (1 : Int32) then (k18 (0 : Int32)) else (k18 (1 : Int32))) else (sq_jn (fun (_ : Unit) => k18 (0 : Int32)) fun k25 => if r15 = (2 : Int32) then (k25 ()) else (if r15 = (4 : Int32) then (k25 ()) else (k18 (1 : Int32))))) := rfl
def fn_Md_square_L1 (p1 : Int32) (p2 : Int32) (p3 : Int32) (p4 : Int32) (n0 : Nat) (vt_side : Int32) : Nat → Int32 → (Nat → Int32) → (Nat → Int32) → Option ((Nat → Int32) × (Nat → Int32))
  | 0, _, _, _ => none
  | m1 + 1, x2, b3, b4 => if p3 < x2 then (some (b3, b4)) else (sq_bd (-p3) fun x6 => sq_jn (fun (b7 : Nat → Int32) (b8 : Nat → Int32) => sq_bd (x2 + (1 : Int32)) fun x10 => fn_Md_square_L1 p1 p2 p3 p4 n0 vt_side m1 x10 b7 b8) fun k9 => fn_Md_square_L2 p1 p2 p3 p4 vt_side x2 k9 n0 x6 b3 b4)
theorem fn_Md_square_L1_s (p1 : Int32) (p2 : Int32) (p3 : Int32) (p4 : Int32) (n0 : Nat) (vt_side : Int32) (m1 : Nat) (x2 : Int32) (b3 : Nat → Int32) (b4 : Nat → Int32) : fn_Md_square_L1 p1 p2 p3 p4 n0 vt_side (m1 + 1) x2 b3 b4 = if p3 < x2 then (some (b3, b4)) else (sq_bd (-p3) fun x6 => sq_jn (fun (b7 : Nat → Int32) (b8 : Nat → Int32) => sq_bd (x2 + (1 : Int32)) fun x10 => fn_Md_square_L1 p1 p2 p3 p4 n0 vt_side m1 x10 b7 b8) fun k9 => fn_Md_square_L2 p1 p2 p3 p4 vt_side x2 k9 n0 x6 b3 b4) := rfl
def fn_Md_square (n0 : Nat) (p1 : Int32) (p2 : Int32) (p3 : Int32) (p4 : Int32) (vt_side : Int32) (vt_fixed : Nat → Int32) (vt_modules : Nat → Int32) : Option ((Nat → Int32) × (Nat → Int32)) :=
  sq_bd (-p3) fun x1 => fn_Md_square_L1 p1 p2 p3 p4 n0 vt_side n0 x1 vt_fixed vt_modules
abbrev ww_Md_square (qt qt_fixed qt_modules qt_checkBytes qt_blocks qt_data qt_tells qt_segmentModes qt_segmentLengths qt_modes qt_takes qt_bytes qt_words qt_block qt_tried qt_values qt_system qt_solved qt_places qt_generator qt_readBytes qt_readings : Nat) (ct_fixed ct_modules : ClassId) (vt_thrown : Int32) (vt_length : Int32) (vt_version : Int32) (vt_side : Int32) (vt_made : Int32) (vt_segments : Int32) (vt_bits : Int32) (vt_filled : Int32) (vt_readLength : Int32) (vt_at : Int32) (vt_all : Int32) (vt_fault : Int32) (vt_good : Int32) (vt_fixed : Nat → Int32) (vt_modules : Nat → Int32) : va_W := [(qt, .inr (10, [.int vt_thrown, .ref qt_checkBytes, .ref qt_blocks, .ref qt_data, .int vt_length, .ref qt_modules, .ref qt_fixed, .int vt_version, .int vt_side, .int vt_made, .ref qt_tells, .ref qt_segmentModes, .ref qt_segmentLengths, .int vt_segments, .ref qt_modes, .ref qt_takes, .int vt_bits, .ref qt_bytes, .ref qt_words, .int vt_filled, .ref qt_block, .ref qt_tried, .ref qt_values, .ref qt_system, .ref qt_solved, .ref qt_places, .ref qt_generator, .ref qt_readBytes, .int vt_readLength, .int vt_at, .int vt_all, .int vt_fault, .int vt_good, .ref qt_readings])), (qt_fixed, .inl (ct_fixed, 31329, .inl vt_fixed)), (qt_modules, .inl (ct_modules, 31329, .inl vt_modules))]

def rm_Md_square : Room := { frames := 2, cells := 0, slots := 0, locals := 45 }
abbrev qc_Md_square (dC : Nat → ClassId) (dI : Nat → Nat → Nat) (A : Nat → Prop) (qt qt_fixed qt_modules qt_checkBytes qt_blocks qt_data qt_tells qt_segmentModes qt_segmentLengths qt_modes qt_takes qt_bytes qt_words qt_block qt_tried qt_values qt_system qt_solved qt_places qt_generator qt_readBytes qt_readings : Nat) (ct_fixed ct_modules : ClassId) (vt_thrown : Int32) (vt_length : Int32) (vt_version : Int32) (vt_side : Int32) (vt_made : Int32) (vt_segments : Int32) (vt_bits : Int32) (vt_filled : Int32) (vt_readLength : Int32) (vt_at : Int32) (vt_all : Int32) (vt_fault : Int32) (vt_good : Int32) (vt_fixed : Nat → Int32) (vt_modules : Nat → Int32) : Array Value → State → Outcome → State → Prop := va_Qv (fun (_ : Unit) => True) (fun _ t => va_P (dC, dI) cl_All (ww_Md_square qt qt_fixed qt_modules qt_checkBytes qt_blocks qt_data qt_tells qt_segmentModes qt_segmentLengths qt_modes qt_takes qt_bytes qt_words qt_block qt_tried qt_values qt_system qt_solved qt_places qt_generator qt_readBytes qt_readings ct_fixed ct_modules vt_thrown vt_length vt_version vt_side vt_made vt_segments vt_bits vt_filled vt_readLength vt_at vt_all vt_fault vt_good vt_fixed vt_modules) t.heap ∧ va_D A (ww_Md_square qt qt_fixed qt_modules qt_checkBytes qt_blocks qt_data qt_tells qt_segmentModes qt_segmentLengths qt_modes qt_takes qt_bytes qt_words qt_block qt_tried qt_values qt_system qt_solved qt_places qt_generator qt_readBytes qt_readings ct_fixed ct_modules vt_thrown vt_length vt_version vt_side vt_made vt_segments vt_bits vt_filled vt_readLength vt_at vt_all vt_fault vt_good vt_fixed vt_modules)) A

set_option maxHeartbeats 4000000 in
set_option maxRecDepth 100000 in
theorem kt_Md_square (l : Launch) (dC : Nat → ClassId) (dI : Nat → Nat → Nat) (qt qt_fixed qt_modules qt_checkBytes qt_blocks qt_data qt_tells qt_segmentModes qt_segmentLengths qt_modes qt_takes qt_bytes qt_words qt_block qt_tried qt_values qt_system qt_solved qt_places qt_generator qt_readBytes qt_readings : Nat) (ct_fixed ct_modules : ClassId) (vt_thrown : Int32) (vt_length : Int32) (vt_version : Int32) (vt_side : Int32) (vt_made : Int32) (vt_segments : Int32) (vt_bits : Int32) (vt_filled : Int32) (vt_readLength : Int32) (vt_at : Int32) (vt_all : Int32) (vt_fault : Int32) (vt_good : Int32) (vt_fixed : Nat → Int32) (vt_modules : Nat → Int32) (p1 : Int32) (p2 : Int32) (p3 : Int32) (p4 : Int32) (sz : Nat) (n0 : Nat) (nvt_fixed : Nat → Int32) (nvt_modules : Nat → Int32) (Hf : fn_Md_square n0 p1 p2 p3 p4 vt_side vt_fixed vt_modules = some (nvt_fixed, nvt_modules)) : Met l y_Md_square w_Md_square rm_Md_square (va_Pc [.ref qt, .int p1, .int p2, .int p3, .int p4] (fun U => U.heap.size = sz ∧ va_P (dC, dI) cl_All (ww_Md_square qt qt_fixed qt_modules qt_checkBytes qt_blocks qt_data qt_tells qt_segmentModes qt_segmentLengths qt_modes qt_takes qt_bytes qt_words qt_block qt_tried qt_values qt_system qt_solved qt_places qt_generator qt_readBytes qt_readings ct_fixed ct_modules vt_thrown vt_length vt_version vt_side vt_made vt_segments vt_bits vt_filled vt_readLength vt_at vt_all vt_fault vt_good vt_fixed vt_modules) U.heap ∧ va_K (dC, dI) cl_All [(ct_fixed, .int), (ct_modules, .int)] U ∧ va_D (fun _ => True) (ww_Md_square qt qt_fixed qt_modules qt_checkBytes qt_blocks qt_data qt_tells qt_segmentModes qt_segmentLengths qt_modes qt_takes qt_bytes qt_words qt_block qt_tried qt_values qt_system qt_solved qt_places qt_generator qt_readBytes qt_readings ct_fixed ct_modules vt_thrown vt_length vt_version vt_side vt_made vt_segments vt_bits vt_filled vt_readLength vt_at vt_all vt_fault vt_good vt_fixed vt_modules))) (qc_Md_square dC dI (va_A (ww_Md_square qt qt_fixed qt_modules qt_checkBytes qt_blocks qt_data qt_tells qt_segmentModes qt_segmentLengths qt_modes qt_takes qt_bytes qt_words qt_block qt_tried qt_values qt_system qt_solved qt_places qt_generator qt_readBytes qt_readings ct_fixed ct_modules vt_thrown vt_length vt_version vt_side vt_made vt_segments vt_bits vt_filled vt_readLength vt_at vt_all vt_fault vt_good vt_fixed vt_modules) sz) qt qt_fixed qt_modules qt_checkBytes qt_blocks qt_data qt_tells qt_segmentModes qt_segmentLengths qt_modes qt_takes qt_bytes qt_words qt_block qt_tried qt_values qt_system qt_solved qt_places qt_generator qt_readBytes qt_readings ct_fixed ct_modules vt_thrown vt_length vt_version vt_side vt_made vt_segments vt_bits vt_filled vt_readLength vt_at vt_all vt_fault vt_good nvt_fixed nvt_modules) 0 0 (va_A (ww_Md_square qt qt_fixed qt_modules qt_checkBytes qt_blocks qt_data qt_tells qt_segmentModes qt_segmentLengths qt_modes qt_takes qt_bytes qt_words qt_block qt_tried qt_values qt_system qt_solved qt_places qt_generator qt_readBytes qt_readings ct_fixed ct_modules vt_thrown vt_length vt_version vt_side vt_made vt_segments vt_bits vt_filled vt_readLength vt_at vt_all vt_fault vt_good vt_fixed vt_modules) sz) := by
  refine Met.ofW (cc := prog_14_method_42_code) (maxL := 8) (ret := none) (by decide) rfl ?_
  intro p e s m args below meth c s₁ B hml hv
  obtain ⟨rfl, hsz, hP, hK, hD0⟩ := hv
  have hx := B.exec; have hb := B.bytes; have hr := B.returns; have hlocks := B.notSynchronized
  have ht : ∀ w ∈ lw_g, w.before _ s = true := fun w h => atoms_spec (ws := w_Md_square) B.pre w (List.mem_cons_of_mem _ h)
  have hown : s.vm.findClass "SquareSymbolsModel" = some m.cls := findClass_of_methodNamed B.named
  subst hsz
  have hD := hD0.self (sz := s.heap.size)
  generalize hAe : va_A (ww_Md_square qt qt_fixed qt_modules qt_checkBytes qt_blocks qt_data qt_tells qt_segmentModes qt_segmentLengths qt_modes qt_takes qt_bytes qt_words qt_block qt_tried qt_values qt_system qt_solved qt_places qt_generator qt_readBytes qt_readings ct_fixed ct_modules vt_thrown vt_length vt_version vt_side vt_made vt_segments vt_bits vt_filled vt_readLength vt_at vt_all vt_fault vt_good vt_fixed vt_modules) s.heap.size = A at hD ⊢
  have hA : ∀ q : Nat, s.heap.size ≤ q → A q := fun q h => by rw [← hAe]; exact Or.inr h
  have hS : va_S A s.heap s.heap [] := va_S.rf
  have hl := lv_entry ([.ref qt, .int p1, .int p2, .int p3, .int p4]) (n := 8) (Nat.le_of_ble_eq_true rfl)
  rw [lg_entry_eq]
  generalize (lg_sl ([.ref qt, .int p1, .int p2, .int p3, .int p4]) ++ List.replicate (8 - (lg_sl ([.ref qt, .int p1, .int p2, .int p3, .int p4])).length) Slot.unset).toArray = ls at hl ⊢
  have hl : lv_has ls 8 [(0, .ref qt), (1, .int p1), (2, .int p2), (3, .int p3), (4, .int p4)] := hl
  refine lv_iload_n hx hb d_Md_square_0 rfl (lv_at hl 3 rfl) ?_
  refine lv_ineg hx hb d_Md_square_1 ?_
  obtain ⟨x1, ex1, Hf⟩ := sq_bd_e Hf
  refine sq_top ex1 ?_
  refine lv_istore (lv' := [(5, .int x1), (0, .ref qt), (1, .int p1), (2, .int p2), (3, .int p3), (4, .int p4)]) hx hb d_Md_square_2 hl (by decide) rfl (fun ls hl => ?_)
  have L1 : ∀ (m1 : Nat), ∀ (x2 : Int32) (b3 : Nat → Int32) (b4 : Nat → Int32), fn_Md_square_L1 p1 p2 p3 p4 n0 vt_side m1 x2 b3 b4 = some (nvt_fixed, nvt_modules) → ∀ (H : Heap) (locs : List Loc), va_P (dC, dI) cl_All (ww_Md_square qt qt_fixed qt_modules qt_checkBytes qt_blocks qt_data qt_tells qt_segmentModes qt_segmentLengths qt_modes qt_takes qt_bytes qt_words qt_block qt_tried qt_values qt_system qt_solved qt_places qt_generator qt_readBytes qt_readings ct_fixed ct_modules vt_thrown vt_length vt_version vt_side vt_made vt_segments vt_bits vt_filled vt_readLength vt_at vt_all vt_fault vt_good b3 b4) H → va_D A (ww_Md_square qt qt_fixed qt_modules qt_checkBytes qt_blocks qt_data qt_tells qt_segmentModes qt_segmentLengths qt_modes qt_takes qt_bytes qt_words qt_block qt_tried qt_values qt_system qt_solved qt_places qt_generator qt_readBytes qt_readings ct_fixed ct_modules vt_thrown vt_length vt_version vt_side vt_made vt_segments vt_bits vt_filled vt_readLength vt_at vt_all vt_fault vt_good b3 b4) → va_S A s.heap H locs → ∀ ls : Array Slot, lv_has ls 8 [(0, .ref qt), (1, .int p1), (2, .int p2), (3, .int p3), (4, .int p4), (5, .int x2)] → W p l e (headSpec w_Md_square rm_Md_square).room s m (([.ref qt, .int p1, .int p2, .int p3, .int p4] : List Value).toArray) below meth c H locs 0 0 (MQ below (qc_Md_square dC dI A qt qt_fixed qt_modules qt_checkBytes qt_blocks qt_data qt_tells qt_segmentModes qt_segmentLengths qt_modes qt_takes qt_bytes qt_words qt_block qt_tried qt_values qt_system qt_solved qt_places qt_generator qt_readBytes qt_readings ct_fixed ct_modules vt_thrown vt_length vt_version vt_side vt_made vt_segments vt_bits vt_filled vt_readLength vt_at vt_all vt_fault vt_good nvt_fixed nvt_modules) (([.ref qt, .int p1, .int p2, .int p3, .int p4] : List Value).toArray) s 0 0 A) (F0 m 4 ls []) := by
    intro m1
    induction m1 with
    | zero => intro x2 b3 b4 Hf; exact sq_none Hf
    | succ m1 ih1 =>
      intro x2 b3 b4 Hf H locs  hP hD hS ls hl
      replace Hf := (fn_Md_square_L1_s p1 p2 p3 p4 n0 vt_side m1 x2 b3 b4).symm.trans Hf
      refine lv_iload hx hb d_Md_square_4 (lv_at hl 5 rfl) ?_
      refine lv_iload_n hx hb d_Md_square_6 rfl (lv_at hl 3 rfl) ?_
      refine lv_icmp_gt (tgt := 89) hx hb d_Md_square_7 (by decide) (fun c5 => ?_) (fun c5 => ?_)
      · replace Hf := sq_ite_t Hf c5
        obtain ⟨rfl, rfl⟩ := sq_so2 Hf
        exact W.vret hx hb hr (fun t ht hW => ⟨⟨(), rfl, trivial, by rw [ht]; exact hP, hD⟩, hS.F ht⟩) hS.2.2 d_Md_square_89
      · replace Hf := sq_ite_f Hf c5
        refine lv_iload_n hx hb d_Md_square_10 rfl (lv_at hl 3 rfl) ?_
        refine lv_ineg hx hb d_Md_square_11 ?_
        obtain ⟨x6, ex6, Hf⟩ := sq_bd_e Hf
        refine sq_top ex6 ?_
        refine lv_istore (lv' := [(6, .int x6), (0, .ref qt), (1, .int p1), (2, .int p2), (3, .int p3), (4, .int p4), (5, .int x2)]) hx hb d_Md_square_12 hl (by decide) rfl (fun ls hl => ?_)
        obtain ⟨k9, hk9, Hf⟩ := sq_jn_e Hf
        have Jk9 : ∀ (b7 : Nat → Int32) (b8 : Nat → Int32), k9 b7 b8 = some (nvt_fixed, nvt_modules) → ∀ (H : Heap) (locs : List Loc), va_P (dC, dI) cl_All (ww_Md_square qt qt_fixed qt_modules qt_checkBytes qt_blocks qt_data qt_tells qt_segmentModes qt_segmentLengths qt_modes qt_takes qt_bytes qt_words qt_block qt_tried qt_values qt_system qt_solved qt_places qt_generator qt_readBytes qt_readings ct_fixed ct_modules vt_thrown vt_length vt_version vt_side vt_made vt_segments vt_bits vt_filled vt_readLength vt_at vt_all vt_fault vt_good b7 b8) H → va_D A (ww_Md_square qt qt_fixed qt_modules qt_checkBytes qt_blocks qt_data qt_tells qt_segmentModes qt_segmentLengths qt_modes qt_takes qt_bytes qt_words qt_block qt_tried qt_values qt_system qt_solved qt_places qt_generator qt_readBytes qt_readings ct_fixed ct_modules vt_thrown vt_length vt_version vt_side vt_made vt_segments vt_bits vt_filled vt_readLength vt_at vt_all vt_fault vt_good b7 b8) → va_S A s.heap H locs → ∀ ls : Array Slot, lv_has ls 8 [(0, .ref qt), (1, .int p1), (2, .int p2), (3, .int p3), (4, .int p4), (5, .int x2)] → W p l e (headSpec w_Md_square rm_Md_square).room s m (([.ref qt, .int p1, .int p2, .int p3, .int p4] : List Value).toArray) below meth c H locs 0 0 (MQ below (qc_Md_square dC dI A qt qt_fixed qt_modules qt_checkBytes qt_blocks qt_data qt_tells qt_segmentModes qt_segmentLengths qt_modes qt_takes qt_bytes qt_words qt_block qt_tried qt_values qt_system qt_solved qt_places qt_generator qt_readBytes qt_readings ct_fixed ct_modules vt_thrown vt_length vt_version vt_side vt_made vt_segments vt_bits vt_filled vt_readLength vt_at vt_all vt_fault vt_good nvt_fixed nvt_modules) (([.ref qt, .int p1, .int p2, .int p3, .int p4] : List Value).toArray) s 0 0 A) (F0 m 83 ls []) := by
          intro b7 b8 Hf H locs  hP hD hS ls hl
          rw [hk9] at Hf
          obtain ⟨x10, ex10, Hf⟩ := sq_bd_e Hf
          refine lv_iinc (v := x10) (lv' := [(5, .int x10), (0, .ref qt), (1, .int p1), (2, .int p2), (3, .int p3), (4, .int p4)]) hx hb d_Md_square_83 hl (k := 5) rfl (by rw [ex10]; rfl) (by decide) rfl (fun ls hl => ?_)
          refine lv_goto (tgt := 4) hx hb d_Md_square_86 (by decide) ?_
          exact ih1 x10 b7 b8 Hf _ _  hP hD hS _ (lv_sub hl [1, 2, 3, 4, 5, 0] rfl)
        have L2 : ∀ (m2 : Nat), ∀ (x11 : Int32) (b12 : Nat → Int32) (b13 : Nat → Int32), fn_Md_square_L2 p1 p2 p3 p4 vt_side x2 k9 m2 x11 b12 b13 = some (nvt_fixed, nvt_modules) → ∀ (H : Heap) (locs : List Loc), va_P (dC, dI) cl_All (ww_Md_square qt qt_fixed qt_modules qt_checkBytes qt_blocks qt_data qt_tells qt_segmentModes qt_segmentLengths qt_modes qt_takes qt_bytes qt_words qt_block qt_tried qt_values qt_system qt_solved qt_places qt_generator qt_readBytes qt_readings ct_fixed ct_modules vt_thrown vt_length vt_version vt_side vt_made vt_segments vt_bits vt_filled vt_readLength vt_at vt_all vt_fault vt_good b12 b13) H → va_D A (ww_Md_square qt qt_fixed qt_modules qt_checkBytes qt_blocks qt_data qt_tells qt_segmentModes qt_segmentLengths qt_modes qt_takes qt_bytes qt_words qt_block qt_tried qt_values qt_system qt_solved qt_places qt_generator qt_readBytes qt_readings ct_fixed ct_modules vt_thrown vt_length vt_version vt_side vt_made vt_segments vt_bits vt_filled vt_readLength vt_at vt_all vt_fault vt_good b12 b13) → va_S A s.heap H locs → ∀ ls : Array Slot, lv_has ls 8 [(0, .ref qt), (1, .int p1), (2, .int p2), (3, .int p3), (4, .int p4), (5, .int x2), (6, .int x11)] → W p l e (headSpec w_Md_square rm_Md_square).room s m (([.ref qt, .int p1, .int p2, .int p3, .int p4] : List Value).toArray) below meth c H locs 0 0 (MQ below (qc_Md_square dC dI A qt qt_fixed qt_modules qt_checkBytes qt_blocks qt_data qt_tells qt_segmentModes qt_segmentLengths qt_modes qt_takes qt_bytes qt_words qt_block qt_tried qt_values qt_system qt_solved qt_places qt_generator qt_readBytes qt_readings ct_fixed ct_modules vt_thrown vt_length vt_version vt_side vt_made vt_segments vt_bits vt_filled vt_readLength vt_at vt_all vt_fault vt_good nvt_fixed nvt_modules) (([.ref qt, .int p1, .int p2, .int p3, .int p4] : List Value).toArray) s 0 0 A) (F0 m 14 ls []) := by
          intro m2
          induction m2 with
          | zero => intro x11 b12 b13 Hf; exact sq_none Hf
          | succ m2 ih2 =>
            intro x11 b12 b13 Hf H locs  hP hD hS ls hl
            replace Hf := (fn_Md_square_L2_s p1 p2 p3 p4 vt_side x2 k9 m2 x11 b12 b13).symm.trans Hf
            refine lv_iload hx hb d_Md_square_14 (lv_at hl 6 rfl) ?_
            refine lv_iload_n hx hb d_Md_square_16 rfl (lv_at hl 3 rfl) ?_
            refine lv_icmp_gt (tgt := 83) hx hb d_Md_square_17 (by decide) (fun c14 => ?_) (fun c14 => ?_)
            · replace Hf := sq_ite_t Hf c14
              exact Jk9 b12 b13 Hf _ _  hP hD hS _ (lv_sub hl [0, 1, 2, 3, 4, 5] rfl)
            · replace Hf := sq_ite_f Hf c14
              refine lv_iload hx hb d_Md_square_20 (lv_at hl 6 rfl) ?_
              refine lv_iload hx hb d_Md_square_22 (lv_at hl 5 rfl) ?_
              obtain ⟨r15, hc16, Hf⟩ := sq_cb1_e Hf
              refine sq_roi (va_runS (As := [.int x11, .int x2]) (rest := []) ⟨hx, hb, hml, hown, ht⟩ (kt_Md_greater l dC dI x11 x2 r15 hc16) (va_cwS 2 ht (sq_gS tb_1304 tb_1305 tb_11 tb_1306) rfl rfl rfl (by decide +kernel) ⟨Nat.le_of_ble_eq_true rfl, Nat.le_of_ble_eq_true rfl⟩) (sq_roS (hP.sub (ws' := ([] : va_W)) [] rfl) (hK.sub (tys' := []) [] rfl)) rfl rfl hl.1 rfl (lv_room (Nat.le_of_ble_eq_true rfl)) d_Md_square_24 ⟨Nat.le_of_ble_eq_true rfl, Nat.le_of_ble_eq_true rfl⟩) ?_
              refine lv_istore (lv' := [(7, .int r15), (0, .ref qt), (1, .int p1), (2, .int p2), (3, .int p3), (4, .int p4), (5, .int x2), (6, .int x11)]) hx hb d_Md_square_27 hl (by decide) rfl (fun ls hl => ?_)
              refine lv_aload_n hx hb d_Md_square_29 rfl (lv_at hl 1 rfl) ?_
              refine lv_iload_n hx hb d_Md_square_30 rfl (lv_at hl 2 rfl) ?_
              refine lv_iload hx hb d_Md_square_31 (lv_at hl 7 rfl) ?_
              refine lv_iadd hx hb d_Md_square_33 ?_
              refine lv_iload_n hx hb d_Md_square_34 rfl (lv_at hl 3 rfl) ?_
              refine lv_iload hx hb d_Md_square_35 (lv_at hl 6 rfl) ?_
              refine lv_iadd hx hb d_Md_square_37 ?_
              refine lv_iload hx hb d_Md_square_38 (lv_at hl 5 rfl) ?_
              obtain ⟨k18, hk18, Hf⟩ := sq_jn_e Hf
              have Jk18 : ∀ (x17 : Int32), k18 x17 = some (nvt_fixed, nvt_modules) → ∀ (H : Heap) (locs : List Loc), va_P (dC, dI) cl_All (ww_Md_square qt qt_fixed qt_modules qt_checkBytes qt_blocks qt_data qt_tells qt_segmentModes qt_segmentLengths qt_modes qt_takes qt_bytes qt_words qt_block qt_tried qt_values qt_system qt_solved qt_places qt_generator qt_readBytes qt_readings ct_fixed ct_modules vt_thrown vt_length vt_version vt_side vt_made vt_segments vt_bits vt_filled vt_readLength vt_at vt_all vt_fault vt_good b12 b13) H → va_D A (ww_Md_square qt qt_fixed qt_modules qt_checkBytes qt_blocks qt_data qt_tells qt_segmentModes qt_segmentLengths qt_modes qt_takes qt_bytes qt_words qt_block qt_tried qt_values qt_system qt_solved qt_places qt_generator qt_readBytes qt_readings ct_fixed ct_modules vt_thrown vt_length vt_version vt_side vt_made vt_segments vt_bits vt_filled vt_readLength vt_at vt_all vt_fault vt_good b12 b13) → va_S A s.heap H locs → ∀ ls : Array Slot, lv_has ls 8 [(0, .ref qt), (1, .int p1), (2, .int p2), (3, .int p3), (4, .int p4), (5, .int x2), (6, .int x11)] → W p l e (headSpec w_Md_square rm_Md_square).room s m (([.ref qt, .int p1, .int p2, .int p3, .int p4] : List Value).toArray) below meth c H locs 0 0 (MQ below (qc_Md_square dC dI A qt qt_fixed qt_modules qt_checkBytes qt_blocks qt_data qt_tells qt_segmentModes qt_segmentLengths qt_modes qt_takes qt_bytes qt_words qt_block qt_tried qt_values qt_system qt_solved qt_places qt_generator qt_readBytes qt_readings ct_fixed ct_modules vt_thrown vt_length vt_version vt_side vt_made vt_segments vt_bits vt_filled vt_readLength vt_at vt_all vt_fault vt_good nvt_fixed nvt_modules) (([.ref qt, .int p1, .int p2, .int p3, .int p4] : List Value).toArray) s 0 0 A) (F0 m 74 ls [.int x17, .int (p2 + x2), .int (p1 + x11), .ref qt]) := by
                intro x17 Hf H locs  hP hD hS ls hl
                rw [hk18] at Hf
                obtain ⟨b19, b20, hc21, Hf⟩ := sq_cb2_e Hf
                refine sq_rwv (wn := (ww_Md_square qt qt_fixed qt_modules qt_checkBytes qt_blocks qt_data qt_tells qt_segmentModes qt_segmentLengths qt_modes qt_takes qt_bytes qt_words qt_block qt_tried qt_values qt_system qt_solved qt_places qt_generator qt_readBytes qt_readings ct_fixed ct_modules vt_thrown vt_length vt_version vt_side vt_made vt_segments vt_bits vt_filled vt_readLength vt_at vt_all vt_fault vt_good b19 b20)) (va_runV (As := [.int (p1 + x11), .int (p2 + x2), .int x17]) (rest := []) ⟨hx, hb, hml, hown, ht⟩ (kt_Md_fix l dC dI qt qt_fixed qt_modules qt_checkBytes qt_blocks qt_data qt_tells qt_segmentModes qt_segmentLengths qt_modes qt_takes qt_bytes qt_words qt_block qt_tried qt_values qt_system qt_solved qt_places qt_generator qt_readBytes qt_readings ct_fixed ct_modules vt_thrown vt_length vt_version vt_side vt_made vt_segments vt_bits vt_filled vt_readLength vt_at vt_all vt_fault vt_good b12 b13 (p1 + x11) (p2 + x2) x17 H.size b19 b20 hc21) (cwV 3 ht (sq_gV tb_1292 tb_1294 sl_48 tb_11 tb_1295) rfl rfl rfl (by decide +kernel) ⟨Nat.le_of_ble_eq_true rfl, Nat.le_of_ble_eq_true rfl⟩) (sq_rwV (hP.sub (ws' := (ww_Md_fix qt qt_fixed qt_modules qt_checkBytes qt_blocks qt_data qt_tells qt_segmentModes qt_segmentLengths qt_modes qt_takes qt_bytes qt_words qt_block qt_tried qt_values qt_system qt_solved qt_places qt_generator qt_readBytes qt_readings ct_fixed ct_modules vt_thrown vt_length vt_version vt_side vt_made vt_segments vt_bits vt_filled vt_readLength vt_at vt_all vt_fault vt_good b12 b13)) [0, 1, 2] rfl) (hK.sub (tys' := [(ct_fixed, .int), (ct_modules, .int)]) [0, 1] rfl) (hD.sub (ws' := (ww_Md_fix qt qt_fixed qt_modules qt_checkBytes qt_blocks qt_data qt_tells qt_segmentModes qt_segmentLengths qt_modes qt_takes qt_bytes qt_words qt_block qt_tried qt_values qt_system qt_solved qt_places qt_generator qt_readBytes qt_readings ct_fixed ct_modules vt_thrown vt_length vt_version vt_side vt_made vt_segments vt_bits vt_filled vt_readLength vt_at vt_all vt_fault vt_good b12 b13)) [0, 1, 2] (by decide) rfl) (va_recv hK hP (ci := 10) (q0 := 0) rfl rfl)) rfl rfl hl.1 rfl (lv_room (Nat.le_of_ble_eq_true rfl)) d_Md_square_74 ⟨Nat.le_of_ble_eq_true rfl, Nat.le_of_ble_eq_true rfl⟩) hP hD hS hA [0, 1, 2] [] [0, 1, 2] rfl rfl (by decide) (by decide) rfl (by decide) (fun H locs hP hD hS => ?_)
                obtain ⟨x22, ex22, Hf⟩ := sq_bd_e Hf
                refine lv_iinc (v := x22) (lv' := [(6, .int x22), (0, .ref qt), (1, .int p1), (2, .int p2), (3, .int p3), (4, .int p4), (5, .int x2)]) hx hb d_Md_square_77 hl (k := 6) rfl (by rw [ex22]; rfl) (by decide) rfl (fun ls hl => ?_)
                refine lv_goto (tgt := 14) hx hb d_Md_square_80 (by decide) ?_
                exact ih2 x22 b19 b20 Hf _ _  hP hD hS _ (lv_sub hl [1, 2, 3, 4, 5, 6, 0] rfl)
              refine lv_if_eq (tgt := 63) hx hb d_Md_square_40 (by decide) (fun c23 => ?_) (fun c23 => ?_)
              · replace Hf := sq_ite_t Hf c23
                refine lv_iload hx hb d_Md_square_63 (lv_at hl 0 rfl) ?_
                refine lv_iconst (v := (1 : Int32)) hx hb d_Md_square_65 (by decide) ?_
                refine lv_icmp_eq (tgt := 73) hx hb d_Md_square_66 (by decide) (fun c24 => ?_) (fun c24 => ?_)
                · replace Hf := sq_ite_t Hf c24
                  refine lv_iconst (v := (0 : Int32)) hx hb d_Md_square_73 (by decide) ?_
                  exact Jk18 (0 : Int32) Hf _ _  hP hD hS _ (lv_sub hl [1, 2, 3, 4, 5, 6, 7] rfl)
                · replace Hf := sq_ite_f Hf c24
                  refine lv_iconst (v := (1 : Int32)) hx hb d_Md_square_69 (by decide) ?_
                  refine lv_goto (tgt := 74) hx hb d_Md_square_70 (by decide) ?_
                  exact Jk18 (1 : Int32) Hf _ _  hP hD hS _ (lv_sub hl [1, 2, 3, 4, 5, 6, 7] rfl)
              · replace Hf := sq_ite_f Hf c23
                refine lv_iload hx hb d_Md_square_43 (lv_at hl 0 rfl) ?_
                refine lv_iconst (v := (2 : Int32)) hx hb d_Md_square_45 (by decide) ?_
                obtain ⟨k25, hk25, Hf⟩ := sq_jn_e Hf
                have Jk25 : ∀ (_u : Unit), k25 _u = some (nvt_fixed, nvt_modules) → ∀ (H : Heap) (locs : List Loc), va_P (dC, dI) cl_All (ww_Md_square qt qt_fixed qt_modules qt_checkBytes qt_blocks qt_data qt_tells qt_segmentModes qt_segmentLengths qt_modes qt_takes qt_bytes qt_words qt_block qt_tried qt_values qt_system qt_solved qt_places qt_generator qt_readBytes qt_readings ct_fixed ct_modules vt_thrown vt_length vt_version vt_side vt_made vt_segments vt_bits vt_filled vt_readLength vt_at vt_all vt_fault vt_good b12 b13) H → va_D A (ww_Md_square qt qt_fixed qt_modules qt_checkBytes qt_blocks qt_data qt_tells qt_segmentModes qt_segmentLengths qt_modes qt_takes qt_bytes qt_words qt_block qt_tried qt_values qt_system qt_solved qt_places qt_generator qt_readBytes qt_readings ct_fixed ct_modules vt_thrown vt_length vt_version vt_side vt_made vt_segments vt_bits vt_filled vt_readLength vt_at vt_all vt_fault vt_good b12 b13) → va_S A s.heap H locs → ∀ ls : Array Slot, lv_has ls 8 [(0, .ref qt), (1, .int p1), (2, .int p2), (3, .int p3), (4, .int p4), (5, .int x2), (6, .int x11)] → W p l e (headSpec w_Md_square rm_Md_square).room s m (([.ref qt, .int p1, .int p2, .int p3, .int p4] : List Value).toArray) below meth c H locs 0 0 (MQ below (qc_Md_square dC dI A qt qt_fixed qt_modules qt_checkBytes qt_blocks qt_data qt_tells qt_segmentModes qt_segmentLengths qt_modes qt_takes qt_bytes qt_words qt_block qt_tried qt_values qt_system qt_solved qt_places qt_generator qt_readBytes qt_readings ct_fixed ct_modules vt_thrown vt_length vt_version vt_side vt_made vt_segments vt_bits vt_filled vt_readLength vt_at vt_all vt_fault vt_good nvt_fixed nvt_modules) (([.ref qt, .int p1, .int p2, .int p3, .int p4] : List Value).toArray) s 0 0 A) (F0 m 59 ls [.int (p2 + x2), .int (p1 + x11), .ref qt]) := by
                  intro _u Hf H locs  hP hD hS ls hl
                  rw [hk25] at Hf
                  refine lv_iconst (v := (0 : Int32)) hx hb d_Md_square_59 (by decide) ?_
                  refine lv_goto (tgt := 74) hx hb d_Md_square_60 (by decide) ?_
                  exact Jk18 (0 : Int32) Hf _ _  hP hD hS _ (lv_sub hl [0, 1, 2, 3, 4, 5, 6] rfl)
                refine lv_icmp_eq (tgt := 59) hx hb d_Md_square_46 (by decide) (fun c26 => ?_) (fun c26 => ?_)
                · replace Hf := sq_ite_t Hf c26
                  exact Jk25 () Hf _ _  hP hD hS _ (lv_sub hl [1, 2, 3, 4, 5, 6, 7] rfl)
                · replace Hf := sq_ite_f Hf c26
                  refine lv_iload hx hb d_Md_square_49 (lv_at hl 0 rfl) ?_
                  refine lv_iconst (v := (4 : Int32)) hx hb d_Md_square_51 (by decide) ?_
                  refine lv_icmp_eq (tgt := 59) hx hb d_Md_square_52 (by decide) (fun c27 => ?_) (fun c27 => ?_)
                  · replace Hf := sq_ite_t Hf c27
                    exact Jk25 () Hf _ _  hP hD hS _ (lv_sub hl [1, 2, 3, 4, 5, 6, 7] rfl)
                  · replace Hf := sq_ite_f Hf c27
                    refine lv_iconst (v := (1 : Int32)) hx hb d_Md_square_55 (by decide) ?_
                    refine lv_goto (tgt := 74) hx hb d_Md_square_56 (by decide) ?_
                    exact Jk18 (1 : Int32) Hf _ _  hP hD hS _ (lv_sub hl [1, 2, 3, 4, 5, 6, 7] rfl)
        exact L2 n0 x6 b3 b4 Hf _ _  hP hD hS _ (lv_sub hl [1, 2, 3, 4, 5, 6, 0] rfl)
  exact L1 n0 x1 vt_fixed vt_modules Hf _ _  hP hD hS _ (lv_sub hl [1, 2, 3, 4, 5, 0] rfl)

