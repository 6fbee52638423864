def fn_Data_size (vt_size : Int32) : Option (Int32) :=
  some (vt_size)
abbrev ww_Data_size (qt qt_bytes : Nat) (vt_size : Int32) : va_W := [(qt, .inr (0, [.ref qt_bytes, .int vt_size]))]

def rm_Data_size : Room := { frames := 0, cells := 0, slots := 0, locals := 0 }
abbrev qc_Data_size (r0 : Int32) : Array Value → State → Outcome → State → Prop := vp_Si (fun r => r = r0)

set_option maxHeartbeats 4000000 in
set_option maxRecDepth 100000 in
theorem kt_Data_size (l : Launch) (dC : Nat → ClassId) (dI : Nat → Nat → Nat) (qt qt_bytes : Nat) (vt_size : Int32) (r0 : Int32) (Hf : fn_Data_size vt_size = some r0) : Met l y_Data_size w_Data_size rm_Data_size (va_Pc [.ref qt] (fun U => va_P (dC, dI) cl_All (ww_Data_size qt qt_bytes vt_size) U.heap ∧ va_K (dC, dI) cl_All [] U)) (qc_Data_size r0) 0 0 (fun _ => False) := by
  refine Met.ofW (cc := prog_3_method_2_code) (maxL := 1) (ret := (some .int)) (by decide) rfl ?_
  intro p e s m args below meth c s₁ B hml hv
  obtain ⟨rfl, hP, hK⟩ := hv
  have hx := B.exec; have hb := B.bytes; have hr := B.returns; have hlocks := B.notSynchronized
  have ht : ∀ w ∈ lw_g, w.before _ s = true := fun w h => atoms_spec (ws := w_Data_size) B.pre w (List.mem_cons_of_mem _ h)
  have hown : s.vm.findClass "SquareSymbols$Data" = some m.cls := findClass_of_methodNamed B.named
  have hl := lv_entry ([.ref qt]) (n := 1) (Nat.le_of_ble_eq_true rfl)
  rw [lg_entry_eq]
  generalize (lg_sl ([.ref qt]) ++ List.replicate (1 - (lg_sl ([.ref qt])).length) Slot.unset).toArray = ls at hl ⊢
  have hl : lv_has ls 1 [(0, .ref qt)] := hl
  refine lv_aload_n hx hb d_Data_size_0 rfl (lv_at hl 0 rfl) ?_
  refine va_get (D := (dC, dI)) (ci := 0) (v := .int vt_size) (C := R_Data) (T := F_Data) (N := 2) hx hb ht i_Data hown hK hP 0 rfl rfl 1 (by decide) (ht _ tb_57) (fun _ h9 => h9) rfl d_Data_size_1 ?_
  have er := Option.some.inj Hf
  exact W.iret hx hb hr (fun t ht hW => ⟨_, rfl, er, ht⟩) (fun q h => by cases h) d_Data_size_4

def fn_Data_clear (vt_size : Int32) : Option (Int32) :=
  some (0 : Int32)
abbrev ww_Data_clear (qt qt_bytes : Nat) (vt_size : Int32) : va_W := [(qt, .inr (0, [.ref qt_bytes, .int vt_size]))]

def rm_Data_clear : Room := { frames := 0, cells := 0, slots := 0, locals := 0 }
abbrev qc_Data_clear (dC : Nat → ClassId) (dI : Nat → Nat → Nat) (A : Nat → Prop) (qt qt_bytes : Nat) (vt_size : Int32) : Array Value → State → Outcome → State → Prop := va_Qv (fun (_ : Unit) => True) (fun _ t => va_P (dC, dI) cl_All (ww_Data_clear qt qt_bytes vt_size) t.heap ∧ va_D A (ww_Data_clear qt qt_bytes vt_size)) A

set_option maxHeartbeats 4000000 in
set_option maxRecDepth 100000 in
theorem kt_Data_clear (l : Launch) (dC : Nat → ClassId) (dI : Nat → Nat → Nat) (qt qt_bytes : Nat) (vt_size : Int32) (sz : Nat) (nvt_size : Int32) (Hf : fn_Data_clear vt_size = some nvt_size) : Met l y_Data_clear w_Data_clear rm_Data_clear (va_Pc [.ref qt] (fun U => U.heap.size = sz ∧ va_P (dC, dI) cl_All (ww_Data_clear qt qt_bytes vt_size) U.heap ∧ va_K (dC, dI) cl_All [] U ∧ va_D (fun _ => True) (ww_Data_clear qt qt_bytes vt_size))) (qc_Data_clear dC dI (va_A (ww_Data_clear qt qt_bytes vt_size) sz) qt qt_bytes nvt_size) 0 0 (va_A (ww_Data_clear qt qt_bytes vt_size) sz) := by
  refine Met.ofW (cc := prog_3_method_5_code) (maxL := 1) (ret := none) (by decide) rfl ?_
  intro p e s m args below meth c s₁ B hml hv
  obtain ⟨rfl, hsz, hP, hK, hD0⟩ := hv
  have hx := B.exec; have hb := B.bytes; have hr := B.returns; have hlocks := B.notSynchronized
  have ht : ∀ w ∈ lw_g, w.before _ s = true := fun w h => atoms_spec (ws := w_Data_clear) B.pre w (List.mem_cons_of_mem _ h)
  have hown : s.vm.findClass "SquareSymbols$Data" = some m.cls := findClass_of_methodNamed B.named
  subst hsz
  have hD := hD0.self (sz := s.heap.size)
  generalize hAe : va_A (ww_Data_clear qt qt_bytes vt_size) s.heap.size = A at hD ⊢
  have hA : ∀ q : Nat, s.heap.size ≤ q → A q := fun q h => by rw [← hAe]; exact Or.inr h
  have hS : va_S A s.heap s.heap [] := va_S.rf
  have hl := lv_entry ([.ref qt]) (n := 1) (Nat.le_of_ble_eq_true rfl)
  rw [lg_entry_eq]
  generalize (lg_sl ([.ref qt]) ++ List.replicate (1 - (lg_sl ([.ref qt])).length) Slot.unset).toArray = ls at hl ⊢
  have hl : lv_has ls 1 [(0, .ref qt)] := hl
  refine lv_aload_n hx hb d_Data_clear_0 rfl (lv_at hl 0 rfl) ?_
  refine lv_iconst (v := (0 : Int32)) hx hb d_Data_clear_1 (by decide) ?_
  refine va_put (D := (dC, dI)) (ci := 0) (v := .int (0 : Int32)) (ty := .int) (C := R_Data) (T := F_Data) (N := 2) hx hb ht i_Data t_Data t_Data_ok n_Data hown hK hP hD hS 0 rfl rfl 1 (by decide) (ht _ tb_57) (fun _ h9 => h9) rfl (by decide +kernel) rfl rfl (Nat.le_of_ble_eq_true rfl) d_Data_clear_2 (fun H locs hP hD hS => ?_)
  replace hP : va_P (dC, dI) cl_All (ww_Data_clear qt qt_bytes (0 : Int32)) H := hP
  replace hD : va_D A (ww_Data_clear qt qt_bytes (0 : Int32)) := hD
  obtain rfl := Option.some.inj Hf
  exact W.vret hx hb hr (fun t ht hW => ⟨⟨(), rfl, trivial, by rw [ht]; exact hP, hD⟩, hS.F ht⟩) hS.2.2 d_Data_clear_5

def fn_Data_get (p1 : Int32) (vt_size : Int32) (vt_bytes : Nat → Int32) : Option (Int32) :=
  if p1 < 0 then (some ((-1 : Int32))) else (if vt_size ≤ p1 then (some ((-1 : Int32))) else (if (3000 : Int32) ≤ p1 then (some ((-1 : Int32))) else (sq_gi p1 3000 <| sq_bd (vt_bytes p1.toNatClampNeg) fun x5 => some (x5 &&& (255 : Int32)))))
abbrev ww_Data_get (qt qt_bytes : Nat) (ct_bytes : ClassId) (vt_size : Int32) (vt_bytes : Nat → Int32) : va_W := [(qt, .inr (0, [.ref qt_bytes, .int vt_size])), (qt_bytes, .inl (ct_bytes, 3000, .inl vt_bytes))]

def rm_Data_get : Room := { frames := 0, cells := 0, slots := 0, locals := 0 }
abbrev qc_Data_get (r0 : Int32) : Array Value → State → Outcome → State → Prop := vp_Si (fun r => r = r0)

set_option maxHeartbeats 4000000 in
set_option maxRecDepth 100000 in
theorem kt_Data_get (l : Launch) (dC : Nat → ClassId) (dI : Nat → Nat → Nat) (qt qt_bytes : Nat) (ct_bytes : ClassId) (vt_size : Int32) (vt_bytes : Nat → Int32) (p1 : Int32) (r0 : Int32) (Hf : fn_Data_get p1 vt_size vt_bytes = some r0) : Met l y_Data_get w_Data_get rm_Data_get (va_Pc [.ref qt, .int p1] (fun U => va_P (dC, dI) cl_All (ww_Data_get qt qt_bytes ct_bytes vt_size vt_bytes) U.heap ∧ va_K (dC, dI) cl_All [(ct_bytes, .byte)] U)) (qc_Data_get r0) 0 0 (fun _ => False) := by
  refine Met.ofW (cc := prog_3_method_6_code) (maxL := 2) (ret := (some .int)) (by decide) rfl ?_
  intro p e s m args below meth c s₁ B hml hv
  obtain ⟨rfl, hP, hK⟩ := hv
  have hx := B.exec; have hb := B.bytes; have hr := B.returns; have hlocks := B.notSynchronized
  have ht : ∀ w ∈ lw_g, w.before _ s = true := fun w h => atoms_spec (ws := w_Data_get) B.pre w (List.mem_cons_of_mem _ h)
  have hown : s.vm.findClass "SquareSymbols$Data" = some m.cls := findClass_of_methodNamed B.named
  have hl := lv_entry ([.ref qt, .int p1]) (n := 2) (Nat.le_of_ble_eq_true rfl)
  rw [lg_entry_eq]
  generalize (lg_sl ([.ref qt, .int p1]) ++ List.replicate (2 - (lg_sl ([.ref qt, .int p1])).length) Slot.unset).toArray = ls at hl ⊢
  have hl : lv_has ls 2 [(0, .ref qt), (1, .int p1)] := hl
  refine lv_iload_n hx hb d_Data_get_0 rfl (lv_at hl 1 rfl) ?_
  refine lv_if_lt (tgt := 34) hx hb d_Data_get_1 (by decide) (fun c1 => ?_) (fun c1 => ?_)
  · replace Hf := sq_ite_t Hf c1
    refine lv_iconst (v := (-1 : Int32)) hx hb d_Data_get_34 (by decide) ?_
    have er := Option.some.inj Hf
    exact W.iret hx hb hr (fun t ht hW => ⟨_, rfl, er, ht⟩) (fun q h => by cases h) d_Data_get_35
  · replace Hf := sq_ite_f Hf c1
    refine lv_iload_n hx hb d_Data_get_4 rfl (lv_at hl 1 rfl) ?_
    refine lv_aload_n hx hb d_Data_get_5 rfl (lv_at hl 0 rfl) ?_
    refine va_get (D := (dC, dI)) (ci := 0) (v := .int vt_size) (C := R_Data) (T := F_Data) (N := 2) hx hb ht i_Data hown hK hP 0 rfl rfl 1 (by decide) (ht _ tb_57) (fun _ h9 => h9) rfl d_Data_get_6 ?_
    refine lv_icmp_ge (tgt := 34) hx hb d_Data_get_9 (by decide) (fun c2 => ?_) (fun c2 => ?_)
    · replace Hf := sq_ite_t Hf c2
      refine lv_iconst (v := (-1 : Int32)) hx hb d_Data_get_34 (by decide) ?_
      have er := Option.some.inj Hf
      exact W.iret hx hb hr (fun t ht hW => ⟨_, rfl, er, ht⟩) (fun q h => by cases h) d_Data_get_35
    · replace Hf := sq_ite_f Hf c2
      refine lv_iload_n hx hb d_Data_get_12 rfl (lv_at hl 1 rfl) ?_
      refine lv_aload_n hx hb d_Data_get_13 rfl (lv_at hl 0 rfl) ?_
      refine va_get (D := (dC, dI)) (ci := 0) (v := .ref qt_bytes) (C := R_Data) (T := F_Data) (N := 2) hx hb ht i_Data hown hK hP 0 rfl rfl 0 (by decide) (ht _ tb_56) (fun _ h9 => h9) rfl d_Data_get_14 ?_
      refine va_alen hx hb hK hP 1 0 rfl rfl (v := (3000 : Int32)) rfl d_Data_get_17 ?_
      refine lv_icmp_ge (tgt := 34) hx hb d_Data_get_18 (by decide) (fun c3 => ?_) (fun c3 => ?_)
      · replace Hf := sq_ite_t Hf c3
        refine lv_iconst (v := (-1 : Int32)) hx hb d_Data_get_34 (by decide) ?_
        have er := Option.some.inj Hf
        exact W.iret hx hb hr (fun t ht hW => ⟨_, rfl, er, ht⟩) (fun q h => by cases h) d_Data_get_35
      · replace Hf := sq_ite_f Hf c3
        refine lv_aload_n hx hb d_Data_get_21 rfl (lv_at hl 0 rfl) ?_
        refine va_get (D := (dC, dI)) (ci := 0) (v := .ref qt_bytes) (C := R_Data) (T := F_Data) (N := 2) hx hb ht i_Data hown hK hP 0 rfl rfl 0 (by decide) (ht _ tb_56) (fun _ h9 => h9) rfl d_Data_get_22 ?_
        refine lv_iload_n hx hb d_Data_get_25 rfl (lv_at hl 1 rfl) ?_
        obtain ⟨hi4, Hf⟩ := sq_gi_e Hf
        refine va_bald hx hb hK hP 1 0 rfl rfl hi4 d_Data_get_26 ?_
        obtain ⟨x5, ex5, Hf⟩ := sq_bd_e Hf
        refine sq_top ex5 ?_
        refine lv_sipush (v := (255 : Int32)) hx hb d_Data_get_27 (by decide) ?_
        refine lv_iand hx hb d_Data_get_30 ?_
        refine lv_goto (tgt := 35) hx hb d_Data_get_31 (by decide) ?_
        have er := Option.some.inj Hf
        exact W.iret hx hb hr (fun t ht hW => ⟨_, rfl, er, ht⟩) (fun q h => by cases h) d_Data_get_35

def fn_Data_add (p1 : Int32) (vt_size : Int32) (vt_bytes : Nat → Int32) : Option (Int32 × (Nat → Int32)) :=
  if vt_size < 0 then (some (vt_size, vt_bytes)) else (if (3000 : Int32) ≤ vt_size then (some (vt_size, vt_bytes)) else (sq_bd (sq_i2b p1) fun x3 => sq_gi vt_size 3000 <| sq_bd (upd vt_bytes vt_size.toNatClampNeg (vp_nar .byte x3)) fun b5 => sq_bd (vt_size + (1 : Int32)) fun x6 => some (x6, b5)))
abbrev ww_Data_add (qt qt_bytes : Nat) (ct_bytes : ClassId) (vt_size : Int32) (vt_bytes : Nat → Int32) : va_W := [(qt, .inr (0, [.ref qt_bytes, .int vt_size])), (qt_bytes, .inl (ct_bytes, 3000, .inl vt_bytes))]

def rm_Data_add : Room := { frames := 0, cells := 0, slots := 0, locals := 0 }
abbrev qc_Data_add (dC : Nat → ClassId) (dI : Nat → Nat → Nat) (A : Nat → Prop) (qt qt_bytes : Nat) (ct_bytes : ClassId) (vt_size : Int32) (vt_bytes : Nat → Int32) : Array Value → State → Outcome → State → Prop := va_Qv (fun (_ : Unit) => True) (fun _ t => va_P (dC, dI) cl_All (ww_Data_add qt qt_bytes ct_bytes vt_size vt_bytes) t.heap ∧ va_D A (ww_Data_add qt qt_bytes ct_bytes vt_size vt_bytes)) A

set_option maxHeartbeats 4000000 in
set_option maxRecDepth 100000 in
theorem kt_Data_add (l : Launch) (dC : Nat → ClassId) (dI : Nat → Nat → Nat) (qt qt_bytes : Nat) (ct_bytes : ClassId) (vt_size : Int32) (vt_bytes : Nat → Int32) (p1 : Int32) (sz : Nat) (nvt_size : Int32) (nvt_bytes : Nat → Int32) (Hf : fn_Data_add p1 vt_size vt_bytes = some (nvt_size, nvt_bytes)) : Met l y_Data_add w_Data_add rm_Data_add (va_Pc [.ref qt, .int p1] (fun U => U.heap.size = sz ∧ va_P (dC, dI) cl_All (ww_Data_add qt qt_bytes ct_bytes vt_size vt_bytes) U.heap ∧ va_K (dC, dI) cl_All [(ct_bytes, .byte)] U ∧ va_D (fun _ => True) (ww_Data_add qt qt_bytes ct_bytes vt_size vt_bytes))) (qc_Data_add dC dI (va_A (ww_Data_add qt qt_bytes ct_bytes vt_size vt_bytes) sz) qt qt_bytes ct_bytes nvt_size nvt_bytes) 0 0 (va_A (ww_Data_add qt qt_bytes ct_bytes vt_size vt_bytes) sz) := by
  refine Met.ofW (cc := prog_3_method_4_code) (maxL := 2) (ret := none) (by decide) rfl ?_
  intro p e s m args below meth c s₁ B hml hv
  obtain ⟨rfl, hsz, hP, hK, hD0⟩ := hv
  have hx := B.exec; have hb := B.bytes; have hr := B.returns; have hlocks := B.notSynchronized
  have ht : ∀ w ∈ lw_g, w.before _ s = true := fun w h => atoms_spec (ws := w_Data_add) B.pre w (List.mem_cons_of_mem _ h)
  have hown : s.vm.findClass "SquareSymbols$Data" = some m.cls := findClass_of_methodNamed B.named
  subst hsz
  have hD := hD0.self (sz := s.heap.size)
  generalize hAe : va_A (ww_Data_add qt qt_bytes ct_bytes vt_size vt_bytes) s.heap.size = A at hD ⊢
  have hA : ∀ q : Nat, s.heap.size ≤ q → A q := fun q h => by rw [← hAe]; exact Or.inr h
  have hS : va_S A s.heap s.heap [] := va_S.rf
  have hl := lv_entry ([.ref qt, .int p1]) (n := 2) (Nat.le_of_ble_eq_true rfl)
  rw [lg_entry_eq]
  generalize (lg_sl ([.ref qt, .int p1]) ++ List.replicate (2 - (lg_sl ([.ref qt, .int p1])).length) Slot.unset).toArray = ls at hl ⊢
  have hl : lv_has ls 2 [(0, .ref qt), (1, .int p1)] := hl
  refine lv_aload_n hx hb d_Data_add_0 rfl (lv_at hl 0 rfl) ?_
  refine va_get (D := (dC, dI)) (ci := 0) (v := .int vt_size) (C := R_Data) (T := F_Data) (N := 2) hx hb ht i_Data hown hK hP 0 rfl rfl 1 (by decide) (ht _ tb_57) (fun _ h9 => h9) rfl d_Data_add_1 ?_
  refine lv_if_lt (tgt := 40) hx hb d_Data_add_4 (by decide) (fun c1 => ?_) (fun c1 => ?_)
  · replace Hf := sq_ite_t Hf c1
    obtain ⟨rfl, rfl⟩ := sq_so2 Hf
    exact W.vret hx hb hr (fun t ht hW => ⟨⟨(), rfl, trivial, by rw [ht]; exact hP, hD⟩, hS.F ht⟩) hS.2.2 d_Data_add_40
  · replace Hf := sq_ite_f Hf c1
    refine lv_aload_n hx hb d_Data_add_7 rfl (lv_at hl 0 rfl) ?_
    refine va_get (D := (dC, dI)) (ci := 0) (v := .int vt_size) (C := R_Data) (T := F_Data) (N := 2) hx hb ht i_Data hown hK hP 0 rfl rfl 1 (by decide) (ht _ tb_57) (fun _ h9 => h9) rfl d_Data_add_8 ?_
    refine lv_aload_n hx hb d_Data_add_11 rfl (lv_at hl 0 rfl) ?_
    refine va_get (D := (dC, dI)) (ci := 0) (v := .ref qt_bytes) (C := R_Data) (T := F_Data) (N := 2) hx hb ht i_Data hown hK hP 0 rfl rfl 0 (by decide) (ht _ tb_56) (fun _ h9 => h9) rfl d_Data_add_12 ?_
    refine va_alen hx hb hK hP 1 0 rfl rfl (v := (3000 : Int32)) rfl d_Data_add_15 ?_
    refine lv_icmp_ge (tgt := 40) hx hb d_Data_add_16 (by decide) (fun c2 => ?_) (fun c2 => ?_)
    · replace Hf := sq_ite_t Hf c2
      obtain ⟨rfl, rfl⟩ := sq_so2 Hf
      exact W.vret hx hb hr (fun t ht hW => ⟨⟨(), rfl, trivial, by rw [ht]; exact hP, hD⟩, hS.F ht⟩) hS.2.2 d_Data_add_40
    · replace Hf := sq_ite_f Hf c2
      refine lv_aload_n hx hb d_Data_add_19 rfl (lv_at hl 0 rfl) ?_
      refine va_get (D := (dC, dI)) (ci := 0) (v := .ref qt_bytes) (C := R_Data) (T := F_Data) (N := 2) hx hb ht i_Data hown hK hP 0 rfl rfl 0 (by decide) (ht _ tb_56) (fun _ h9 => h9) rfl d_Data_add_20 ?_
      refine lv_aload_n hx hb d_Data_add_23 rfl (lv_at hl 0 rfl) ?_
      refine va_get (D := (dC, dI)) (ci := 0) (v := .int vt_size) (C := R_Data) (T := F_Data) (N := 2) hx hb ht i_Data hown hK hP 0 rfl rfl 1 (by decide) (ht _ tb_57) (fun _ h9 => h9) rfl d_Data_add_24 ?_
      refine lv_iload_n hx hb d_Data_add_27 rfl (lv_at hl 1 rfl) ?_
      refine lv_i2b hx hb d_Data_add_28 rfl ?_
      obtain ⟨x3, ex3, Hf⟩ := sq_bd_e Hf
      refine sq_top ex3 ?_
      obtain ⟨hi4, Hf⟩ := sq_gi_e Hf
      obtain ⟨b5, eb5, Hf⟩ := sq_bd_e Hf
      refine va_bast hx hb hK hP hD hS 1 0 rfl rfl hi4 d_Data_add_29 (fun H locs hP hD hS => ?_)
      rw [← eb5] at hP hD
      replace hP : va_P (dC, dI) cl_All (ww_Data_add qt qt_bytes ct_bytes vt_size b5) H := hP
      replace hD : va_D A (ww_Data_add qt qt_bytes ct_bytes vt_size b5) := hD
      refine lv_aload_n hx hb d_Data_add_30 rfl (lv_at hl 0 rfl) ?_
      refine lv_dup hx hb d_Data_add_31 rfl ?_
      refine va_get (D := (dC, dI)) (ci := 0) (v := .int vt_size) (C := R_Data) (T := F_Data) (N := 2) hx hb ht i_Data hown hK hP 0 rfl rfl 1 (by decide) (ht _ tb_57) (fun _ h9 => h9) rfl d_Data_add_32 ?_
      refine lv_iconst (v := (1 : Int32)) hx hb d_Data_add_35 (by decide) ?_
      refine lv_iadd hx hb d_Data_add_36 ?_
      obtain ⟨x6, ex6, Hf⟩ := sq_bd_e Hf
      refine sq_top ex6 ?_
      refine va_put (D := (dC, dI)) (ci := 0) (v := .int x6) (ty := .int) (C := R_Data) (T := F_Data) (N := 2) hx hb ht i_Data t_Data t_Data_ok n_Data hown hK hP hD hS 0 rfl rfl 1 (by decide) (ht _ tb_57) (fun _ h9 => h9) rfl (by decide +kernel) rfl rfl (Nat.le_of_ble_eq_true rfl) d_Data_add_37 (fun H locs hP hD hS => ?_)
      replace hP : va_P (dC, dI) cl_All (ww_Data_add qt qt_bytes ct_bytes x6 b5) H := hP
      replace hD : va_D A (ww_Data_add qt qt_bytes ct_bytes x6 b5) := hD
      obtain ⟨rfl, rfl⟩ := sq_so2 Hf
      exact W.vret hx hb hr (fun t ht hW => ⟨⟨(), rfl, trivial, by rw [ht]; exact hP, hD⟩, hS.F ht⟩) hS.2.2 d_Data_add_40

def fn_Data_hasRoomFor (p1 : Int32) (vt_size : Int32) : Option (Int32) :=
  if ((3000 : Int32) - vt_size) < p1 then (some ((0 : Int32))) else (some ((1 : Int32)))
abbrev ww_Data_hasRoomFor (qt qt_bytes : Nat) (ct_bytes : ClassId) (vt_size : Int32) (vt_bytes : Nat → Int32) : va_W := [(qt, .inr (0, [.ref qt_bytes, .int vt_size])), (qt_bytes, .inl (ct_bytes, 3000, .inl vt_bytes))]

def rm_Data_hasRoomFor : Room := { frames := 0, cells := 0, slots := 0, locals := 0 }
abbrev qc_Data_hasRoomFor (r0 : Int32) : Array Value → State → Outcome → State → Prop := vp_Si (fun r => r = r0)

set_option maxHeartbeats 4000000 in
set_option maxRecDepth 100000 in
theorem kt_Data_hasRoomFor (l : Launch) (dC : Nat → ClassId) (dI : Nat → Nat → Nat) (qt qt_bytes : Nat) (ct_bytes : ClassId) (vt_size : Int32) (vt_bytes : Nat → Int32) (p1 : Int32) (r0 : Int32) (Hf : fn_Data_hasRoomFor p1 vt_size = some r0) : Met l y_Data_hasRoomFor w_Data_hasRoomFor rm_Data_hasRoomFor (va_Pc [.ref qt, .int p1] (fun U => va_P (dC, dI) cl_All (ww_Data_hasRoomFor qt qt_bytes ct_bytes vt_size vt_bytes) U.heap ∧ va_K (dC, dI) cl_All [(ct_bytes, .byte)] U)) (qc_Data_hasRoomFor r0) 0 0 (fun _ => False) := by
  refine Met.ofW (cc := prog_3_method_3_code) (maxL := 2) (ret := (some .boolean)) (by decide) rfl ?_
  intro p e s m args below meth c s₁ B hml hv
  obtain ⟨rfl, hP, hK⟩ := hv
  have hx := B.exec; have hb := B.bytes; have hr := B.returns; have hlocks := B.notSynchronized
  have ht : ∀ w ∈ lw_g, w.before _ s = true := fun w h => atoms_spec (ws := w_Data_hasRoomFor) B.pre w (List.mem_cons_of_mem _ h)
  have hown : s.vm.findClass "SquareSymbols$Data" = some m.cls := findClass_of_methodNamed B.named
  have hl := lv_entry ([.ref qt, .int p1]) (n := 2) (Nat.le_of_ble_eq_true rfl)
  rw [lg_entry_eq]
  generalize (lg_sl ([.ref qt, .int p1]) ++ List.replicate (2 - (lg_sl ([.ref qt, .int p1])).length) Slot.unset).toArray = ls at hl ⊢
  have hl : lv_has ls 2 [(0, .ref qt), (1, .int p1)] := hl
  refine lv_iload_n hx hb d_Data_hasRoomFor_0 rfl (lv_at hl 1 rfl) ?_
  refine lv_aload_n hx hb d_Data_hasRoomFor_1 rfl (lv_at hl 0 rfl) ?_
  refine va_get (D := (dC, dI)) (ci := 0) (v := .ref qt_bytes) (C := R_Data) (T := F_Data) (N := 2) hx hb ht i_Data hown hK hP 0 rfl rfl 0 (by decide) (ht _ tb_56) (fun _ h9 => h9) rfl d_Data_hasRoomFor_2 ?_
  refine va_alen hx hb hK hP 1 0 rfl rfl (v := (3000 : Int32)) rfl d_Data_hasRoomFor_5 ?_
  refine lv_aload_n hx hb d_Data_hasRoomFor_6 rfl (lv_at hl 0 rfl) ?_
  refine va_get (D := (dC, dI)) (ci := 0) (v := .int vt_size) (C := R_Data) (T := F_Data) (N := 2) hx hb ht i_Data hown hK hP 0 rfl rfl 1 (by decide) (ht _ tb_57) (fun _ h9 => h9) rfl d_Data_hasRoomFor_7 ?_
  refine lv_isub hx hb d_Data_hasRoomFor_10 ?_
  refine lv_icmp_gt (tgt := 18) hx hb d_Data_hasRoomFor_11 (by decide) (fun c1 => ?_) (fun c1 => ?_)
  · replace Hf := sq_ite_t Hf c1
    refine lv_iconst (v := (0 : Int32)) hx hb d_Data_hasRoomFor_18 (by decide) ?_
    have er := Option.some.inj Hf
    exact W.zret hx hb hr rfl (fun t ht hW => ⟨_, rfl, er, ht⟩) (fun q h => by cases h) d_Data_hasRoomFor_19
  · replace Hf := sq_ite_f Hf c1
    refine lv_iconst (v := (1 : Int32)) hx hb d_Data_hasRoomFor_14 (by decide) ?_
    refine lv_goto (tgt := 19) hx hb d_Data_hasRoomFor_15 (by decide) ?_
    have er := Option.some.inj Hf
    exact W.zret hx hb hr rfl (fun t ht hW => ⟨_, rfl, er, ht⟩) (fun q h => by cases h) d_Data_hasRoomFor_19

