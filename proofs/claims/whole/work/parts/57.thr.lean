def ft_Sq_put (p1 : Int32) (p2 : Int64) : Option (Unit) :=
  if p1 < (1 : Int32) then (some ()) else (if p1 ≤ (8 : Int32) then (none) else (some ()))

def rmx_Sq_put : Room := { frames := 6, cells := 1, slots := 6, locals := 90 }
set_option maxHeartbeats 4000000 in
set_option maxRecDepth 100000 in
theorem kx_Sq_put (l : Launch) (hfl : l.stackTraces = false) (qt : Nat) (p1 : Int32) (p2 : Int64) (ts : Nat → Nat) (Hf : ft_Sq_put p1 p2 = some ()) : sq_MT l y_Sq_put w_Sq_put rmx_Sq_put (va_Pc [.ref qt, .int p1, .long p2] (fun U => tx_E ts (fun _ => False) U U.heap)) tx_Q 1 6 := by
  refine sq_MT_ofW (cc := prog_1_method_2_code) (maxL := 5) (ret := (some .int)) (by decide) rfl ?_
  intro p e s m args below meth c s₁ B hml hv
  obtain ⟨rfl, hE⟩ := hv
  have hx := B.exec; have hb := B.bytes; have hlocks := B.notSynchronized
  have ht0 := atoms_spec (ws := w_Sq_put) B.pre
  have ht : ∀ w ∈ lw_g, w.before _ s = true := fun w h => ht0 w (List.mem_cons_of_mem _ h)
  have hown : s.vm.findClass "SquareSymbols" = some m.cls := findClass_of_methodNamed B.named
  have htr : e.platform.stackTraces = false := by rw [(Stand.of_body B).admits.platform]; exact hfl
  have hout := B.noHandlers (ht0 _ List.mem_cons_self)
  have hl := lv_entry ([.ref qt, .int p1, .long p2]) (n := 5) (Nat.le_of_ble_eq_true rfl)
  rw [lg_entry_eq]
  generalize (lg_sl ([.ref qt, .int p1, .long p2]) ++ List.replicate (5 - (lg_sl ([.ref qt, .int p1, .long p2])).length) Slot.unset).toArray = ls at hl ⊢
  have hl : lv_has ls 5 [(0, .ref qt), (1, .int p1), (2, .long p2)] := hl
  refine lv_iload_n hx hb d_Sq_put_0 rfl (lv_at hl 1 rfl) ?_
  refine lv_iconst (v := (1 : Int32)) hx hb d_Sq_put_1 (by decide) ?_
  refine lv_icmp_lt (tgt := 11) hx hb d_Sq_put_2 (by decide) (fun c1 => ?_) (fun c1 => ?_)
  · replace Hf := sq_ite_t Hf c1
    exact tx_throw hx hb htr hown ht hE hE.s84 (by rw [hml]; exact hl.1.symm) hout hlocks d_Sq_put_11 d_Sq_put_14 d_Sq_put_15 d_Sq_put_17 d_Sq_put_20 (Nat.le_of_ble_eq_true rfl) (Nat.le_of_ble_eq_true rfl) (Nat.le_of_ble_eq_true rfl) (Nat.le_of_ble_eq_true rfl)
  · replace Hf := sq_ite_f Hf c1
    refine lv_iload_n hx hb d_Sq_put_5 rfl (lv_at hl 1 rfl) ?_
    refine lv_bipush (v := (8 : Int32)) hx hb d_Sq_put_6 (by decide) ?_
    refine lv_icmp_le (tgt := 21) hx hb d_Sq_put_8 (by decide) (fun c2 => ?_) (fun c2 => ?_)
    · replace Hf := sq_ite_t Hf c2
      refine lv_aload_n hx hb d_Sq_put_21 rfl (lv_at hl 0 rfl) ?_
      exact sq_none Hf
    · replace Hf := sq_ite_f Hf c2
      exact tx_throw hx hb htr hown ht hE hE.s84 (by rw [hml]; exact hl.1.symm) hout hlocks d_Sq_put_11 d_Sq_put_14 d_Sq_put_15 d_Sq_put_17 d_Sq_put_20 (Nat.le_of_ble_eq_true rfl) (Nat.le_of_ble_eq_true rfl) (Nat.le_of_ble_eq_true rfl) (Nat.le_of_ble_eq_true rfl)

def ft_Sq_repeat (p1 : Int32) (p2 : Int32) : Option (Unit) :=
  if p1 < 0 then (some ()) else (if p1 ≤ (255 : Int32) then (if 0 ≤ p2 then (none) else (some ())) else (some ()))

def rmx_Sq_repeat : Room := { frames := 6, cells := 1, slots := 6, locals := 90 }
set_option maxHeartbeats 4000000 in
set_option maxRecDepth 100000 in
theorem kx_Sq_repeat (l : Launch) (hfl : l.stackTraces = false) (qt : Nat) (p1 : Int32) (p2 : Int32) (ts : Nat → Nat) (Hf : ft_Sq_repeat p1 p2 = some ()) : sq_MT l y_Sq_repeat w_Sq_repeat rmx_Sq_repeat (va_Pc [.ref qt, .int p1, .int p2] (fun U => tx_E ts (fun _ => False) U U.heap)) tx_Q 1 6 := by
  refine sq_MT_ofW (cc := prog_1_method_3_code) (maxL := 4) (ret := (some .int)) (by decide) rfl ?_
  intro p e s m args below meth c s₁ B hml hv
  obtain ⟨rfl, hE⟩ := hv
  have hx := B.exec; have hb := B.bytes; have hlocks := B.notSynchronized
  have ht0 := atoms_spec (ws := w_Sq_repeat) B.pre
  have ht : ∀ w ∈ lw_g, w.before _ s = true := fun w h => ht0 w (List.mem_cons_of_mem _ h)
  have hown : s.vm.findClass "SquareSymbols" = some m.cls := findClass_of_methodNamed B.named
  have htr : e.platform.stackTraces = false := by rw [(Stand.of_body B).admits.platform]; exact hfl
  have hout := B.noHandlers (ht0 _ List.mem_cons_self)
  have hl := lv_entry ([.ref qt, .int p1, .int p2]) (n := 4) (Nat.le_of_ble_eq_true rfl)
  rw [lg_entry_eq]
  generalize (lg_sl ([.ref qt, .int p1, .int p2]) ++ List.replicate (4 - (lg_sl ([.ref qt, .int p1, .int p2])).length) Slot.unset).toArray = ls at hl ⊢
  have hl : lv_has ls 4 [(0, .ref qt), (1, .int p1), (2, .int p2)] := hl
  refine lv_iload_n hx hb d_Sq_repeat_0 rfl (lv_at hl 1 rfl) ?_
  refine lv_if_lt (tgt := 11) hx hb d_Sq_repeat_1 (by decide) (fun c1 => ?_) (fun c1 => ?_)
  · replace Hf := sq_ite_t Hf c1
    exact tx_throw hx hb htr hown ht hE hE.s101 (by rw [hml]; exact hl.1.symm) hout hlocks d_Sq_repeat_11 d_Sq_repeat_14 d_Sq_repeat_15 d_Sq_repeat_17 d_Sq_repeat_20 (Nat.le_of_ble_eq_true rfl) (Nat.le_of_ble_eq_true rfl) (Nat.le_of_ble_eq_true rfl) (Nat.le_of_ble_eq_true rfl)
  · replace Hf := sq_ite_f Hf c1
    refine lv_iload_n hx hb d_Sq_repeat_4 rfl (lv_at hl 1 rfl) ?_
    refine lv_sipush (v := (255 : Int32)) hx hb d_Sq_repeat_5 (by decide) ?_
    refine lv_icmp_le (tgt := 21) hx hb d_Sq_repeat_8 (by decide) (fun c2 => ?_) (fun c2 => ?_)
    · replace Hf := sq_ite_t Hf c2
      refine lv_iload_n hx hb d_Sq_repeat_21 rfl (lv_at hl 2 rfl) ?_
      refine lv_if_ge (tgt := 35) hx hb d_Sq_repeat_22 (by decide) (fun c3 => ?_) (fun c3 => ?_)
      · replace Hf := sq_ite_t Hf c3
        refine lv_aload_n hx hb d_Sq_repeat_35 rfl (lv_at hl 0 rfl) ?_
        exact sq_none Hf
      · replace Hf := sq_ite_f Hf c3
        exact tx_throw hx hb htr hown ht hE hE.s103 (by rw [hml]; exact hl.1.symm) hout hlocks d_Sq_repeat_25 d_Sq_repeat_28 d_Sq_repeat_29 d_Sq_repeat_31 d_Sq_repeat_34 (Nat.le_of_ble_eq_true rfl) (Nat.le_of_ble_eq_true rfl) (Nat.le_of_ble_eq_true rfl) (Nat.le_of_ble_eq_true rfl)
    · replace Hf := sq_ite_f Hf c2
      exact tx_throw hx hb htr hown ht hE hE.s101 (by rw [hml]; exact hl.1.symm) hout hlocks d_Sq_repeat_11 d_Sq_repeat_14 d_Sq_repeat_15 d_Sq_repeat_17 d_Sq_repeat_20 (Nat.le_of_ble_eq_true rfl) (Nat.le_of_ble_eq_true rfl) (Nat.le_of_ble_eq_true rfl) (Nat.le_of_ble_eq_true rfl)

def ft_Sq_make (p1 : Int32) (p2 : Int32) (p3 : Int32) : Option (Unit) :=
  if p1 < 0 then (some ()) else (if p1 ≤ (3 : Int32) then (if p2 < 0 then (some ()) else (if p2 ≤ (40 : Int32) then (sq_jn (fun (_ : Unit) => none) fun k5 => if p3 = (-1 : Int32) then (k5 ()) else (if p3 < 0 then (some ()) else (if p3 < (8 : Int32) then (k5 ()) else (some ())))) else (some ()))) else (some ()))

def rmx_Sq_make : Room := { frames := 6, cells := 1, slots := 6, locals := 90 }
set_option maxHeartbeats 4000000 in
set_option maxRecDepth 100000 in
theorem kx_Sq_make (l : Launch) (hfl : l.stackTraces = false) (qt : Nat) (p1 : Int32) (p2 : Int32) (p3 : Int32) (ts : Nat → Nat) (Hf : ft_Sq_make p1 p2 p3 = some ()) : sq_MT l y_Sq_make w_Sq_make rmx_Sq_make (va_Pc [.ref qt, .int p1, .int p2, .int p3] (fun U => tx_E ts (fun _ => False) U U.heap)) tx_Q 1 6 := by
  refine sq_MT_ofW (cc := prog_1_method_6_code) (maxL := 5) (ret := (some .int)) (by decide) rfl ?_
  intro p e s m args below meth c s₁ B hml hv
  obtain ⟨rfl, hE⟩ := hv
  have hx := B.exec; have hb := B.bytes; have hlocks := B.notSynchronized
  have ht0 := atoms_spec (ws := w_Sq_make) B.pre
  have ht : ∀ w ∈ lw_g, w.before _ s = true := fun w h => ht0 w (List.mem_cons_of_mem _ h)
  have hown : s.vm.findClass "SquareSymbols" = some m.cls := findClass_of_methodNamed B.named
  have htr : e.platform.stackTraces = false := by rw [(Stand.of_body B).admits.platform]; exact hfl
  have hout := B.noHandlers (ht0 _ List.mem_cons_self)
  have hl := lv_entry ([.ref qt, .int p1, .int p2, .int p3]) (n := 5) (Nat.le_of_ble_eq_true rfl)
  rw [lg_entry_eq]
  generalize (lg_sl ([.ref qt, .int p1, .int p2, .int p3]) ++ List.replicate (5 - (lg_sl ([.ref qt, .int p1, .int p2, .int p3])).length) Slot.unset).toArray = ls at hl ⊢
  have hl : lv_has ls 5 [(0, .ref qt), (1, .int p1), (2, .int p2), (3, .int p3)] := hl
  refine lv_iload_n hx hb d_Sq_make_0 rfl (lv_at hl 1 rfl) ?_
  refine lv_if_lt (tgt := 9) hx hb d_Sq_make_1 (by decide) (fun c1 => ?_) (fun c1 => ?_)
  · replace Hf := sq_ite_t Hf c1
    exact tx_throw hx hb htr hown ht hE hE.s112 (by rw [hml]; exact hl.1.symm) hout hlocks d_Sq_make_9 d_Sq_make_12 d_Sq_make_13 d_Sq_make_15 d_Sq_make_18 (Nat.le_of_ble_eq_true rfl) (Nat.le_of_ble_eq_true rfl) (Nat.le_of_ble_eq_true rfl) (Nat.le_of_ble_eq_true rfl)
  · replace Hf := sq_ite_f Hf c1
    refine lv_iload_n hx hb d_Sq_make_4 rfl (lv_at hl 1 rfl) ?_
    refine lv_iconst (v := (3 : Int32)) hx hb d_Sq_make_5 (by decide) ?_
    refine lv_icmp_le (tgt := 19) hx hb d_Sq_make_6 (by decide) (fun c2 => ?_) (fun c2 => ?_)
    · replace Hf := sq_ite_t Hf c2
      refine lv_iload_n hx hb d_Sq_make_19 rfl (lv_at hl 2 rfl) ?_
      refine lv_if_lt (tgt := 29) hx hb d_Sq_make_20 (by decide) (fun c3 => ?_) (fun c3 => ?_)
      · replace Hf := sq_ite_t Hf c3
        exact tx_throw hx hb htr hown ht hE hE.s114 (by rw [hml]; exact hl.1.symm) hout hlocks d_Sq_make_29 d_Sq_make_32 d_Sq_make_33 d_Sq_make_35 d_Sq_make_38 (Nat.le_of_ble_eq_true rfl) (Nat.le_of_ble_eq_true rfl) (Nat.le_of_ble_eq_true rfl) (Nat.le_of_ble_eq_true rfl)
      · replace Hf := sq_ite_f Hf c3
        refine lv_iload_n hx hb d_Sq_make_23 rfl (lv_at hl 2 rfl) ?_
        refine lv_bipush (v := (40 : Int32)) hx hb d_Sq_make_24 (by decide) ?_
        refine lv_icmp_le (tgt := 39) hx hb d_Sq_make_26 (by decide) (fun c4 => ?_) (fun c4 => ?_)
        · replace Hf := sq_ite_t Hf c4
          refine lv_iload_n hx hb d_Sq_make_39 rfl (lv_at hl 3 rfl) ?_
          refine lv_iconst (v := (-1 : Int32)) hx hb d_Sq_make_40 (by decide) ?_
          obtain ⟨k5, hk5, Hf⟩ := sq_jn_e Hf
          have Jk5 : ∀ (_u : Unit), k5 _u = some () → ∀ ls : Array Slot, lv_has ls 5 [(0, .ref qt), (1, .int p1), (2, .int p2), (3, .int p3)] → W p l e (headSpec w_Sq_make rmx_Sq_make).room s m (([.ref qt, .int p1, .int p2, .int p3] : List Value).toArray) below meth c s.heap [] 0 0 (sq_MTQ below tx_Q (([.ref qt, .int p1, .int p2, .int p3] : List Value).toArray) s 1 6) (F0 m 64 ls []) := by
            intro _u Hf ls hl
            rw [hk5] at Hf
            refine lv_aload_n hx hb d_Sq_make_64 rfl (lv_at hl 0 rfl) ?_
            refine lv_iload_n hx hb d_Sq_make_65 rfl (lv_at hl 1 rfl) ?_
            refine lv_iload_n hx hb d_Sq_make_66 rfl (lv_at hl 2 rfl) ?_
            exact sq_none Hf
          refine lv_icmp_eq (tgt := 64) hx hb d_Sq_make_41 (by decide) (fun c6 => ?_) (fun c6 => ?_)
          · replace Hf := sq_ite_t Hf c6
            exact Jk5 () Hf _ (lv_sub hl [0, 1, 2, 3] rfl)
          · replace Hf := sq_ite_f Hf c6
            refine lv_iload_n hx hb d_Sq_make_44 rfl (lv_at hl 3 rfl) ?_
            refine lv_if_lt (tgt := 54) hx hb d_Sq_make_45 (by decide) (fun c7 => ?_) (fun c7 => ?_)
            · replace Hf := sq_ite_t Hf c7
              exact tx_throw hx hb htr hown ht hE hE.s116 (by rw [hml]; exact hl.1.symm) hout hlocks d_Sq_make_54 d_Sq_make_57 d_Sq_make_58 d_Sq_make_60 d_Sq_make_63 (Nat.le_of_ble_eq_true rfl) (Nat.le_of_ble_eq_true rfl) (Nat.le_of_ble_eq_true rfl) (Nat.le_of_ble_eq_true rfl)
            · replace Hf := sq_ite_f Hf c7
              refine lv_iload_n hx hb d_Sq_make_48 rfl (lv_at hl 3 rfl) ?_
              refine lv_bipush (v := (8 : Int32)) hx hb d_Sq_make_49 (by decide) ?_
              refine lv_icmp_lt (tgt := 64) hx hb d_Sq_make_51 (by decide) (fun c8 => ?_) (fun c8 => ?_)
              · replace Hf := sq_ite_t Hf c8
                exact Jk5 () Hf _ (lv_sub hl [0, 1, 2, 3] rfl)
              · replace Hf := sq_ite_f Hf c8
                exact tx_throw hx hb htr hown ht hE hE.s116 (by rw [hml]; exact hl.1.symm) hout hlocks d_Sq_make_54 d_Sq_make_57 d_Sq_make_58 d_Sq_make_60 d_Sq_make_63 (Nat.le_of_ble_eq_true rfl) (Nat.le_of_ble_eq_true rfl) (Nat.le_of_ble_eq_true rfl) (Nat.le_of_ble_eq_true rfl)
        · replace Hf := sq_ite_f Hf c4
          exact tx_throw hx hb htr hown ht hE hE.s114 (by rw [hml]; exact hl.1.symm) hout hlocks d_Sq_make_29 d_Sq_make_32 d_Sq_make_33 d_Sq_make_35 d_Sq_make_38 (Nat.le_of_ble_eq_true rfl) (Nat.le_of_ble_eq_true rfl) (Nat.le_of_ble_eq_true rfl) (Nat.le_of_ble_eq_true rfl)
    · replace Hf := sq_ite_f Hf c2
      exact tx_throw hx hb htr hown ht hE hE.s112 (by rw [hml]; exact hl.1.symm) hout hlocks d_Sq_make_9 d_Sq_make_12 d_Sq_make_13 d_Sq_make_15 d_Sq_make_18 (Nat.le_of_ble_eq_true rfl) (Nat.le_of_ble_eq_true rfl) (Nat.le_of_ble_eq_true rfl) (Nat.le_of_ble_eq_true rfl)

def ft_Sq_blank (p1 : Int32) : Option (Unit) :=
  if p1 < (1 : Int32) then (some ()) else (if p1 ≤ (40 : Int32) then (none) else (some ()))

def rmx_Sq_blank : Room := { frames := 6, cells := 1, slots := 6, locals := 90 }
set_option maxHeartbeats 4000000 in
set_option maxRecDepth 100000 in
theorem kx_Sq_blank (l : Launch) (hfl : l.stackTraces = false) (qt : Nat) (p1 : Int32) (ts : Nat → Nat) (Hf : ft_Sq_blank p1 = some ()) : sq_MT l y_Sq_blank w_Sq_blank rmx_Sq_blank (va_Pc [.ref qt, .int p1] (fun U => tx_E ts (fun _ => False) U U.heap)) tx_Q 1 6 := by
  refine sq_MT_ofW (cc := prog_1_method_7_code) (maxL := 2) (ret := (some .int)) (by decide) rfl ?_
  intro p e s m args below meth c s₁ B hml hv
  obtain ⟨rfl, hE⟩ := hv
  have hx := B.exec; have hb := B.bytes; have hlocks := B.notSynchronized
  have ht0 := atoms_spec (ws := w_Sq_blank) B.pre
  have ht : ∀ w ∈ lw_g, w.before _ s = true := fun w h => ht0 w (List.mem_cons_of_mem _ h)
  have hown : s.vm.findClass "SquareSymbols" = some m.cls := findClass_of_methodNamed B.named
  have htr : e.platform.stackTraces = false := by rw [(Stand.of_body B).admits.platform]; exact hfl
  have hout := B.noHandlers (ht0 _ List.mem_cons_self)
  have hl := lv_entry ([.ref qt, .int p1]) (n := 2) (Nat.le_of_ble_eq_true rfl)
  rw [lg_entry_eq]
  generalize (lg_sl ([.ref qt, .int p1]) ++ List.replicate (2 - (lg_sl ([.ref qt, .int p1])).length) Slot.unset).toArray = ls at hl ⊢
  have hl : lv_has ls 2 [(0, .ref qt), (1, .int p1)] := hl
  refine lv_iload_n hx hb d_Sq_blank_0 rfl (lv_at hl 1 rfl) ?_
  refine lv_iconst (v := (1 : Int32)) hx hb d_Sq_blank_1 (by decide) ?_
  refine lv_icmp_lt (tgt := 11) hx hb d_Sq_blank_2 (by decide) (fun c1 => ?_) (fun c1 => ?_)
  · replace Hf := sq_ite_t Hf c1
    exact tx_throw hx hb htr hown ht hE hE.s150 (by rw [hml]; exact hl.1.symm) hout hlocks d_Sq_blank_11 d_Sq_blank_14 d_Sq_blank_15 d_Sq_blank_17 d_Sq_blank_20 (Nat.le_of_ble_eq_true rfl) (Nat.le_of_ble_eq_true rfl) (Nat.le_of_ble_eq_true rfl) (Nat.le_of_ble_eq_true rfl)
  · replace Hf := sq_ite_f Hf c1
    refine lv_iload_n hx hb d_Sq_blank_5 rfl (lv_at hl 1 rfl) ?_
    refine lv_bipush (v := (40 : Int32)) hx hb d_Sq_blank_6 (by decide) ?_
    refine lv_icmp_le (tgt := 21) hx hb d_Sq_blank_8 (by decide) (fun c2 => ?_) (fun c2 => ?_)
    · replace Hf := sq_ite_t Hf c2
      refine lv_aload_n hx hb d_Sq_blank_21 rfl (lv_at hl 0 rfl) ?_
      exact sq_none Hf
    · replace Hf := sq_ite_f Hf c2
      exact tx_throw hx hb htr hown ht hE hE.s150 (by rw [hml]; exact hl.1.symm) hout hlocks d_Sq_blank_11 d_Sq_blank_14 d_Sq_blank_15 d_Sq_blank_17 d_Sq_blank_20 (Nat.le_of_ble_eq_true rfl) (Nat.le_of_ble_eq_true rfl) (Nat.le_of_ble_eq_true rfl) (Nat.le_of_ble_eq_true rfl)

def ft_Sq_told (p1 : Int32) : Option (Unit) :=
  if p1 < 0 then (some ()) else (if p1 ≤ (5 : Int32) then (none) else (some ()))

def rmx_Sq_told : Room := { frames := 6, cells := 1, slots := 6, locals := 90 }
set_option maxHeartbeats 4000000 in
set_option maxRecDepth 100000 in
theorem kx_Sq_told (l : Launch) (hfl : l.stackTraces = false) (qt : Nat) (p1 : Int32) (ts : Nat → Nat) (Hf : ft_Sq_told p1 = some ()) : sq_MT l y_Sq_told w_Sq_told rmx_Sq_told (va_Pc [.ref qt, .int p1] (fun U => tx_E ts (fun _ => False) U U.heap)) tx_Q 1 6 := by
  refine sq_MT_ofW (cc := prog_1_method_8_code) (maxL := 2) (ret := (some .int)) (by decide) rfl ?_
  intro p e s m args below meth c s₁ B hml hv
  obtain ⟨rfl, hE⟩ := hv
  have hx := B.exec; have hb := B.bytes; have hlocks := B.notSynchronized
  have ht0 := atoms_spec (ws := w_Sq_told) B.pre
  have ht : ∀ w ∈ lw_g, w.before _ s = true := fun w h => ht0 w (List.mem_cons_of_mem _ h)
  have hown : s.vm.findClass "SquareSymbols" = some m.cls := findClass_of_methodNamed B.named
  have htr : e.platform.stackTraces = false := by rw [(Stand.of_body B).admits.platform]; exact hfl
  have hout := B.noHandlers (ht0 _ List.mem_cons_self)
  have hl := lv_entry ([.ref qt, .int p1]) (n := 2) (Nat.le_of_ble_eq_true rfl)
  rw [lg_entry_eq]
  generalize (lg_sl ([.ref qt, .int p1]) ++ List.replicate (2 - (lg_sl ([.ref qt, .int p1])).length) Slot.unset).toArray = ls at hl ⊢
  have hl : lv_has ls 2 [(0, .ref qt), (1, .int p1)] := hl
  refine lv_iload_n hx hb d_Sq_told_0 rfl (lv_at hl 1 rfl) ?_
  refine lv_if_lt (tgt := 9) hx hb d_Sq_told_1 (by decide) (fun c1 => ?_) (fun c1 => ?_)
  · replace Hf := sq_ite_t Hf c1
    exact tx_throw hx hb htr hown ht hE hE.s161 (by rw [hml]; exact hl.1.symm) hout hlocks d_Sq_told_9 d_Sq_told_12 d_Sq_told_13 d_Sq_told_15 d_Sq_told_18 (Nat.le_of_ble_eq_true rfl) (Nat.le_of_ble_eq_true rfl) (Nat.le_of_ble_eq_true rfl) (Nat.le_of_ble_eq_true rfl)
  · replace Hf := sq_ite_f Hf c1
    refine lv_iload_n hx hb d_Sq_told_4 rfl (lv_at hl 1 rfl) ?_
    refine lv_iconst (v := (5 : Int32)) hx hb d_Sq_told_5 (by decide) ?_
    refine lv_icmp_le (tgt := 19) hx hb d_Sq_told_6 (by decide) (fun c2 => ?_) (fun c2 => ?_)
    · replace Hf := sq_ite_t Hf c2
      refine lv_aload_n hx hb d_Sq_told_19 rfl (lv_at hl 0 rfl) ?_
      exact sq_none Hf
    · replace Hf := sq_ite_f Hf c2
      exact tx_throw hx hb htr hown ht hE hE.s161 (by rw [hml]; exact hl.1.symm) hout hlocks d_Sq_told_9 d_Sq_told_12 d_Sq_told_13 d_Sq_told_15 d_Sq_told_18 (Nat.le_of_ble_eq_true rfl) (Nat.le_of_ble_eq_true rfl) (Nat.le_of_ble_eq_true rfl) (Nat.le_of_ble_eq_true rfl)

def ft_Sq_segment (p1 : Int32) (p2 : Int32) : Option (Unit) :=
  if p2 < 0 then (some ()) else (if p2 ≤ (1 : Int32) then (none) else (some ()))

def rmx_Sq_segment : Room := { frames := 6, cells := 1, slots := 6, locals := 90 }
set_option maxHeartbeats 4000000 in
set_option maxRecDepth 100000 in
theorem kx_Sq_segment (l : Launch) (hfl : l.stackTraces = false) (qt : Nat) (p1 : Int32) (p2 : Int32) (ts : Nat → Nat) (Hf : ft_Sq_segment p1 p2 = some ()) : sq_MT l y_Sq_segment w_Sq_segment rmx_Sq_segment (va_Pc [.ref qt, .int p1, .int p2] (fun U => tx_E ts (fun _ => False) U U.heap)) tx_Q 1 6 := by
  refine sq_MT_ofW (cc := prog_1_method_9_code) (maxL := 4) (ret := (some .int)) (by decide) rfl ?_
  intro p e s m args below meth c s₁ B hml hv
  obtain ⟨rfl, hE⟩ := hv
  have hx := B.exec; have hb := B.bytes; have hlocks := B.notSynchronized
  have ht0 := atoms_spec (ws := w_Sq_segment) B.pre
  have ht : ∀ w ∈ lw_g, w.before _ s = true := fun w h => ht0 w (List.mem_cons_of_mem _ h)
  have hown : s.vm.findClass "SquareSymbols" = some m.cls := findClass_of_methodNamed B.named
  have htr : e.platform.stackTraces = false := by rw [(Stand.of_body B).admits.platform]; exact hfl
  have hout := B.noHandlers (ht0 _ List.mem_cons_self)
  have hl := lv_entry ([.ref qt, .int p1, .int p2]) (n := 4) (Nat.le_of_ble_eq_true rfl)
  rw [lg_entry_eq]
  generalize (lg_sl ([.ref qt, .int p1, .int p2]) ++ List.replicate (4 - (lg_sl ([.ref qt, .int p1, .int p2])).length) Slot.unset).toArray = ls at hl ⊢
  have hl : lv_has ls 4 [(0, .ref qt), (1, .int p1), (2, .int p2)] := hl
  refine lv_iload_n hx hb d_Sq_segment_0 rfl (lv_at hl 2 rfl) ?_
  refine lv_if_lt (tgt := 9) hx hb d_Sq_segment_1 (by decide) (fun c1 => ?_) (fun c1 => ?_)
  · replace Hf := sq_ite_t Hf c1
    exact tx_throw hx hb htr hown ht hE hE.s167 (by rw [hml]; exact hl.1.symm) hout hlocks d_Sq_segment_9 d_Sq_segment_12 d_Sq_segment_13 d_Sq_segment_15 d_Sq_segment_18 (Nat.le_of_ble_eq_true rfl) (Nat.le_of_ble_eq_true rfl) (Nat.le_of_ble_eq_true rfl) (Nat.le_of_ble_eq_true rfl)
  · replace Hf := sq_ite_f Hf c1
    refine lv_iload_n hx hb d_Sq_segment_4 rfl (lv_at hl 2 rfl) ?_
    refine lv_iconst (v := (1 : Int32)) hx hb d_Sq_segment_5 (by decide) ?_
    refine lv_icmp_le (tgt := 19) hx hb d_Sq_segment_6 (by decide) (fun c2 => ?_) (fun c2 => ?_)
    · replace Hf := sq_ite_t Hf c2
      refine lv_aload_n hx hb d_Sq_segment_19 rfl (lv_at hl 0 rfl) ?_
      exact sq_none Hf
    · replace Hf := sq_ite_f Hf c2
      exact tx_throw hx hb htr hown ht hE hE.s167 (by rw [hml]; exact hl.1.symm) hout hlocks d_Sq_segment_9 d_Sq_segment_12 d_Sq_segment_13 d_Sq_segment_15 d_Sq_segment_18 (Nat.le_of_ble_eq_true rfl) (Nat.le_of_ble_eq_true rfl) (Nat.le_of_ble_eq_true rfl) (Nat.le_of_ble_eq_true rfl)

def ft_Sq_reading (p1 : Int32) : Option (Unit) :=
  if p1 < 0 then (some ()) else (if p1 ≤ (3 : Int32) then (none) else (some ()))

def rmx_Sq_reading : Room := { frames := 6, cells := 1, slots := 6, locals := 90 }
set_option maxHeartbeats 4000000 in
set_option maxRecDepth 100000 in
theorem kx_Sq_reading (l : Launch) (hfl : l.stackTraces = false) (qt : Nat) (p1 : Int32) (ts : Nat → Nat) (Hf : ft_Sq_reading p1 = some ()) : sq_MT l y_Sq_reading w_Sq_reading rmx_Sq_reading (va_Pc [.ref qt, .int p1] (fun U => tx_E ts (fun _ => False) U U.heap)) tx_Q 1 6 := by
  refine sq_MT_ofW (cc := prog_1_method_14_code) (maxL := 2) (ret := (some .int)) (by decide) rfl ?_
  intro p e s m args below meth c s₁ B hml hv
  obtain ⟨rfl, hE⟩ := hv
  have hx := B.exec; have hb := B.bytes; have hlocks := B.notSynchronized
  have ht0 := atoms_spec (ws := w_Sq_reading) B.pre
  have ht : ∀ w ∈ lw_g, w.before _ s = true := fun w h => ht0 w (List.mem_cons_of_mem _ h)
  have hown : s.vm.findClass "SquareSymbols" = some m.cls := findClass_of_methodNamed B.named
  have htr : e.platform.stackTraces = false := by rw [(Stand.of_body B).admits.platform]; exact hfl
  have hout := B.noHandlers (ht0 _ List.mem_cons_self)
  have hl := lv_entry ([.ref qt, .int p1]) (n := 2) (Nat.le_of_ble_eq_true rfl)
  rw [lg_entry_eq]
  generalize (lg_sl ([.ref qt, .int p1]) ++ List.replicate (2 - (lg_sl ([.ref qt, .int p1])).length) Slot.unset).toArray = ls at hl ⊢
  have hl : lv_has ls 2 [(0, .ref qt), (1, .int p1)] := hl
  refine lv_iload_n hx hb d_Sq_reading_0 rfl (lv_at hl 1 rfl) ?_
  refine lv_if_lt (tgt := 9) hx hb d_Sq_reading_1 (by decide) (fun c1 => ?_) (fun c1 => ?_)
  · replace Hf := sq_ite_t Hf c1
    exact tx_throw hx hb htr hown ht hE hE.s190 (by rw [hml]; exact hl.1.symm) hout hlocks d_Sq_reading_9 d_Sq_reading_12 d_Sq_reading_13 d_Sq_reading_15 d_Sq_reading_18 (Nat.le_of_ble_eq_true rfl) (Nat.le_of_ble_eq_true rfl) (Nat.le_of_ble_eq_true rfl) (Nat.le_of_ble_eq_true rfl)
  · replace Hf := sq_ite_f Hf c1
    refine lv_iload_n hx hb d_Sq_reading_4 rfl (lv_at hl 1 rfl) ?_
    refine lv_iconst (v := (3 : Int32)) hx hb d_Sq_reading_5 (by decide) ?_
    refine lv_icmp_le (tgt := 19) hx hb d_Sq_reading_6 (by decide) (fun c2 => ?_) (fun c2 => ?_)
    · replace Hf := sq_ite_t Hf c2
      refine lv_aload_n hx hb d_Sq_reading_19 rfl (lv_at hl 0 rfl) ?_
      exact sq_none Hf
    · replace Hf := sq_ite_f Hf c2
      exact tx_throw hx hb htr hown ht hE hE.s190 (by rw [hml]; exact hl.1.symm) hout hlocks d_Sq_reading_9 d_Sq_reading_12 d_Sq_reading_13 d_Sq_reading_15 d_Sq_reading_18 (Nat.le_of_ble_eq_true rfl) (Nat.le_of_ble_eq_true rfl) (Nat.le_of_ble_eq_true rfl) (Nat.le_of_ble_eq_true rfl)
