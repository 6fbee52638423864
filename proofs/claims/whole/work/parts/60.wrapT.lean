def rmt_Law_put : Room := { frames := 7, cells := 1, slots := 6, locals := 120 }
set_option maxHeartbeats 4000000 in
set_option maxRecDepth 100000 in
theorem kv_Law_put (l : Launch) (hfl : l.stackTraces = false) (dC : Nat → ClassId) (dI : Nat → Nat → Nat) (qp1 qp4 : Nat) (q_data q_division q_codewords q_mender q_parser q_symbol q_frame q_judge q_made q_madeSegments q_found : Nat) (v_isMade v_isRead v_lastFault : Int32) (p2 : Int32) (p3 : Int64) (ts : Nat → Nat) (sz : Nat) (Hf : ft_Sq_put p2 p3 = some ()) : Met l y_Law_put w_Law_put rmt_Law_put (va_Pc [.ref qp1, .int p2, .long p3, .ref qp4] (fun U => U.heap.size = sz ∧ va_P (dC, dI) cl_All [(qp1, .inr (9, [.ref q_data, .ref q_division, .ref q_codewords, .ref q_mender, .ref q_parser, .ref q_symbol, .ref q_frame, .ref q_judge, .int v_isMade, .ref q_made, .ref q_madeSegments, .int v_isRead, .ref q_found, .int v_lastFault]))] U.heap ∧ va_K (dC, dI) cl_All [] U ∧ tx_E ts (fun _ => False) U U.heap)) (va_Qi (fun r (_ : Unit) => r = 1) (fun _ _ => True) (fun q => sz ≤ q)) 1 6 (fun q => sz ≤ q) := by
  refine va_MetW (cc := method_3_code) (maxL := 6) (ret := (some .int)) (hh := [(0, 11, 14, 13)]) (by decide) rfl ?_
  intro p e s m args below meth c s₁ B hml hv
  obtain ⟨rfl, hsz, hP, hK, hE⟩ := hv
  subst hsz
  have hx := B.exec; have hb := B.bytes; have hr := B.returns; have hlocks := B.notSynchronized
  have ht0 := atoms_spec (ws := w_Law_put) B.pre
  have ht : ∀ w ∈ lw_g, w.before _ s = true := fun w h => ht0 w (List.mem_cons_of_mem _ h)
  have hown : s.vm.findClass "SquareSymbolsLaw" = some m.cls := findClass_of_methodNamed B.named
  have htb : c.exceptionTable.toList.map (fun h => (h.startPc, h.endPc, h.handlerPc, h.catchType)) = [(0, 11, 14, 13)] := by
    obtain ⟨m9, meth9, c9, hn9, h1, h2, -, -, h3, -⟩ := Cond.codeWith_spec (ht0 _ List.mem_cons_self)
    cases (B.named.symm.trans hn9)
    cases B.method.symm.trans h1
    cases (Stand.of_body B).code.symm.trans h2
    exact h3
  obtain ⟨x, htab, hxe⟩ : ∃ x : ExceptionTableEntry, c.exceptionTable.toList = [x] ∧ (x.startPc, x.endPc, x.handlerPc, x.catchType) = (0, 11, 14, 13) := by
    cases hL : c.exceptionTable.toList with
    | nil => rw [hL] at htb; simp at htb
    | cons x r =>
      cases r with
      | nil => exact ⟨x, rfl, by rw [hL] at htb; simpa using htb⟩
      | cons y r => rw [hL] at htb; simp at htb
  simp only [Prod.mk.injEq] at hxe
  obtain ⟨hx1, hx2, hx3, hx4⟩ := hxe
  have hl := lv_entry ([.ref qp1, .int p2, .long p3, .ref qp4]) (n := 6) (Nat.le_of_ble_eq_true rfl)
  rw [lg_entry_eq]
  generalize (lg_sl ([.ref qp1, .int p2, .long p3, .ref qp4]) ++ List.replicate (6 - (lg_sl ([.ref qp1, .int p2, .long p3, .ref qp4])).length) Slot.unset).toArray = ls at hl ⊢
  have hl : lv_has ls 6 [(0, .ref qp1), (1, .int p2), (2, .long p3), (4, .ref qp4)] := hl
  refine lv_aload hx hb d_Law_put_0 (lv_at hl 3 rfl) ?_
  refine lv_iconst (v := (0 : Int32)) hx hb d_Law_put_2 (by decide) ?_
  refine lv_aload_n hx hb d_Law_put_3 rfl (lv_at hl 0 rfl) ?_
  refine lv_iload_n hx hb d_Law_put_4 rfl (lv_at hl 1 rfl) ?_
  refine lv_lload_n hx hb d_Law_put_5 rfl (lv_at hl 2 rfl) ?_
  refine sq_callVT (As := [.int p2, .long p3]) (rest := [.int (0 : Int32), .ref qp4]) (b := qp1) ⟨hx, hb, hml, hown, ht⟩ (kx_Sq_put l hfl qp1 p2 p3 ts Hf) (cwV 2 ht (sq_gV tb_708 tb_709 tb_710 tb_1 tb_711) rfl rfl rfl (by decide +kernel) ⟨Nat.le_of_ble_eq_true rfl, Nat.le_of_ble_eq_true rfl⟩) ⟨fun a U g mk q => ⟨q.1, q.2.blind⟩, va_recv hK hP (ci := 9) (q0 := 0) rfl rfl, fun U hU hW => ⟨rfl, hE.go va_S.rf (fun _ h => h) hU hW⟩⟩ rfl hl.1 (Nat.le_of_ble_eq_true rfl) d_Law_put_6 ⟨Nat.le_of_ble_eq_true rfl, Nat.le_of_ble_eq_true rfl⟩ htab (by unfold covers; rw [hx1, hx2]; decide) (by rw [hx4]; decide) (name := "java/lang/IllegalArgumentException") (by rw [hx4]; exact ht _ tb_707) (fun a st v t hal hq => ?_) (fun v H1 hz ho => ?_)
  · obtain ⟨ce, a1, a2, a3, a4⟩ := hq
    exact ⟨ce, ce.cls, a1, by rw [a4]; rfl, by rw [← hal.findClass]; exact a2, by rw [← hal.assignable]; exact a3⟩
  rw [hx3]
  refine lv_astore (lv' := [(5, .ref v), (0, .ref qp1), (1, .int p2), (2, .long p3), (4, .ref qp4)]) hx hb d_Law_put_14 hl (by decide) rfl (fun ls hl => ?_)
  refine lv_iconst (v := (1 : Int32)) hx hb d_Law_put_16 (by decide) ?_
  exact W.iret hx hb hr (fun t ht9 hW => ⟨⟨_, (), rfl, rfl, trivial⟩, by rw [ht9]; exact hz, fun q h1 h2 => by rw [ht9]; exact ho q h1⟩) (fun q h => by cases h) d_Law_put_17

def rmt_Law_repeat : Room := { frames := 7, cells := 1, slots := 6, locals := 120 }
set_option maxHeartbeats 4000000 in
set_option maxRecDepth 100000 in
theorem kv_Law_repeat (l : Launch) (hfl : l.stackTraces = false) (dC : Nat → ClassId) (dI : Nat → Nat → Nat) (qp1 qp4 : Nat) (q_data q_division q_codewords q_mender q_parser q_symbol q_frame q_judge q_made q_madeSegments q_found : Nat) (v_isMade v_isRead v_lastFault : Int32) (p2 : Int32) (p3 : Int32) (ts : Nat → Nat) (sz : Nat) (Hf : ft_Sq_repeat p2 p3 = some ()) : Met l y_Law_repeat w_Law_repeat rmt_Law_repeat (va_Pc [.ref qp1, .int p2, .int p3, .ref qp4] (fun U => U.heap.size = sz ∧ va_P (dC, dI) cl_All [(qp1, .inr (9, [.ref q_data, .ref q_division, .ref q_codewords, .ref q_mender, .ref q_parser, .ref q_symbol, .ref q_frame, .ref q_judge, .int v_isMade, .ref q_made, .ref q_madeSegments, .int v_isRead, .ref q_found, .int v_lastFault]))] U.heap ∧ va_K (dC, dI) cl_All [] U ∧ tx_E ts (fun _ => False) U U.heap)) (va_Qi (fun r (_ : Unit) => r = 1) (fun _ _ => True) (fun q => sz ≤ q)) 1 6 (fun q => sz ≤ q) := by
  refine va_MetW (cc := method_4_code) (maxL := 5) (ret := (some .int)) (hh := [(0, 10, 13, 13)]) (by decide) rfl ?_
  intro p e s m args below meth c s₁ B hml hv
  obtain ⟨rfl, hsz, hP, hK, hE⟩ := hv
  subst hsz
  have hx := B.exec; have hb := B.bytes; have hr := B.returns; have hlocks := B.notSynchronized
  have ht0 := atoms_spec (ws := w_Law_repeat) B.pre
  have ht : ∀ w ∈ lw_g, w.before _ s = true := fun w h => ht0 w (List.mem_cons_of_mem _ h)
  have hown : s.vm.findClass "SquareSymbolsLaw" = some m.cls := findClass_of_methodNamed B.named
  have htb : c.exceptionTable.toList.map (fun h => (h.startPc, h.endPc, h.handlerPc, h.catchType)) = [(0, 10, 13, 13)] := by
    obtain ⟨m9, meth9, c9, hn9, h1, h2, -, -, h3, -⟩ := Cond.codeWith_spec (ht0 _ List.mem_cons_self)
    cases (B.named.symm.trans hn9)
    cases B.method.symm.trans h1
    cases (Stand.of_body B).code.symm.trans h2
    exact h3
  obtain ⟨x, htab, hxe⟩ : ∃ x : ExceptionTableEntry, c.exceptionTable.toList = [x] ∧ (x.startPc, x.endPc, x.handlerPc, x.catchType) = (0, 10, 13, 13) := by
    cases hL : c.exceptionTable.toList with
    | nil => rw [hL] at htb; simp at htb
    | cons x r =>
      cases r with
      | nil => exact ⟨x, rfl, by rw [hL] at htb; simpa using htb⟩
      | cons y r => rw [hL] at htb; simp at htb
  simp only [Prod.mk.injEq] at hxe
  obtain ⟨hx1, hx2, hx3, hx4⟩ := hxe
  have hl := lv_entry ([.ref qp1, .int p2, .int p3, .ref qp4]) (n := 5) (Nat.le_of_ble_eq_true rfl)
  rw [lg_entry_eq]
  generalize (lg_sl ([.ref qp1, .int p2, .int p3, .ref qp4]) ++ List.replicate (5 - (lg_sl ([.ref qp1, .int p2, .int p3, .ref qp4])).length) Slot.unset).toArray = ls at hl ⊢
  have hl : lv_has ls 5 [(0, .ref qp1), (1, .int p2), (2, .int p3), (3, .ref qp4)] := hl
  refine lv_aload_n hx hb d_Law_repeat_0 rfl (lv_at hl 3 rfl) ?_
  refine lv_iconst (v := (0 : Int32)) hx hb d_Law_repeat_1 (by decide) ?_
  refine lv_aload_n hx hb d_Law_repeat_2 rfl (lv_at hl 0 rfl) ?_
  refine lv_iload_n hx hb d_Law_repeat_3 rfl (lv_at hl 1 rfl) ?_
  refine lv_iload_n hx hb d_Law_repeat_4 rfl (lv_at hl 2 rfl) ?_
  refine sq_callVT (As := [.int p2, .int p3]) (rest := [.int (0 : Int32), .ref qp4]) (b := qp1) ⟨hx, hb, hml, hown, ht⟩ (kx_Sq_repeat l hfl qp1 p2 p3 ts Hf) (cwV 2 ht (sq_gV tb_785 tb_786 tb_787 tb_1 tb_788) rfl rfl rfl (by decide +kernel) ⟨Nat.le_of_ble_eq_true rfl, Nat.le_of_ble_eq_true rfl⟩) ⟨fun a U g mk q => ⟨q.1, q.2.blind⟩, va_recv hK hP (ci := 9) (q0 := 0) rfl rfl, fun U hU hW => ⟨rfl, hE.go va_S.rf (fun _ h => h) hU hW⟩⟩ rfl hl.1 (Nat.le_of_ble_eq_true rfl) d_Law_repeat_5 ⟨Nat.le_of_ble_eq_true rfl, Nat.le_of_ble_eq_true rfl⟩ htab (by unfold covers; rw [hx1, hx2]; decide) (by rw [hx4]; decide) (name := "java/lang/IllegalArgumentException") (by rw [hx4]; exact ht _ tb_707) (fun a st v t hal hq => ?_) (fun v H1 hz ho => ?_)
  · obtain ⟨ce, a1, a2, a3, a4⟩ := hq
    exact ⟨ce, ce.cls, a1, by rw [a4]; rfl, by rw [← hal.findClass]; exact a2, by rw [← hal.assignable]; exact a3⟩
  rw [hx3]
  refine lv_astore (lv' := [(4, .ref v), (0, .ref qp1), (1, .int p2), (2, .int p3), (3, .ref qp4)]) hx hb d_Law_repeat_13 hl (by decide) rfl (fun ls hl => ?_)
  refine lv_iconst (v := (1 : Int32)) hx hb d_Law_repeat_15 (by decide) ?_
  exact W.iret hx hb hr (fun t ht9 hW => ⟨⟨_, (), rfl, rfl, trivial⟩, by rw [ht9]; exact hz, fun q h1 h2 => by rw [ht9]; exact ho q h1⟩) (fun q h => by cases h) d_Law_repeat_16

def rmt_Law_make : Room := { frames := 7, cells := 1, slots := 6, locals := 120 }
set_option maxHeartbeats 4000000 in
set_option maxRecDepth 100000 in
theorem kv_Law_make (l : Launch) (hfl : l.stackTraces = false) (dC : Nat → ClassId) (dI : Nat → Nat → Nat) (qp1 qp5 : Nat) (q_data q_division q_codewords q_mender q_parser q_symbol q_frame q_judge q_made q_madeSegments q_found : Nat) (v_isMade v_isRead v_lastFault : Int32) (p2 : Int32) (p3 : Int32) (p4 : Int32) (ts : Nat → Nat) (sz : Nat) (Hf : ft_Sq_make p2 p3 p4 = some ()) : Met l y_Law_make w_Law_make rmt_Law_make (va_Pc [.ref qp1, .int p2, .int p3, .int p4, .ref qp5] (fun U => U.heap.size = sz ∧ va_P (dC, dI) cl_All [(qp1, .inr (9, [.ref q_data, .ref q_division, .ref q_codewords, .ref q_mender, .ref q_parser, .ref q_symbol, .ref q_frame, .ref q_judge, .int v_isMade, .ref q_made, .ref q_madeSegments, .int v_isRead, .ref q_found, .int v_lastFault]))] U.heap ∧ va_K (dC, dI) cl_All [] U ∧ tx_E ts (fun _ => False) U U.heap)) (va_Qi (fun r (_ : Unit) => r = 1) (fun _ _ => True) (fun q => sz ≤ q)) 1 6 (fun q => sz ≤ q) := by
  refine va_MetW (cc := method_5_code) (maxL := 6) (ret := (some .int)) (hh := [(0, 12, 15, 13)]) (by decide) rfl ?_
  intro p e s m args below meth c s₁ B hml hv
  obtain ⟨rfl, hsz, hP, hK, hE⟩ := hv
  subst hsz
  have hx := B.exec; have hb := B.bytes; have hr := B.returns; have hlocks := B.notSynchronized
  have ht0 := atoms_spec (ws := w_Law_make) B.pre
  have ht : ∀ w ∈ lw_g, w.before _ s = true := fun w h => ht0 w (List.mem_cons_of_mem _ h)
  have hown : s.vm.findClass "SquareSymbolsLaw" = some m.cls := findClass_of_methodNamed B.named
  have htb : c.exceptionTable.toList.map (fun h => (h.startPc, h.endPc, h.handlerPc, h.catchType)) = [(0, 12, 15, 13)] := by
    obtain ⟨m9, meth9, c9, hn9, h1, h2, -, -, h3, -⟩ := Cond.codeWith_spec (ht0 _ List.mem_cons_self)
    cases (B.named.symm.trans hn9)
    cases B.method.symm.trans h1
    cases (Stand.of_body B).code.symm.trans h2
    exact h3
  obtain ⟨x, htab, hxe⟩ : ∃ x : ExceptionTableEntry, c.exceptionTable.toList = [x] ∧ (x.startPc, x.endPc, x.handlerPc, x.catchType) = (0, 12, 15, 13) := by
    cases hL : c.exceptionTable.toList with
    | nil => rw [hL] at htb; simp at htb
    | cons x r =>
      cases r with
      | nil => exact ⟨x, rfl, by rw [hL] at htb; simpa using htb⟩
      | cons y r => rw [hL] at htb; simp at htb
  simp only [Prod.mk.injEq] at hxe
  obtain ⟨hx1, hx2, hx3, hx4⟩ := hxe
  have hl := lv_entry ([.ref qp1, .int p2, .int p3, .int p4, .ref qp5]) (n := 6) (Nat.le_of_ble_eq_true rfl)
  rw [lg_entry_eq]
  generalize (lg_sl ([.ref qp1, .int p2, .int p3, .int p4, .ref qp5]) ++ List.replicate (6 - (lg_sl ([.ref qp1, .int p2, .int p3, .int p4, .ref qp5])).length) Slot.unset).toArray = ls at hl ⊢
  have hl : lv_has ls 6 [(0, .ref qp1), (1, .int p2), (2, .int p3), (3, .int p4), (4, .ref qp5)] := hl
  refine lv_aload hx hb d_Law_make_0 (lv_at hl 4 rfl) ?_
  refine lv_iconst (v := (0 : Int32)) hx hb d_Law_make_2 (by decide) ?_
  refine lv_aload_n hx hb d_Law_make_3 rfl (lv_at hl 0 rfl) ?_
  refine lv_iload_n hx hb d_Law_make_4 rfl (lv_at hl 1 rfl) ?_
  refine lv_iload_n hx hb d_Law_make_5 rfl (lv_at hl 2 rfl) ?_
  refine lv_iload_n hx hb d_Law_make_6 rfl (lv_at hl 3 rfl) ?_
  refine sq_callVT (As := [.int p2, .int p3, .int p4]) (rest := [.int (0 : Int32), .ref qp5]) (b := qp1) ⟨hx, hb, hml, hown, ht⟩ (kx_Sq_make l hfl qp1 p2 p3 p4 ts Hf) (cwV 3 ht (sq_gV tb_794 tb_795 tb_796 tb_1 tb_797) rfl rfl rfl (by decide +kernel) ⟨Nat.le_of_ble_eq_true rfl, Nat.le_of_ble_eq_true rfl⟩) ⟨fun a U g mk q => ⟨q.1, q.2.blind⟩, va_recv hK hP (ci := 9) (q0 := 0) rfl rfl, fun U hU hW => ⟨rfl, hE.go va_S.rf (fun _ h => h) hU hW⟩⟩ rfl hl.1 (Nat.le_of_ble_eq_true rfl) d_Law_make_7 ⟨Nat.le_of_ble_eq_true rfl, Nat.le_of_ble_eq_true rfl⟩ htab (by unfold covers; rw [hx1, hx2]; decide) (by rw [hx4]; decide) (name := "java/lang/IllegalArgumentException") (by rw [hx4]; exact ht _ tb_707) (fun a st v t hal hq => ?_) (fun v H1 hz ho => ?_)
  · obtain ⟨ce, a1, a2, a3, a4⟩ := hq
    exact ⟨ce, ce.cls, a1, by rw [a4]; rfl, by rw [← hal.findClass]; exact a2, by rw [← hal.assignable]; exact a3⟩
  rw [hx3]
  refine lv_astore (lv' := [(5, .ref v), (0, .ref qp1), (1, .int p2), (2, .int p3), (3, .int p4), (4, .ref qp5)]) hx hb d_Law_make_15 hl (by decide) rfl (fun ls hl => ?_)
  refine lv_iconst (v := (1 : Int32)) hx hb d_Law_make_17 (by decide) ?_
  exact W.iret hx hb hr (fun t ht9 hW => ⟨⟨_, (), rfl, rfl, trivial⟩, by rw [ht9]; exact hz, fun q h1 h2 => by rw [ht9]; exact ho q h1⟩) (fun q h => by cases h) d_Law_make_18

def rmt_Law_blank : Room := { frames := 7, cells := 1, slots := 6, locals := 120 }
set_option maxHeartbeats 4000000 in
set_option maxRecDepth 100000 in
theorem kv_Law_blank (l : Launch) (hfl : l.stackTraces = false) (dC : Nat → ClassId) (dI : Nat → Nat → Nat) (qp1 qp3 : Nat) (q_data q_division q_codewords q_mender q_parser q_symbol q_frame q_judge q_made q_madeSegments q_found : Nat) (v_isMade v_isRead v_lastFault : Int32) (p2 : Int32) (ts : Nat → Nat) (sz : Nat) (Hf : ft_Sq_blank p2 = some ()) : Met l y_Law_blank w_Law_blank rmt_Law_blank (va_Pc [.ref qp1, .int p2, .ref qp3] (fun U => U.heap.size = sz ∧ va_P (dC, dI) cl_All [(qp1, .inr (9, [.ref q_data, .ref q_division, .ref q_codewords, .ref q_mender, .ref q_parser, .ref q_symbol, .ref q_frame, .ref q_judge, .int v_isMade, .ref q_made, .ref q_madeSegments, .int v_isRead, .ref q_found, .int v_lastFault]))] U.heap ∧ va_K (dC, dI) cl_All [] U ∧ tx_E ts (fun _ => False) U U.heap)) (va_Qi (fun r (_ : Unit) => r = 1) (fun _ _ => True) (fun q => sz ≤ q)) 1 6 (fun q => sz ≤ q) := by
  refine va_MetW (cc := method_6_code) (maxL := 4) (ret := (some .int)) (hh := [(0, 9, 12, 13)]) (by decide) rfl ?_
  intro p e s m args below meth c s₁ B hml hv
  obtain ⟨rfl, hsz, hP, hK, hE⟩ := hv
  subst hsz
  have hx := B.exec; have hb := B.bytes; have hr := B.returns; have hlocks := B.notSynchronized
  have ht0 := atoms_spec (ws := w_Law_blank) B.pre
  have ht : ∀ w ∈ lw_g, w.before _ s = true := fun w h => ht0 w (List.mem_cons_of_mem _ h)
  have hown : s.vm.findClass "SquareSymbolsLaw" = some m.cls := findClass_of_methodNamed B.named
  have htb : c.exceptionTable.toList.map (fun h => (h.startPc, h.endPc, h.handlerPc, h.catchType)) = [(0, 9, 12, 13)] := by
    obtain ⟨m9, meth9, c9, hn9, h1, h2, -, -, h3, -⟩ := Cond.codeWith_spec (ht0 _ List.mem_cons_self)
    cases (B.named.symm.trans hn9)
    cases B.method.symm.trans h1
    cases (Stand.of_body B).code.symm.trans h2
    exact h3
  obtain ⟨x, htab, hxe⟩ : ∃ x : ExceptionTableEntry, c.exceptionTable.toList = [x] ∧ (x.startPc, x.endPc, x.handlerPc, x.catchType) = (0, 9, 12, 13) := by
    cases hL : c.exceptionTable.toList with
    | nil => rw [hL] at htb; simp at htb
    | cons x r =>
      cases r with
      | nil => exact ⟨x, rfl, by rw [hL] at htb; simpa using htb⟩
      | cons y r => rw [hL] at htb; simp at htb
  simp only [Prod.mk.injEq] at hxe
  obtain ⟨hx1, hx2, hx3, hx4⟩ := hxe
  have hl := lv_entry ([.ref qp1, .int p2, .ref qp3]) (n := 4) (Nat.le_of_ble_eq_true rfl)
  rw [lg_entry_eq]
  generalize (lg_sl ([.ref qp1, .int p2, .ref qp3]) ++ List.replicate (4 - (lg_sl ([.ref qp1, .int p2, .ref qp3])).length) Slot.unset).toArray = ls at hl ⊢
  have hl : lv_has ls 4 [(0, .ref qp1), (1, .int p2), (2, .ref qp3)] := hl
  refine lv_aload_n hx hb d_Law_blank_0 rfl (lv_at hl 2 rfl) ?_
  refine lv_iconst (v := (0 : Int32)) hx hb d_Law_blank_1 (by decide) ?_
  refine lv_aload_n hx hb d_Law_blank_2 rfl (lv_at hl 0 rfl) ?_
  refine lv_iload_n hx hb d_Law_blank_3 rfl (lv_at hl 1 rfl) ?_
  refine sq_callVT (As := [.int p2]) (rest := [.int (0 : Int32), .ref qp3]) (b := qp1) ⟨hx, hb, hml, hown, ht⟩ (kx_Sq_blank l hfl qp1 p2 ts Hf) (cwV 1 ht (sq_gV tb_1024 tb_1025 tb_1026 tb_1 tb_1027) rfl rfl rfl (by decide +kernel) ⟨Nat.le_of_ble_eq_true rfl, Nat.le_of_ble_eq_true rfl⟩) ⟨fun a U g mk q => ⟨q.1, q.2.blind⟩, va_recv hK hP (ci := 9) (q0 := 0) rfl rfl, fun U hU hW => ⟨rfl, hE.go va_S.rf (fun _ h => h) hU hW⟩⟩ rfl hl.1 (Nat.le_of_ble_eq_true rfl) d_Law_blank_4 ⟨Nat.le_of_ble_eq_true rfl, Nat.le_of_ble_eq_true rfl⟩ htab (by unfold covers; rw [hx1, hx2]; decide) (by rw [hx4]; decide) (name := "java/lang/IllegalArgumentException") (by rw [hx4]; exact ht _ tb_707) (fun a st v t hal hq => ?_) (fun v H1 hz ho => ?_)
  · obtain ⟨ce, a1, a2, a3, a4⟩ := hq
    exact ⟨ce, ce.cls, a1, by rw [a4]; rfl, by rw [← hal.findClass]; exact a2, by rw [← hal.assignable]; exact a3⟩
  rw [hx3]
  refine lv_astore_n (lv' := [(3, .ref v), (0, .ref qp1), (1, .int p2), (2, .ref qp3)]) hx hb d_Law_blank_12 rfl hl (by decide) rfl (fun ls hl => ?_)
  refine lv_iconst (v := (1 : Int32)) hx hb d_Law_blank_13 (by decide) ?_
  exact W.iret hx hb hr (fun t ht9 hW => ⟨⟨_, (), rfl, rfl, trivial⟩, by rw [ht9]; exact hz, fun q h1 h2 => by rw [ht9]; exact ho q h1⟩) (fun q h => by cases h) d_Law_blank_14

def rmt_Law_told : Room := { frames := 7, cells := 1, slots := 6, locals := 120 }
set_option maxHeartbeats 4000000 in
set_option maxRecDepth 100000 in
theorem kv_Law_told (l : Launch) (hfl : l.stackTraces = false) (dC : Nat → ClassId) (dI : Nat → Nat → Nat) (qp1 qp3 : Nat) (q_data q_division q_codewords q_mender q_parser q_symbol q_frame q_judge q_made q_madeSegments q_found : Nat) (v_isMade v_isRead v_lastFault : Int32) (p2 : Int32) (ts : Nat → Nat) (sz : Nat) (Hf : ft_Sq_told p2 = some ()) : Met l y_Law_told w_Law_told rmt_Law_told (va_Pc [.ref qp1, .int p2, .ref qp3] (fun U => U.heap.size = sz ∧ va_P (dC, dI) cl_All [(qp1, .inr (9, [.ref q_data, .ref q_division, .ref q_codewords, .ref q_mender, .ref q_parser, .ref q_symbol, .ref q_frame, .ref q_judge, .int v_isMade, .ref q_made, .ref q_madeSegments, .int v_isRead, .ref q_found, .int v_lastFault]))] U.heap ∧ va_K (dC, dI) cl_All [] U ∧ tx_E ts (fun _ => False) U U.heap)) (va_Qi (fun r (_ : Unit) => r = 1) (fun _ _ => True) (fun q => sz ≤ q)) 1 6 (fun q => sz ≤ q) := by
  refine va_MetW (cc := method_7_code) (maxL := 4) (ret := (some .int)) (hh := [(0, 9, 12, 13)]) (by decide) rfl ?_
  intro p e s m args below meth c s₁ B hml hv
  obtain ⟨rfl, hsz, hP, hK, hE⟩ := hv
  subst hsz
  have hx := B.exec; have hb := B.bytes; have hr := B.returns; have hlocks := B.notSynchronized
  have ht0 := atoms_spec (ws := w_Law_told) B.pre
  have ht : ∀ w ∈ lw_g, w.before _ s = true := fun w h => ht0 w (List.mem_cons_of_mem _ h)
  have hown : s.vm.findClass "SquareSymbolsLaw" = some m.cls := findClass_of_methodNamed B.named
  have htb : c.exceptionTable.toList.map (fun h => (h.startPc, h.endPc, h.handlerPc, h.catchType)) = [(0, 9, 12, 13)] := by
    obtain ⟨m9, meth9, c9, hn9, h1, h2, -, -, h3, -⟩ := Cond.codeWith_spec (ht0 _ List.mem_cons_self)
    cases (B.named.symm.trans hn9)
    cases B.method.symm.trans h1
    cases (Stand.of_body B).code.symm.trans h2
    exact h3
  obtain ⟨x, htab, hxe⟩ : ∃ x : ExceptionTableEntry, c.exceptionTable.toList = [x] ∧ (x.startPc, x.endPc, x.handlerPc, x.catchType) = (0, 9, 12, 13) := by
    cases hL : c.exceptionTable.toList with
    | nil => rw [hL] at htb; simp at htb
    | cons x r =>
      cases r with
      | nil => exact ⟨x, rfl, by rw [hL] at htb; simpa using htb⟩
      | cons y r => rw [hL] at htb; simp at htb
  simp only [Prod.mk.injEq] at hxe
  obtain ⟨hx1, hx2, hx3, hx4⟩ := hxe
  have hl := lv_entry ([.ref qp1, .int p2, .ref qp3]) (n := 4) (Nat.le_of_ble_eq_true rfl)
  rw [lg_entry_eq]
  generalize (lg_sl ([.ref qp1, .int p2, .ref qp3]) ++ List.replicate (4 - (lg_sl ([.ref qp1, .int p2, .ref qp3])).length) Slot.unset).toArray = ls at hl ⊢
  have hl : lv_has ls 4 [(0, .ref qp1), (1, .int p2), (2, .ref qp3)] := hl
  refine lv_aload_n hx hb d_Law_told_0 rfl (lv_at hl 2 rfl) ?_
  refine lv_iconst (v := (0 : Int32)) hx hb d_Law_told_1 (by decide) ?_
  refine lv_aload_n hx hb d_Law_told_2 rfl (lv_at hl 0 rfl) ?_
  refine lv_iload_n hx hb d_Law_told_3 rfl (lv_at hl 1 rfl) ?_
  refine sq_callVT (As := [.int p2]) (rest := [.int (0 : Int32), .ref qp3]) (b := qp1) ⟨hx, hb, hml, hown, ht⟩ (kx_Sq_told l hfl qp1 p2 ts Hf) (cwV 1 ht (sq_gV tb_1034 tb_1035 tb_1036 tb_1 tb_1037) rfl rfl rfl (by decide +kernel) ⟨Nat.le_of_ble_eq_true rfl, Nat.le_of_ble_eq_true rfl⟩) ⟨fun a U g mk q => ⟨q.1, q.2.blind⟩, va_recv hK hP (ci := 9) (q0 := 0) rfl rfl, fun U hU hW => ⟨rfl, hE.go va_S.rf (fun _ h => h) hU hW⟩⟩ rfl hl.1 (Nat.le_of_ble_eq_true rfl) d_Law_told_4 ⟨Nat.le_of_ble_eq_true rfl, Nat.le_of_ble_eq_true rfl⟩ htab (by unfold covers; rw [hx1, hx2]; decide) (by rw [hx4]; decide) (name := "java/lang/IllegalArgumentException") (by rw [hx4]; exact ht _ tb_707) (fun a st v t hal hq => ?_) (fun v H1 hz ho => ?_)
  · obtain ⟨ce, a1, a2, a3, a4⟩ := hq
    exact ⟨ce, ce.cls, a1, by rw [a4]; rfl, by rw [← hal.findClass]; exact a2, by rw [← hal.assignable]; exact a3⟩
  rw [hx3]
  refine lv_astore_n (lv' := [(3, .ref v), (0, .ref qp1), (1, .int p2), (2, .ref qp3)]) hx hb d_Law_told_12 rfl hl (by decide) rfl (fun ls hl => ?_)
  refine lv_iconst (v := (1 : Int32)) hx hb d_Law_told_13 (by decide) ?_
  exact W.iret hx hb hr (fun t ht9 hW => ⟨⟨_, (), rfl, rfl, trivial⟩, by rw [ht9]; exact hz, fun q h1 h2 => by rw [ht9]; exact ho q h1⟩) (fun q h => by cases h) d_Law_told_14

def rmt_Law_segment : Room := { frames := 7, cells := 1, slots := 6, locals := 120 }
set_option maxHeartbeats 4000000 in
set_option maxRecDepth 100000 in
theorem kv_Law_segment (l : Launch) (hfl : l.stackTraces = false) (dC : Nat → ClassId) (dI : Nat → Nat → Nat) (qp1 qp4 : Nat) (q_data q_division q_codewords q_mender q_parser q_symbol q_frame q_judge q_made q_madeSegments q_found : Nat) (v_isMade v_isRead v_lastFault : Int32) (p2 : Int32) (p3 : Int32) (ts : Nat → Nat) (sz : Nat) (Hf : ft_Sq_segment p2 p3 = some ()) : Met l y_Law_segment w_Law_segment rmt_Law_segment (va_Pc [.ref qp1, .int p2, .int p3, .ref qp4] (fun U => U.heap.size = sz ∧ va_P (dC, dI) cl_All [(qp1, .inr (9, [.ref q_data, .ref q_division, .ref q_codewords, .ref q_mender, .ref q_parser, .ref q_symbol, .ref q_frame, .ref q_judge, .int v_isMade, .ref q_made, .ref q_madeSegments, .int v_isRead, .ref q_found, .int v_lastFault]))] U.heap ∧ va_K (dC, dI) cl_All [] U ∧ tx_E ts (fun _ => False) U U.heap)) (va_Qi (fun r (_ : Unit) => r = 1) (fun _ _ => True) (fun q => sz ≤ q)) 1 6 (fun q => sz ≤ q) := by
  refine va_MetW (cc := method_8_code) (maxL := 5) (ret := (some .int)) (hh := [(0, 10, 13, 13)]) (by decide) rfl ?_
  intro p e s m args below meth c s₁ B hml hv
  obtain ⟨rfl, hsz, hP, hK, hE⟩ := hv
  subst hsz
  have hx := B.exec; have hb := B.bytes; have hr := B.returns; have hlocks := B.notSynchronized
  have ht0 := atoms_spec (ws := w_Law_segment) B.pre
  have ht : ∀ w ∈ lw_g, w.before _ s = true := fun w h => ht0 w (List.mem_cons_of_mem _ h)
  have hown : s.vm.findClass "SquareSymbolsLaw" = some m.cls := findClass_of_methodNamed B.named
  have htb : c.exceptionTable.toList.map (fun h => (h.startPc, h.endPc, h.handlerPc, h.catchType)) = [(0, 10, 13, 13)] := by
    obtain ⟨m9, meth9, c9, hn9, h1, h2, -, -, h3, -⟩ := Cond.codeWith_spec (ht0 _ List.mem_cons_self)
    cases (B.named.symm.trans hn9)
    cases B.method.symm.trans h1
    cases (Stand.of_body B).code.symm.trans h2
    exact h3
  obtain ⟨x, htab, hxe⟩ : ∃ x : ExceptionTableEntry, c.exceptionTable.toList = [x] ∧ (x.startPc, x.endPc, x.handlerPc, x.catchType) = (0, 10, 13, 13) := by
    cases hL : c.exceptionTable.toList with
    | nil => rw [hL] at htb; simp at htb
    | cons x r =>
      cases r with
      | nil => exact ⟨x, rfl, by rw [hL] at htb; simpa using htb⟩
      | cons y r => rw [hL] at htb; simp at htb
  simp only [Prod.mk.injEq] at hxe
  obtain ⟨hx1, hx2, hx3, hx4⟩ := hxe
  have hl := lv_entry ([.ref qp1, .int p2, .int p3, .ref qp4]) (n := 5) (Nat.le_of_ble_eq_true rfl)
  rw [lg_entry_eq]
  generalize (lg_sl ([.ref qp1, .int p2, .int p3, .ref qp4]) ++ List.replicate (5 - (lg_sl ([.ref qp1, .int p2, .int p3, .ref qp4])).length) Slot.unset).toArray = ls at hl ⊢
  have hl : lv_has ls 5 [(0, .ref qp1), (1, .int p2), (2, .int p3), (3, .ref qp4)] := hl
  refine lv_aload_n hx hb d_Law_segment_0 rfl (lv_at hl 3 rfl) ?_
  refine lv_iconst (v := (0 : Int32)) hx hb d_Law_segment_1 (by decide) ?_
  refine lv_aload_n hx hb d_Law_segment_2 rfl (lv_at hl 0 rfl) ?_
  refine lv_iload_n hx hb d_Law_segment_3 rfl (lv_at hl 1 rfl) ?_
  refine lv_iload_n hx hb d_Law_segment_4 rfl (lv_at hl 2 rfl) ?_
  refine sq_callVT (As := [.int p2, .int p3]) (rest := [.int (0 : Int32), .ref qp4]) (b := qp1) ⟨hx, hb, hml, hown, ht⟩ (kx_Sq_segment l hfl qp1 p2 p3 ts Hf) (cwV 2 ht (sq_gV tb_1043 tb_1044 tb_1045 tb_1 tb_1046) rfl rfl rfl (by decide +kernel) ⟨Nat.le_of_ble_eq_true rfl, Nat.le_of_ble_eq_true rfl⟩) ⟨fun a U g mk q => ⟨q.1, q.2.blind⟩, va_recv hK hP (ci := 9) (q0 := 0) rfl rfl, fun U hU hW => ⟨rfl, hE.go va_S.rf (fun _ h => h) hU hW⟩⟩ rfl hl.1 (Nat.le_of_ble_eq_true rfl) d_Law_segment_5 ⟨Nat.le_of_ble_eq_true rfl, Nat.le_of_ble_eq_true rfl⟩ htab (by unfold covers; rw [hx1, hx2]; decide) (by rw [hx4]; decide) (name := "java/lang/IllegalArgumentException") (by rw [hx4]; exact ht _ tb_707) (fun a st v t hal hq => ?_) (fun v H1 hz ho => ?_)
  · obtain ⟨ce, a1, a2, a3, a4⟩ := hq
    exact ⟨ce, ce.cls, a1, by rw [a4]; rfl, by rw [← hal.findClass]; exact a2, by rw [← hal.assignable]; exact a3⟩
  rw [hx3]
  refine lv_astore (lv' := [(4, .ref v), (0, .ref qp1), (1, .int p2), (2, .int p3), (3, .ref qp4)]) hx hb d_Law_segment_13 hl (by decide) rfl (fun ls hl => ?_)
  refine lv_iconst (v := (1 : Int32)) hx hb d_Law_segment_15 (by decide) ?_
  exact W.iret hx hb hr (fun t ht9 hW => ⟨⟨_, (), rfl, rfl, trivial⟩, by rw [ht9]; exact hz, fun q h1 h2 => by rw [ht9]; exact ho q h1⟩) (fun q h => by cases h) d_Law_segment_16

def rmt_Law_reading : Room := { frames := 7, cells := 1, slots := 6, locals := 120 }
set_option maxHeartbeats 4000000 in
set_option maxRecDepth 100000 in
theorem kv_Law_reading (l : Launch) (hfl : l.stackTraces = false) (dC : Nat → ClassId) (dI : Nat → Nat → Nat) (qp1 qp3 : Nat) (q_data q_division q_codewords q_mender q_parser q_symbol q_frame q_judge q_made q_madeSegments q_found : Nat) (v_isMade v_isRead v_lastFault : Int32) (p2 : Int32) (ts : Nat → Nat) (sz : Nat) (Hf : ft_Sq_reading p2 = some ()) : Met l y_Law_reading w_Law_reading rmt_Law_reading (va_Pc [.ref qp1, .int p2, .ref qp3] (fun U => U.heap.size = sz ∧ va_P (dC, dI) cl_All [(qp1, .inr (9, [.ref q_data, .ref q_division, .ref q_codewords, .ref q_mender, .ref q_parser, .ref q_symbol, .ref q_frame, .ref q_judge, .int v_isMade, .ref q_made, .ref q_madeSegments, .int v_isRead, .ref q_found, .int v_lastFault]))] U.heap ∧ va_K (dC, dI) cl_All [] U ∧ tx_E ts (fun _ => False) U U.heap)) (va_Qi (fun r (_ : Unit) => r = 1) (fun _ _ => True) (fun q => sz ≤ q)) 1 6 (fun q => sz ≤ q) := by
  refine va_MetW (cc := method_9_code) (maxL := 4) (ret := (some .int)) (hh := [(0, 9, 12, 13)]) (by decide) rfl ?_
  intro p e s m args below meth c s₁ B hml hv
  obtain ⟨rfl, hsz, hP, hK, hE⟩ := hv
  subst hsz
  have hx := B.exec; have hb := B.bytes; have hr := B.returns; have hlocks := B.notSynchronized
  have ht0 := atoms_spec (ws := w_Law_reading) B.pre
  have ht : ∀ w ∈ lw_g, w.before _ s = true := fun w h => ht0 w (List.mem_cons_of_mem _ h)
  have hown : s.vm.findClass "SquareSymbolsLaw" = some m.cls := findClass_of_methodNamed B.named
  have htb : c.exceptionTable.toList.map (fun h => (h.startPc, h.endPc, h.handlerPc, h.catchType)) = [(0, 9, 12, 13)] := by
    obtain ⟨m9, meth9, c9, hn9, h1, h2, -, -, h3, -⟩ := Cond.codeWith_spec (ht0 _ List.mem_cons_self)
    cases (B.named.symm.trans hn9)
    cases B.method.symm.trans h1
    cases (Stand.of_body B).code.symm.trans h2
    exact h3
  obtain ⟨x, htab, hxe⟩ : ∃ x : ExceptionTableEntry, c.exceptionTable.toList = [x] ∧ (x.startPc, x.endPc, x.handlerPc, x.catchType) = (0, 9, 12, 13) := by
    cases hL : c.exceptionTable.toList with
    | nil => rw [hL] at htb; simp at htb
    | cons x r =>
      cases r with
      | nil => exact ⟨x, rfl, by rw [hL] at htb; simpa using htb⟩
      | cons y r => rw [hL] at htb; simp at htb
  simp only [Prod.mk.injEq] at hxe
  obtain ⟨hx1, hx2, hx3, hx4⟩ := hxe
  have hl := lv_entry ([.ref qp1, .int p2, .ref qp3]) (n := 4) (Nat.le_of_ble_eq_true rfl)
  rw [lg_entry_eq]
  generalize (lg_sl ([.ref qp1, .int p2, .ref qp3]) ++ List.replicate (4 - (lg_sl ([.ref qp1, .int p2, .ref qp3])).length) Slot.unset).toArray = ls at hl ⊢
  have hl : lv_has ls 4 [(0, .ref qp1), (1, .int p2), (2, .ref qp3)] := hl
  refine lv_aload_n hx hb d_Law_reading_0 rfl (lv_at hl 2 rfl) ?_
  refine lv_iconst (v := (0 : Int32)) hx hb d_Law_reading_1 (by decide) ?_
  refine lv_aload_n hx hb d_Law_reading_2 rfl (lv_at hl 0 rfl) ?_
  refine lv_iload_n hx hb d_Law_reading_3 rfl (lv_at hl 1 rfl) ?_
  refine sq_callVT (As := [.int p2]) (rest := [.int (0 : Int32), .ref qp3]) (b := qp1) ⟨hx, hb, hml, hown, ht⟩ (kx_Sq_reading l hfl qp1 p2 ts Hf) (cwV 1 ht (sq_gV tb_1051 tb_1052 tb_1053 tb_1 tb_1054) rfl rfl rfl (by decide +kernel) ⟨Nat.le_of_ble_eq_true rfl, Nat.le_of_ble_eq_true rfl⟩) ⟨fun a U g mk q => ⟨q.1, q.2.blind⟩, va_recv hK hP (ci := 9) (q0 := 0) rfl rfl, fun U hU hW => ⟨rfl, hE.go va_S.rf (fun _ h => h) hU hW⟩⟩ rfl hl.1 (Nat.le_of_ble_eq_true rfl) d_Law_reading_4 ⟨Nat.le_of_ble_eq_true rfl, Nat.le_of_ble_eq_true rfl⟩ htab (by unfold covers; rw [hx1, hx2]; decide) (by rw [hx4]; decide) (name := "java/lang/IllegalArgumentException") (by rw [hx4]; exact ht _ tb_707) (fun a st v t hal hq => ?_) (fun v H1 hz ho => ?_)
  · obtain ⟨ce, a1, a2, a3, a4⟩ := hq
    exact ⟨ce, ce.cls, a1, by rw [a4]; rfl, by rw [← hal.findClass]; exact a2, by rw [← hal.assignable]; exact a3⟩
  rw [hx3]
  refine lv_astore_n (lv' := [(3, .ref v), (0, .ref qp1), (1, .int p2), (2, .ref qp3)]) hx hb d_Law_reading_12 rfl hl (by decide) rfl (fun ls hl => ?_)
  refine lv_iconst (v := (1 : Int32)) hx hb d_Law_reading_13 (by decide) ?_
  exact W.iret hx hb hr (fun t ht9 hW => ⟨⟨_, (), rfl, rfl, trivial⟩, by rw [ht9]; exact hz, fun q h1 h2 => by rw [ht9]; exact ho q h1⟩) (fun q h => by cases h) d_Law_reading_14
