abbrev tx_A : List Cond := Bundle.ownAtoms "SquareSymbols" 86 "java/lang/IllegalArgumentException" ["java/lang/RuntimeException", "java/lang/Exception"]
abbrev tx_B : List Cond := [.declares ⟨"java/lang/RuntimeException", "<init>", "(Ljava/lang/String;)V"⟩, .declares ⟨"java/lang/Exception", "<init>", "(Ljava/lang/String;)V"⟩, .declares ⟨"java/lang/Throwable", "<init>", "(Ljava/lang/String;)V"⟩, .castable "java/lang/IllegalArgumentException" "java/lang/IllegalArgumentException"]
abbrev tx_C : List Cond := [.laysStatic "java/lang/Throwable" "UNASSIGNED_STACK" "[Ljava/lang/StackTraceElement;", .laysStatic "java/lang/Throwable" "SUPPRESSED_SENTINEL" "Ljava/util/List;", .isRef (.static "java/lang/Throwable" "UNASSIGNED_STACK" "[Ljava/lang/StackTraceElement;"), .isRef (.static "java/lang/Throwable" "SUPPRESSED_SENTINEL" "Ljava/util/List;")]
theorem tx_split : ∀ a ∈ tx_A, a ∈ lw_g ∨ a ∈ tx_B ∨ a ∈ tx_C := by decide +kernel
/-- a static that is laid, and holds a reference or null -/
def tz_L (C n d : String) (A : Nat → Prop) (U : State) (H : Heap) : Prop := ∃ (c : ClassId) (k : Class) (i : Nat) (f : Field) (a : Nat) (cell : Cell) (v : Value), U.vm.findClass C = some c ∧ U.fieldFound? C n d = some (c, k, i, f) ∧ f.isStatic = true ∧ k.statics = some a ∧ H[a]? = some cell ∧ cell.vm.isStatics = true ∧ cell.cls = c ∧ f.slot < cell.slots.size ∧ k.staticTypes[f.slot]? = some f.type ∧ cell.slots[f.slot]? = some v ∧ (v = .null ∨ ∃ t, v = .ref t) ∧ ¬ A a
theorem tz_L.moved {C n d : String} {A : Nat → Prop} {u U : State} {H : Heap} (hvm : u.vm.Alike U.vm) (h : tz_L C n d A u H) : tz_L C n d A U H := by
  obtain ⟨c, k, i, f, a, cell, v, h0, h1, h2, h3, h4, h5, h6, h7, h8, h9⟩ := h
  obtain ⟨k', hi', he⟩ := State.fieldFound?_setVm hvm h1
  exact ⟨c, k', i, f, a, cell, v, by rw [hvm.findClass]; exact h0, hi', h2, by rw [he]; exact h3, h4, h5, h6, h7, by rw [he]; exact h8, h9⟩
theorem tz_L.kept {C n d : String} {A : Nat → Prop} {U : State} {H H1 : Heap} (h : tz_L C n d A U H) (hq : ∀ a : Nat, a < H.size → ¬ A a → H1[a]? = H[a]?) : tz_L C n d A U H1 := by
  obtain ⟨c, k, i, f, a, cell, v, h0, h1, h2, h3, h4, h5, h6, h7, h8, h9, h10, h11⟩ := h
  exact ⟨c, k, i, f, a, cell, v, h0, h1, h2, h3, by rw [hq a (Array.getElem?_eq_some_iff.mp h4).1 h11]; exact h4, h5, h6, h7, h8, h9, h10, h11⟩
theorem tz_L.narrow {C n d : String} {A B : Nat → Prop} {U : State} {H : Heap} (h : tz_L C n d A U H) (hAB : ∀ q, B q → A q) : tz_L C n d B U H := by
  obtain ⟨c, k, i, f, a, cell, v, h0, h1, h2, h3, h4, h5, h6, h7, h8, h9, h10, h11⟩ := h
  exact ⟨c, k, i, f, a, cell, v, h0, h1, h2, h3, h4, h5, h6, h7, h8, h9, h10, fun z => h11 (hAB a z)⟩
theorem tz_L.lays {C n d : String} {A : Nat → Prop} {U : State} {args : Array Value} (h : tz_L C n d A U U.heap) : (Cond.laysStatic C n d).before args U = true := by
  obtain ⟨c, k, i, f, a, cell, v, h0, h1, h2, h3, h4, h5, h6, h7, h8, -⟩ := h
  exact Cond.laysStatic_of h0 h1 h2 h3 h4 h5 h6 h7 h8
theorem tz_L.isr {C n d : String} {A : Nat → Prop} {U : State} {args : Array Value} (h : tz_L C n d A U U.heap) : (Cond.isRef (.static C n d)).before args U = true := by
  obtain ⟨c, k, i, f, a, cell, v, h0, h1, h2, h3, h4, h5, h6, h7, h8, h9, h10, -⟩ := h
  have hv : (Term.static C n d).eval args U none [] U = some v := by simp [Term.eval, State.fieldNamed?, h1, h2, h3, h4, h5, h9]
  rcases h10 with rfl | ⟨t, rfl⟩ <;> simp [Cond.before, Cond.holds, Cond.value, hv]
/-- what a throw rests on, beside the tables: ts are the texts' addresses -/
def tx_E (ts : Nat → Nat) (A : Nat → Prop) (U : State) (H : Heap) : Prop := (va_Nw (.declares ⟨"java/lang/RuntimeException", "<init>", "(Ljava/lang/String;)V"⟩) U ∧ va_Nw (.declares ⟨"java/lang/Exception", "<init>", "(Ljava/lang/String;)V"⟩) U ∧ va_Nw (.declares ⟨"java/lang/Throwable", "<init>", "(Ljava/lang/String;)V"⟩) U ∧ va_Nw (.castable "java/lang/IllegalArgumentException" "java/lang/IllegalArgumentException") U) ∧ (tz_L "java/lang/Throwable" "UNASSIGNED_STACK" "[Ljava/lang/StackTraceElement;" A U H ∧ tz_L "java/lang/Throwable" "SUPPRESSED_SENTINEL" "Ljava/util/List;" A U H) ∧ vk_R "SquareSymbols" 84 "n is not 1 .. 8" (ts 0) U ∧ vk_R "SquareSymbols" 101 "b is not 0 .. 255" (ts 1) U ∧ vk_R "SquareSymbols" 103 "n is below 0" (ts 2) U ∧ vk_R "SquareSymbols" 112 "level is not 0 .. 3" (ts 3) U ∧ vk_R "SquareSymbols" 114 "version is not 0 .. 40" (ts 4) U ∧ vk_R "SquareSymbols" 116 "mask is not NONE or 0 .. 7" (ts 5) U ∧ vk_R "SquareSymbols" 150 "version is not 1 .. 40" (ts 6) U ∧ vk_R "SquareSymbols" 161 "what is not 0 .. 5" (ts 7) U ∧ vk_R "SquareSymbols" 167 "what is not 0 or 1" (ts 8) U ∧ vk_R "SquareSymbols" 190 "what is not 0 .. 3" (ts 9) U
theorem tx_E.blind {ts : Nat → Nat} {A : Nat → Prop} {U : State} {g : JFrame} {mk : MethodId} {a : Array Value} (h : tx_E ts A U U.heap) : tx_E ts A (U.calling g mk a) (U.calling g mk a).heap := by
  obtain ⟨⟨d0, d1, d2, d3⟩, ⟨z0, z1⟩, s0, s1, s2, s3, s4, s5, s6, s7, s8, s9⟩ := h
  exact ⟨⟨va_Nw.same rfl (u := U) rfl d0, va_Nw.same rfl (u := U) rfl d1, va_Nw.same rfl (u := U) rfl d2, va_Nw.same rfl (u := U) rfl d3⟩, ⟨tz_L.moved (u := U) (U := U.calling g mk a) (Vm.Alike.refl U.vm) z0, tz_L.moved (u := U) (U := U.calling g mk a) (Vm.Alike.refl U.vm) z1⟩, vk_R.same (u := U) rfl s0, vk_R.same (u := U) rfl s1, vk_R.same (u := U) rfl s2, vk_R.same (u := U) rfl s3, vk_R.same (u := U) rfl s4, vk_R.same (u := U) rfl s5, vk_R.same (u := U) rfl s6, vk_R.same (u := U) rfl s7, vk_R.same (u := U) rfl s8, vk_R.same (u := U) rfl s9⟩
theorem tx_E.go {ts : Nat → Nat} {A B : Nat → Prop} {s U : State} {H : Heap} {locs : List Loc} (h : tx_E ts A s s.heap) (hS : va_S A s.heap H locs) (hB : ∀ q, B q → A q) (hU : U.heap = H) (hW : s.WarmedH U.vm) : tx_E ts B U U.heap := by
  obtain ⟨⟨d0, d1, d2, d3⟩, ⟨z0, z1⟩, s0, s1, s2, s3, s4, s5, s6, s7, s8, s9⟩ := h
  rw [hU]
  exact ⟨⟨va_Nw.warmD hW d0, va_Nw.warmD hW d1, va_Nw.warmD hW d2, va_Nw.warmC hW d3⟩, ⟨((z0.kept hS.2.1).narrow hB).moved hW.alike, ((z1.kept hS.2.1).narrow hB).moved hW.alike⟩, s0.warm hW, s1.warm hW, s2.warm hW, s3.warm hW, s4.warm hW, s5.warm hW, s6.warm hW, s7.warm hW, s8.warm hW, s9.warm hW⟩
theorem tx_E.atoms {ts : Nat → Nat} {A : Nat → Prop} {U : State} {args : Array Value} (h : tx_E ts A U U.heap) (ht : ∀ w ∈ lw_g, w.before args U = true) : ∀ a ∈ tx_A, a.before args U = true := by
  obtain ⟨⟨d0, d1, d2, d3⟩, ⟨z0, z1⟩, -⟩ := h
  intro a ha
  rcases tx_split a ha with h | h | h
  · exact ht a h
  · simp only [tx_B, List.mem_cons, List.not_mem_nil, or_false] at h
    rcases h with rfl | rfl | rfl | rfl
    · exact va_Nw.use rfl d0
    · exact va_Nw.use rfl d1
    · exact va_Nw.use rfl d2
    · exact va_Nw.use rfl d3
  · simp only [tx_C, List.mem_cons, List.not_mem_nil, or_false] at h
    rcases h with rfl | rfl | rfl | rfl
    · exact z0.lays
    · exact z1.lays
    · exact z0.isr
    · exact z1.isr
theorem tx_E.s84 {ts : Nat → Nat} {A : Nat → Prop} {U : State} {H : Heap} (h : tx_E ts A U H) : vk_R "SquareSymbols" 84 "n is not 1 .. 8" (ts 0) U := h.2.2.1
theorem tx_E.s101 {ts : Nat → Nat} {A : Nat → Prop} {U : State} {H : Heap} (h : tx_E ts A U H) : vk_R "SquareSymbols" 101 "b is not 0 .. 255" (ts 1) U := h.2.2.2.1
theorem tx_E.s103 {ts : Nat → Nat} {A : Nat → Prop} {U : State} {H : Heap} (h : tx_E ts A U H) : vk_R "SquareSymbols" 103 "n is below 0" (ts 2) U := h.2.2.2.2.1
theorem tx_E.s112 {ts : Nat → Nat} {A : Nat → Prop} {U : State} {H : Heap} (h : tx_E ts A U H) : vk_R "SquareSymbols" 112 "level is not 0 .. 3" (ts 3) U := h.2.2.2.2.2.1
theorem tx_E.s114 {ts : Nat → Nat} {A : Nat → Prop} {U : State} {H : Heap} (h : tx_E ts A U H) : vk_R "SquareSymbols" 114 "version is not 0 .. 40" (ts 4) U := h.2.2.2.2.2.2.1
theorem tx_E.s116 {ts : Nat → Nat} {A : Nat → Prop} {U : State} {H : Heap} (h : tx_E ts A U H) : vk_R "SquareSymbols" 116 "mask is not NONE or 0 .. 7" (ts 5) U := h.2.2.2.2.2.2.2.1
theorem tx_E.s150 {ts : Nat → Nat} {A : Nat → Prop} {U : State} {H : Heap} (h : tx_E ts A U H) : vk_R "SquareSymbols" 150 "version is not 1 .. 40" (ts 6) U := h.2.2.2.2.2.2.2.2.1
theorem tx_E.s161 {ts : Nat → Nat} {A : Nat → Prop} {U : State} {H : Heap} (h : tx_E ts A U H) : vk_R "SquareSymbols" 161 "what is not 0 .. 5" (ts 7) U := h.2.2.2.2.2.2.2.2.2.1
theorem tx_E.s167 {ts : Nat → Nat} {A : Nat → Prop} {U : State} {H : Heap} (h : tx_E ts A U H) : vk_R "SquareSymbols" 167 "what is not 0 or 1" (ts 8) U := h.2.2.2.2.2.2.2.2.2.2.1
theorem tx_E.s190 {ts : Nat → Nat} {A : Nat → Prop} {U : State} {H : Heap} (h : tx_E ts A U H) : vk_R "SquareSymbols" 190 "what is not 0 .. 3" (ts 9) U := h.2.2.2.2.2.2.2.2.2.2.2
def tx_Q : Array Value → State → Addr → State → Prop := fun _ st x t => ∃ ce : Cell, t.heap[x]? = some ce ∧ st.vm.findClass "java/lang/IllegalArgumentException" = some ce.cls ∧ st.vm.assignable ce.cls ce.cls = true ∧ ce.vm = .none
section TXW
variable {p : Program} {l : Launch} {e : Env} {R : Room} {s : State} {m : MethodId} {args : Array Value} {below : List Frame} {meth : Method} {c : Code}
/-- throw new IllegalArgumentException("..") in SquareSymbols, from its 'new' on, to the end -/
theorem tx_throw {cc : ByteArray} {pc : Nat} {ls : Array Slot} (hexec : p.tables.exec = Jvm.exec) (hb : c.code = cc) (htr : e.platform.stackTraces = false) (hown : s.vm.findClass "SquareSymbols" = some m.cls) (ht : ∀ w ∈ lw_g, w.before args s = true) {ts : Nat → Nat} {A : Nat → Prop} (hE : tx_E ts A s s.heap) {k q : Nat} {tx : String} (hk : vk_R "SquareSymbols" k tx q s)
    (hml : c.maxLocals = ls.size) (hout : c.exceptionTable.isEmpty = true) (hlocks : meth.locks = false) (h0 : decode cc pc = .ok (.new 82, 3)) (h3 : decode cc (pc + 3) = .ok (.dup, 1)) (h4 : decode cc (pc + 3 + 1) = .ok (.ldc k, 2)) (h6 : decode cc (pc + 3 + 1 + 2) = .ok (.invokespecial 86, 3)) (h9 : decode cc (pc + 3 + 1 + 2 + 3) = .ok (.athrow, 1))
    (hRf : 5 < R.frames) (hRl : 82 ≤ R.locals) (hRc : 1 ≤ R.cells) (hRs : 6 ≤ R.slots) : W p l e R s m args below meth c s.heap [] 0 0 (sq_MTQ below tx_Q args s 1 6) (F0 m pc ls []) := by
  have hin := ht _ tb_713
  obtain ⟨cX, kX, hc1, hk1, -⟩ := Cond.instantiable_spec hin
  refine W.newcK hexec hb hown (ht _ tb_712) hin (ht _ tb_15) rfl h0 (by omega) (by omega) hc1 rfl (fun H1 kC hkC e1 z1 o1 => ?_)
  refine W.widen (k := 1) (n := 6) (by omega) (by omega) ?_
  refine lv_dup hexec hb h3 rfl ?_
  refine va_ldcS hexec hb hown hk h4 ?_
  exact sq_throw hexec hb htr (names := ["java/lang/RuntimeException", "java/lang/Exception"]) hown (by decide +kernel) (by decide +kernel) (hE.atoms ht) hc1 hkC e1 (Nat.le_refl _) hml h6 h9 hout hRf (by simp only [List.length_cons, List.length_nil]; omega) hlocks (fun t ce a1 a2 a3 a4 => ⟨ce, a1, a2, a3, a4⟩)
end TXW
