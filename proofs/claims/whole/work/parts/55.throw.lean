/-! own rows: a method that ends by a throw; a call of it; the handler that takes it -/
section SQT
variable {p : Program} {l : Launch} {e : Env} {R : Room} {s : State} {m : MethodId} {args : Array Value} {below : List Frame} {meth : Method} {c : Code} {H : Heap} {locs : List Loc} {cells slots : Nat} {Q : State → Prop}
/-- how such a method ends: x is thrown, nothing old has changed -/
def sq_MTQ (below : List Frame) (Qt : Array Value → State → Addr → State → Prop) (a : Array Value) (s : State) (mc ms : Nat) : State → Prop := fun t =>
  ∃ x, t.status = .running ∧ Ended t below (.threw x) ∧ Qt a s x t ∧ s.WarmedH t.vm ∧ s.sameButNew ({ t with vm := s.vm } : State) [] mc ms
def sq_MT (l : Launch) (y : MethodName) (ws : List Cond) (rm : Room) (Pc : Array Value → State → Prop) (Qt : Array Value → State → Addr → State → Prop) (mc ms : Nat) : Prop :=
  MetFree l y (headSpec ws rm) Pc (fun _ _ _ _ _ => True) (fun a st o t => ∃ x, o = .threw x ∧ Qt a st x t ∧ st.WarmedH t.vm ∧ st.sameButNew ({ t with vm := st.vm } : State) [] mc ms)
theorem sq_MT_ofW {y : MethodName} {ws ws' : List Cond} {rm : Room} {Pc : Array Value → State → Prop} {Qt : Array Value → State → Addr → State → Prop} {mc ms : Nat} {cc : ByteArray} {maxL : Nat} {ret : Option FieldType}
    (hy : plainName y.cls = true) (hw : ws = Cond.code y cc maxL ret :: ws')
    (body : ∀ p e s m args below meth c s₁, BodyLoose p l y (headSpec ws rm) cc maxL ret e s m args below meth c s₁ → c.maxLocals = maxL → Pc args s →
      W p l e (headSpec ws rm).room s m args below meth c s.heap [] 0 0 (sq_MTQ below Qt args s mc ms) (entryFrame m args maxL)) : sq_MT l y ws rm Pc Qt mc ms := by
  refine MetFree.of_bodyS (code := cc) (maxLocals := maxL) (ret := ret) hy (fun args s m h hn => ?_) (fun p e s m args below meth c s₁ B hml hP _ => ?_)
  · obtain ⟨meth, c, h1, h2, h3, h4, h5, h6, -, -⟩ := Cond.code_spec hn (atoms_spec (ws := ws) h _ (by rw [hw]; exact List.mem_cons_self))
    exact ⟨meth, c, h1, h2, h3, h4, h5, h6⟩
  · obtain ⟨t, a1, x, b1, b2, b3⟩ := body p e s m args below meth c s₁ B hml hP s₁ (by rw [B.state]; rfl) (Stand.of_body B)
    exact ⟨t, .threw x, a1, b1, b2, x, rfl, b3⟩
/-- from 'invokespecial X.<init>(String)' on a new object to the method's end -/
theorem sq_throw {cc : ByteArray} {pc : Nat} {ls : Array Slot} {Qt : Array Value → State → Addr → State → Prop} (hexec : p.tables.exec = Jvm.exec) (hb : c.code = cc) (htr : e.platform.stackTraces = false) {own cls : String} {names : List String} {ic : Nat}
    (hown : s.vm.findClass own = some m.cls) (hcls : Bundle.fit cls = true) (hnames : ∀ n ∈ names, Bundle.fit n = true) (h : ∀ a ∈ Bundle.ownAtoms own ic cls names, a.before args s = true)
    {a : Addr} {cX : ClassId} {kX : Class} (hfoundX : s.vm.findClass cls = some cX) (hkX : s.vm.classes[cX]? = some kX) (hcell : H[a]? = some (freshCell cX kX)) (hnew : s.heap.size ≤ a) {q : Nat} (hml : c.maxLocals = ls.size)
    (hd6 : decode cc pc = .ok (.invokespecial ic, 3)) (hd9 : decode cc (pc + 3) = .ok (.athrow, 1)) (hout : c.exceptionTable.isEmpty = true) (hRframes : names.length + 3 < R.frames) (hRlocals : 1 + (13 * (names.length + 1) + 42) ≤ R.locals) (hlocks : meth.locks = false)
    (hq : ∀ (t : State) (ce : Cell), t.heap[a]? = some ce → s.vm.findClass cls = some ce.cls → s.vm.assignable ce.cls ce.cls = true → ce.vm = .none → Qt args s a t) : W p l e R s m args below meth c H [] cells slots (sq_MTQ below Qt args s cells slots) (F0 m pc ls [.ref q, .ref a, .ref a]) := by
  intro T hT X
  have hnone : ∀ x ∈ c.exceptionTable.toList, covers x (pc + 3) = false := fun x hx => by
    rw [Array.isEmpty_iff.mp hout] at hx
    cases hx
  obtain ⟨U, hst, hrun, hend, hW, hsame, ce, hce, ho⟩ := X.ctorThrowS hexec htr (names := names) hown hcls hnames h (fun x hx => by cases hx) hfoundX hkX (by rw [hT]; exact hcell) hnew (msg := .ref q) rfl (g := F0 m pc ls [.ref q, .ref a, .ref a]) (rest := []) rfl hml.symm rfl rfl rfl (by rw [hb]; exact hd6) (by rw [hb]; exact hd9) hnone hRframes
    (by show 2 * 0 + _ + _ ≤ _; simp only [List.map_cons, List.map_nil, List.sum_cons, List.sum_nil, Value.category]; omega)
  exact ⟨U, hst, a, hrun, hend, hq U ce hce ho.cls ho.self ho.vm, hW, hsame⟩
end SQT
