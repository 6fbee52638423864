abbrev st_F : List Cond := flatC (Jvm.Cond.and given_1 narrow_1)
theorem st_T {args : Array Value} {s : State} {C n : String} {N b : Nat} {f : Nat → Int32} (hs : ∀ c ∈ st_F, c.before args s = true) (hl : (Cond.laysStatic C n "[I").before args s = true) (hini : (Cond.initialized C).before args s = true) (hN : N < 2 ^ 31) (harr : Cond.arrayOf (.static C n "[I") .int ∈ st_F) (hlen : Cond.eq (.length (.static C n "[I")) (.int (Int32.ofNat N)) ∈ st_F) (hel : ∀ j : Nat, j < N → st_F[b + j]? = some (Cond.eq (.elem (.static C n "[I") (.int (Int32.ofNat j))) (.int (f j)))) : ∃ t : Nat, va_Z C n "[I" (.ref t) (fun q : Nat => s.heap.size ≤ q) s s.heap ∧ va_T .int t N (fun j => .int (f j)) (fun q : Nat => s.heap.size ≤ q) s s.heap := by
  have hA : ∀ a : Nat, a < s.heap.size → ¬ (fun q : Nat => s.heap.size ≤ q) a := fun a h => Nat.not_le.mpr h
  obtain ⟨t, h1, h2⟩ := va_Tof (f := fun j => .int (f j)) (A := fun q : Nat => s.heap.size ≤ q) hN (hs _ harr) (va_eqt (hs _ hlen)) (fun j hj => va_eqt (hs _ (List.mem_of_getElem? (hel j hj)))) hA
  exact ⟨t, va_Zof hl hini h1 hA, h2⟩
theorem st_S {args : Array Value} {s : State} {own tx : String} {k : Nat} (hx : (Cond.exactly (.string own k) "java/lang/String").before args s = true) (hr : (Cond.stringRef own k tx).before args s = true) : ∃ a : Nat, vk_R own k tx a s := by
  obtain ⟨a, c, cA, kA, q1, -⟩ := Cond.exactly_spec (args := args) (first := s) (o := none) (s := s) (idx := []) (t := .string own k) (cls := "java/lang/String") hx
  exact ⟨a, vk_R.of (A := args) hr q1⟩
theorem st_L {args : Array Value} {s : State} {C n d : String} (hl : (Cond.laysStatic C n d).before args s = true) (h : (Cond.isRef (.static C n d)).before args s = true) : tz_L C n d (fun q : Nat => s.heap.size ≤ q) s s.heap := by
  obtain ⟨c, k, i, f, a, cell, hc, hi, hst, ha, hcell, hs, hcls, hlt, hty⟩ := Cond.laysStatic_spec hl
  cases hv : (Term.static C n d).eval args s none [] s with
  | none => simp [Cond.before, Cond.holds, Cond.value, hv] at h
  | some w =>
    have hw : w = .null ∨ ∃ t, w = .ref t := by
      simp only [Cond.before, Cond.holds, Cond.value, hv] at h
      cases w with
      | null => exact Or.inl rfl
      | ref t => exact Or.inr ⟨t, rfl⟩
      | _ => simp at h
    obtain ⟨hst', a', cell', ha', hcell', -, hslot⟩ := Term.static_spec hi hv
    cases ha.symm.trans ha'
    cases hcell.symm.trans hcell'
    exact ⟨c, k, i, f, a, cell, w, hc, hi, hst, ha, hcell, hs, hcls, hlt, hty, hslot, hw, Nat.not_le.mpr (Array.getElem?_eq_some_iff.mp hcell).1⟩
theorem st_eCHECKS : ∀ j : Nat, j < 160 → st_F[170 + j]? = some (Cond.eq (.elem (.static "SquareSymbols$Version" "CHECKS" "[I") (.int (Int32.ofNat j))) (.int (tv_CHECKS j))) := by decide +kernel
theorem st_eBLOCKS : ∀ j : Nat, j < 160 → st_F[7 + j]? = some (Cond.eq (.elem (.static "SquareSymbols$Version" "BLOCKS" "[I") (.int (Int32.ofNat j))) (.int (tv_BLOCKS j))) := by decide +kernel
theorem st_eCOUNT_BITS : ∀ j : Nat, j < 9 → st_F[333 + j]? = some (Cond.eq (.elem (.static "SquareSymbols$Version" "COUNT_BITS" "[I") (.int (Int32.ofNat j))) (.int (tv_COUNT_BITS j))) := by decide +kernel
theorem st_eMODE : ∀ j : Nat, j < 7 → st_F[358 + j]? = some (Cond.eq (.elem (.static "SquareSymbols$Division" "MODE" "[I") (.int (Int32.ofNat j))) (.int (tv_MODE j))) := by decide +kernel
theorem st_eNEXT : ∀ j : Nat, j < 7 → st_F[378 + j]? = some (Cond.eq (.elem (.static "SquareSymbols$Division" "NEXT" "[I") (.int (Int32.ofNat j))) (.int (tv_NEXT j))) := by decide +kernel
theorem st_eNEXT_BITS : ∀ j : Nat, j < 7 → st_F[368 + j]? = some (Cond.eq (.elem (.static "SquareSymbols$Division" "NEXT_BITS" "[I") (.int (Int32.ofNat j))) (.int (tv_NEXT_BITS j))) := by decide +kernel
theorem st_eFIRST : ∀ j : Nat, j < 3 → st_F[352 + j]? = some (Cond.eq (.elem (.static "SquareSymbols$Division" "FIRST" "[I") (.int (Int32.ofNat j))) (.int (tv_FIRST j))) := by decide +kernel
theorem st_eSIGNS : ∀ j : Nat, j < 45 → st_F[400 + j]? = some (Cond.eq (.elem (.field (.string "SquareSymbols$Mode" 9) "java/lang/String" "value" "[B") (.int (Int32.ofNat j))) (.int (sg_L.getD j 0))) := by decide +kernel
set_option maxRecDepth 100000 in
theorem st_sx {args : Array Value} {s : State} (hgv : (Jvm.Cond.and given_1 narrow_1).before args s = true) (hts : ∀ w ∈ lw_tbl, w.before args s = true) : ∃ tt : Nat → Nat, sx_T tt (fun q : Nat => s.heap.size ≤ q) s s.heap := by
  have hs : ∀ c ∈ st_F, c.before args s = true := flat_of_before _ hgv
  have hA : ∀ a : Nat, a < s.heap.size → ¬ (fun q : Nat => s.heap.size ≤ q) a := fun a h => Nat.not_le.mpr h
  obtain ⟨t0, z0, e0⟩ := st_T (f := tv_CHECKS) hs (hts _ tx_422) (hts _ (lw_g_in tb_16)) (by decide) (List.mem_of_getElem? (i := 168) rfl) (List.mem_of_getElem? (i := 169) rfl) st_eCHECKS
  obtain ⟨t1, z1, e1⟩ := st_T (f := tv_BLOCKS) hs (hts _ tx_411) (hts _ (lw_g_in tb_16)) (by decide) (List.mem_of_getElem? (i := 5) rfl) (List.mem_of_getElem? (i := 6) rfl) st_eBLOCKS
  obtain ⟨t2, z2, e2⟩ := st_T (f := tv_COUNT_BITS) hs (hts _ tx_617) (hts _ (lw_g_in tb_16)) (by decide) (List.mem_of_getElem? (i := 331) rfl) (List.mem_of_getElem? (i := 332) rfl) st_eCOUNT_BITS
  obtain ⟨t3, z3, e3⟩ := st_T (f := tv_MODE) hs (hts _ tx_884) (hts _ (lw_g_in tb_4)) (by decide) (List.mem_of_getElem? (i := 356) rfl) (List.mem_of_getElem? (i := 357) rfl) st_eMODE
  obtain ⟨t4, z4, e4⟩ := st_T (f := tv_NEXT) hs (hts _ tx_888) (hts _ (lw_g_in tb_4)) (by decide) (List.mem_of_getElem? (i := 376) rfl) (List.mem_of_getElem? (i := 377) rfl) st_eNEXT
  obtain ⟨t5, z5, e5⟩ := st_T (f := tv_NEXT_BITS) hs (hts _ tx_886) (hts _ (lw_g_in tb_4)) (by decide) (List.mem_of_getElem? (i := 366) rfl) (List.mem_of_getElem? (i := 367) rfl) st_eNEXT_BITS
  obtain ⟨t6, z6, e6⟩ := st_T (f := tv_FIRST) hs (hts _ tx_880) (hts _ (lw_g_in tb_4)) (by decide) (List.mem_of_getElem? (i := 350) rfl) (List.mem_of_getElem? (i := 351) rfl) st_eFIRST
  obtain ⟨adK, adV, hK, hKe⟩ := vk_Sof (args := args) (s := s) (N := 1) (tm := fun _ => .string "SquareSymbols$Mode" 9) (len := [45]) (byt := [sg_L]) (A := fun q : Nat => s.heap.size ≤ q) (fun i hi => by cases Nat.lt_one_iff.mp hi; decide) (fun i hi => hs _ (List.mem_of_getElem? (i := 396) rfl)) (fun i hi => hs _ (List.mem_of_getElem? (i := 397) rfl)) (fun i hi => hs _ (List.mem_of_getElem? (i := 398) rfl)) (fun i hi => by cases Nat.lt_one_iff.mp hi; exact hs _ (List.mem_of_getElem? (i := 399) rfl)) (fun i hi j hj => by cases Nat.lt_one_iff.mp hi; exact hs _ (List.mem_of_getElem? (st_eSIGNS j hj))) (fun i j hi hj h => absurd (show i = j by omega) h) hA
  refine ⟨fun k => if k = 0 then t0 else if k = 1 then t1 else if k = 2 then t2 else if k = 3 then t3 else if k = 4 then t4 else if k = 5 then t5 else if k = 6 then t6 else if k = 7 then adK 0 else adV 0, ?_⟩
  exact ⟨⟨⟨va_Nw.of rfl (hts _ tx_52), va_Nw.of rfl (hts _ tx_66), va_Nw.of rfl (hts _ tx_205), va_Nw.of rfl (hts _ tx_219), va_Nw.of rfl (hts _ tx_224), va_Nw.of rfl (hts _ tx_227), va_Nw.of rfl (hts _ tx_250), va_Nw.of rfl (hts _ tx_341), va_Nw.of rfl (hts _ tx_412), va_Nw.of rfl (hts _ tx_881), va_Nw.of rfl (hts _ tx_1002)⟩, ⟨fun i hi => by cases Nat.lt_one_iff.mp hi; exact hK.1 0 hi, fun i j hi hj _ => by omega⟩, vk_R.of (A := args) (hts _ tx_643) (hKe 0 Nat.zero_lt_one), va_Zof (hts _ tx_653) (hts _ (lw_g_in tb_20)) (va_eqt (hs _ (List.mem_of_getElem? (i := 342) rfl))) hA, va_Zqof (hts _ tx_669) (hts _ (lw_g_in tb_23)) (hs _ (List.mem_of_getElem? (i := 343) rfl)) hA⟩, z0, e0, z1, e1, z2, e2, z3, e3, z4, e4, z5, e5, z6, e6⟩
set_option maxRecDepth 100000 in
theorem st_tx {args : Array Value} {s : State} (hgv : (Jvm.Cond.and given_1 narrow_1).before args s = true) (hts : ∀ w ∈ lw_tbl, w.before args s = true) : ∃ ts : Nat → Nat, tx_E ts (fun q : Nat => s.heap.size ≤ q) s s.heap := by
  have hs : ∀ c ∈ st_F, c.before args s = true := flat_of_before _ hgv
  obtain ⟨a0, h0⟩ := st_S (own := "SquareSymbols") (k := 84) (tx := "n is not 1 .. 8") (hs _ (List.mem_of_getElem? (i := 445) rfl)) (hts _ tx_751)
  obtain ⟨a1, h1⟩ := st_S (own := "SquareSymbols") (k := 101) (tx := "b is not 0 .. 255") (hs _ (List.mem_of_getElem? (i := 465) rfl)) (hts _ tx_789)
  obtain ⟨a2, h2⟩ := st_S (own := "SquareSymbols") (k := 103) (tx := "n is below 0") (hs _ (List.mem_of_getElem? (i := 488) rfl)) (hts _ tx_790)
  obtain ⟨a3, h3⟩ := st_S (own := "SquareSymbols") (k := 112) (tx := "level is not 0 .. 3") (hs _ (List.mem_of_getElem? (i := 507) rfl)) (hts _ tx_798)
  obtain ⟨a4, h4⟩ := st_S (own := "SquareSymbols") (k := 114) (tx := "version is not 0 .. 40") (hs _ (List.mem_of_getElem? (i := 534) rfl)) (hts _ tx_799)
  obtain ⟨a5, h5⟩ := st_S (own := "SquareSymbols") (k := 116) (tx := "mask is not NONE or 0 .. 7") (hs _ (List.mem_of_getElem? (i := 565) rfl)) (hts _ tx_800)
  obtain ⟨a6, h6⟩ := st_S (own := "SquareSymbols") (k := 150) (tx := "version is not 1 .. 40") (hs _ (List.mem_of_getElem? (i := 601) rfl)) (hts _ tx_1028)
  obtain ⟨a7, h7⟩ := st_S (own := "SquareSymbols") (k := 161) (tx := "what is not 0 .. 5") (hs _ (List.mem_of_getElem? (i := 634) rfl)) (hts _ tx_1038)
  obtain ⟨a8, h8⟩ := st_S (own := "SquareSymbols") (k := 167) (tx := "what is not 0 or 1") (hs _ (List.mem_of_getElem? (i := 664) rfl)) (hts _ tx_1047)
  obtain ⟨a9, h9⟩ := st_S (own := "SquareSymbols") (k := 190) (tx := "what is not 0 .. 3") (hs _ (List.mem_of_getElem? (i := 695) rfl)) (hts _ tx_1055)
  refine ⟨fun k => if k = 0 then a0 else if k = 1 then a1 else if k = 2 then a2 else if k = 3 then a3 else if k = 4 then a4 else if k = 5 then a5 else if k = 6 then a6 else if k = 7 then a7 else if k = 8 then a8 else a9, ?_⟩
  exact ⟨⟨va_Nw.of rfl (hts _ tx_716), va_Nw.of rfl (hts _ tx_718), va_Nw.of rfl (hts _ tx_720), va_Nw.of rfl (hts _ tx_714)⟩, ⟨st_L (hts _ tx_739) (hs _ (List.mem_of_getElem? (i := 347) rfl)), st_L (hts _ tx_741) (hs _ (List.mem_of_getElem? (i := 348) rfl))⟩, h0, h1, h2, h3, h4, h5, h6, h7, h8, h9⟩
