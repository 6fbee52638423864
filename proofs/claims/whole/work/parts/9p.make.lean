theorem ch_lt4 (r : Nat) (d : Nat → Nat) (len p : Nat) : ch r d len p < 4 := Nat.lt_of_lt_of_le (ch_lt r d len p) (by omega)
set_option maxHeartbeats 4000000 in
theorem mk_both {mb mc lg pw mkd ms byc gen rest db bb bhr chs fb : Nat → Int32} {mr ah sw dw fw : Nat → Int64} {dt blk by0 fx gnm mds mod sl so tk tl wd : Nat → Int32} {d : Nat → Nat} {l wish len n0 : Nat} {p iM cw1 cw2 cw3 cw4 cw5 cw6 cw7 cw8 cw9 cw10 dv1 dv2 dv3 dv4 dv5 fr1 fr2 fr3 fr4 ss fds ffs th ver side mde segs bits fil : Int32} (hn0 : 40000 ≤ n0) (T : MT mb mc) (F : FD lg pw) (hl4 : l < 4) (hw : wish < 41) (hp : p = -1 ∨ ∃ k : Nat, k < 8 ∧ p = ni k) (hl : len ≤ 3000) (hcd : cdt db len d) (hd : ∀ i : Nat, i < len → dt i = ni (d i) ∧ d i < 256) : ((∃ dv1' dv2' dv3' dv4' dv5' bb' bhr' chs' fb', fn_Sq_make n0 (ni l) (ni wish) p iM cw1 cw2 cw3 cw4 cw5 cw6 cw7 cw8 cw9 cw10 (ni len) dv1 dv2 dv3 dv4 dv5 fr1 fr2 fr3 fr4 mkd ms ss byc gen rest db bb bhr chs fb fds ffs mr ah sw lg pw dw fw = some (-1, iM, cw1, cw2, cw3, cw4, cw5, cw6, cw7, cw8, cw9, cw10, dv1', dv2', dv3', dv4', dv5', fr1, fr2, fr3, fr4, mkd, ms, ss, byc, gen, rest, bb', bhr', chs', fb', fds, ffs, mr, ah, sw, dw, fw)) ∧ ∃ bits' mds' tk', fn_Md_make n0 (ni l) (ni wish) p th (ni len) ver side mde segs bits fil blk mb by0 mc dt fx gnm mds mod sl so tk tl wd = some (-1, 0, ver, side, mde, segs, bits', fil, blk, by0, fx, gnm, mds', mod, sl, so, tk', tl, wd)) ∨ ∃ (u K : Nat) (P : Nat → Nat → Bool), u < 41 ∧ 1 ≤ u ∧ K ≤ 1074 ∧ ∃ cw1' cw2' cw3' cw4' cw5' cw6' cw7' cw8' cw9' cw10' dv1' dv2' dv3' dv4' dv5' fr1' fr2' fr3' fr4' mkd' ms' byc' gen' rest' bb' bhr' chs' fb' fds' ffs' mr' ah' sw' dw' fw', fn_Sq_make n0 (ni l) (ni wish) p iM cw1 cw2 cw3 cw4 cw5 cw6 cw7 cw8 cw9 cw10 (ni len) dv1 dv2 dv3 dv4 dv5 fr1 fr2 fr3 fr4 mkd ms ss byc gen rest db bb bhr chs fb fds ffs mr ah sw lg pw dw fw = some (ni u, 1, cw1', cw2', cw3', cw4', cw5', cw6', cw7', cw8', cw9', cw10', dv1', dv2', dv3', dv4', dv5', fr1', fr2', fr3', fr4', mkd', ms', ni (sd u), byc', gen', rest', bb', bhr', chs', fb', fds', ffs', mr', ah', sw', dw', fw') ∧ GR sw' (sd u) P ∧ ∃ bits' fil' blk' by' fx' gnm' mds' mod' sl' so' tk' tl' wd', fn_Md_make n0 (ni l) (ni wish) p th (ni len) ver side mde segs bits fil blk mb by0 mc dt fx gnm mds mod sl so tk tl wd = some (ni u, 0, ni u, ni (sd u), 1, ni K, bits', fil', blk', by', fx', gnm', mds', mod', sl', so', tk', tl', wd') ∧ MG fx' mod' (sd u) (FX u) P ∧ (WI wd → WI wd') ∧ (∀ i : Nat, i < 6 → mkd' i = tl' i) ∧ mkd' 4 = ni K ∧ ∀ i : Nat, i < K → ∃ L m : Nat, L ≤ 3000 ∧ m < 4 ∧ ms' i = ni (4 * L + m) ∧ sl' i = ni L ∧ so' i = ni m := by
  have hn4 : 4000 ≤ n0 := by omega
  obtain ⟨r, sz', f', nxt', md', st', bb', bhr', chs', fb', c1, c2⟩ := cl_fitting (by0 := db) (bb := bb) (bhr := bhr) (chs := chs) (fb := fb) (sz := dv1) (f := dv2) (nxt := dv3) (md := dv4) (st := dv5) hn4 hl4 hw hl hcd
  have gate : ∀ (K : Unit → Option (Int32 × Int32 × Int32 × Int32 × Int32 × Int32 × Int32 × Int32 × Int32 × Int32 × Int32 × Int32 × Int32 × Int32 × Int32 × Int32 × Int32 × Int32 × Int32 × Int32 × Int32 × (Nat → Int32) × (Nat → Int32) × Int32 × (Nat → Int32) × (Nat → Int32) × (Nat → Int32) × (Nat → Int32) × (Nat → Int32) × (Nat → Int32) × (Nat → Int32) × Int32 × Int32 × (Nat → Int64) × (Nat → Int64) × (Nat → Int64) × (Nat → Int64) × (Nat → Int64))), (if ni l < 0 then none else (if ni l ≤ (3 : Int32) then (if ni wish < 0 then none else (if ni wish ≤ (40 : Int32) then (sq_jn K fun k5 => if p = (-1 : Int32) then (k5 ()) else (if p < 0 then (none) else (if p < (8 : Int32) then (k5 ()) else (none)))) else none)) else none)) = K () := fun K => by
    rw [if_neg (by rw [ni_nn (by omega)]; exact id), if_pos (show ni l ≤ (3 : Int32) from (ni_le (b := 3) (by omega) (by omega)).mpr (by omega)), if_neg (by rw [ni_nn (by omega)]; exact id), if_pos (show ni wish ≤ (40 : Int32) from (ni_le (b := 40) (by omega) (by omega)).mpr (by omega)), sq_jne]
    rcases hp with rfl | ⟨k, hk, rfl⟩
    · rw [if_pos rfl]
    · rw [if_neg (by rw [ni_m1 (by omega)]; exact id), if_neg (by rw [ni_nn (by omega)]; exact id), if_pos (show ni k < (8 : Int32) from (ni_lt (b := 8) (by omega) (by omega)).mpr hk)]
  rcases md_make (blk := blk) (by0 := by0) (fx := fx) (gen := gnm) (mds := mds) (mod := mod) (sl := sl) (so := so) (tk := tk) (tl := tl) (wd := wd) (th := th) (ver := ver) (side := side) (mde := mde) (segs := segs) (bits := bits) (fil := fil) T hn0 hl4 hw hp hl hd with ⟨u, K, hu, hK, hKl, hall⟩ | ⟨hno, bits', mds', tk', hm⟩
  · rcases c2 with ⟨u2, rfl, hu2, rfl, hb1, hc1⟩ | ⟨rfl, hno⟩
    · obtain rfl := lv_1 hu hu2
      obtain ⟨v1, v2, hok, -⟩ := id hu
      have hv1 : 1 ≤ u := by revert v1; split <;> omega
      have hv : u < 41 := by revert v2; split <;> omega
      obtain ⟨w1, w2, w3, f2, x2, md2, st2, ms2, by1, gen2, rest2, uu, e1, s1, cb1, wq1⟩ := cl_write (made := mkd) (ms := ms) (bytes := byc) (gen := gen) (rest := rest) (a0 := cw1) (a1 := cw2) (a2 := cw3) (a3 := cw4) (a4 := cw5) (a5 := cw6) (a6 := cw7) (a7 := cw8) (a8 := cw9) (a9 := cw10) (f0 := f') (x0 := nxt') (md0 := md') (st0 := st') hn4 F hl4 hv hv1 hl hcd hc1 hok hK hKl
      obtain ⟨dw2, fw2, g1, g2, n2, x3, y3, P0, e2, e3, e4, hf2, hg2, hP⟩ := cl_sym (dw := dw) (fw := fw) (w0 := sw) (a1 := fr1) (a2 := fds) (a3 := ffs) (a4 := ss) (x0 := fr2) (x1 := fr3) (y1 := fr4) hn0 hl4 hv hv1 cb1
      obtain ⟨mr2, ah2, sw2, e5, hg3⟩ := cl_best (made := upd mkd 4 (ni K)) (mr := mr) (ah := ah) (n0 := n0) (by omega) hv hv1 hl4 hp hf2 hg2
      obtain ⟨fil', blk', by', fx', gnm', mds', mod', sl', so', tk', wd', hm, hm2, hm3, hm4⟩ := hall _ P0 wq1 hP
      have hn1 : ¬ ni u = -1 := by rw [ni_m1 (by omega)]; exact id
      have eb : fn_Division_bits bb' = some (ni (gG (rk u) d len len 6)) := by
        unfold fn_Division_bits
        rw [show sq_gi (6 : Int32) 7 = id from rfl]
        simp only [sq_bd, id]
        rw [show (6 : Int32).toNatClampNeg = 6 from rfl, hb1 6 (by omega)]
        rfl
      have hc : fn_Sq_make n0 (ni l) (ni wish) p iM cw1 cw2 cw3 cw4 cw5 cw6 cw7 cw8 cw9 cw10 (ni len) dv1 dv2 dv3 dv4 dv5 fr1 fr2 fr3 fr4 mkd ms ss byc gen rest db bb bhr chs fb fds ffs mr ah sw lg pw dw fw = some (ni u, 1, ni u, ni (acw u), ni (nH l u), ni (nB l u), ni (nK l u), ni (nS l u), ni (nM l u), w1, w2, w3, ni len, f2, x2, md2, st2, ni (sd u), n2, x3, y3, upd (upd (upd (upd (upd (upd mkd 4 (ni K)) 2 (ni (mq p (pn u l P0)))) 3 (ni (pn u l P0 (mq p (pn u l P0))))) 0 (ni u)) 1 (ni l)) 5 (ni (gG (rk u) d len len 6)), ms2, ni (sd u), by1, gen2, rest2, bb', bhr', chs', fb', ni (sd u), ni (sd u), mr2, ah2, sw2, dw2, fw2) := by
        unfold fn_Sq_make
        rw [gate, c1, cb10_e, if_neg hn1, e1, cb19_e, e2, cb5_e, e3, cb2_e, e4, cb4_e, e5, cb4_e, eb]
        rfl
      refine .inr ⟨u, K, _, hv, hv1, K_le hl4 hv hv1 hok hKl, _, _, _, _, _, _, _, _, _, _, _, _, _, _, _, _, _, _, _, _, _, _, _, _, _, _, _, _, _, _, _, _, _, _, _, hc, hg3, _, _, _, _, _, _, _, _, _, _, _, _, _, hm, hm2, hm4, fun i hi => ?_, ?_, fun i hi => ?_⟩
      · rcases (show i = 0 ∨ i = 1 ∨ i = 2 ∨ i = 3 ∨ i = 4 ∨ i = 5 by omega) with rfl | rfl | rfl | rfl | rfl | rfl <;> rfl
      · rfl
      · have hs := spn_le (rk u) d len (i + 1)
        obtain ⟨t1, t2⟩ := hm3 i hi
        exact ⟨_, _, by omega, ch_lt4 _ _ _ _, s1 i hi, t1, t2⟩
    · exact absurd hu.2.2.1 (hno u hu.1 hu.2.1)
  · rcases c2 with ⟨u2, rfl, hu2, rfl, hb1, hc1⟩ | ⟨rfl, -⟩
    · exact absurd hu2.2.2.1 (hno u2 hu2.1 hu2.2.1)
    · have hc : fn_Sq_make n0 (ni l) (ni wish) p iM cw1 cw2 cw3 cw4 cw5 cw6 cw7 cw8 cw9 cw10 (ni len) dv1 dv2 dv3 dv4 dv5 fr1 fr2 fr3 fr4 mkd ms ss byc gen rest db bb bhr chs fb fds ffs mr ah sw lg pw dw fw = some (-1, iM, cw1, cw2, cw3, cw4, cw5, cw6, cw7, cw8, cw9, cw10, sz', f', nxt', md', st', fr1, fr2, fr3, fr4, mkd, ms, ss, byc, gen, rest, bb', bhr', chs', fb', fds, ffs, mr, ah, sw, dw, fw) := by
        unfold fn_Sq_make
        rw [gate, c1, cb10_e, if_pos rfl]
      exact .inl ⟨⟨_, _, _, _, _, _, _, _, _, hc⟩, bits', mds', tk', hm⟩
