theorem i_vc : Claimed_1_1 ∧ Claimed_1_2 := by
  obtain ⟨n0, hn0⟩ : ∃ n0 : Nat, 40000 ≤ n0 := ⟨40000, Nat.le_refl _⟩
  obtain ⟨lgs, pws, h1, h2⟩ := fd_init (n0 := n0) (by omega) (fun _ => 0) (fun _ => 0)
  exact lw_whole n0 lgs pws h1 (hf_all hn0 h2)
