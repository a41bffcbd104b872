/-! count -/
theorem sub_is {a : Int32} {k c : Nat} (h : a - nI k = nI c) : a = nI (k + c) := by
  have : a = (a - nI k) + nI k := (Int32.sub_add_cancel a (nI k)).symm
  rw [this, h, nI_add, Nat.add_comm]
theorem m_count {n nh : Nat} {m : Nat → Nat} {K : List Cl} {P : Nat → List (Nat × Nat)} {s : cS} (hC : CorN n m s) (hL : LawK K s) (hP : PrgI P s) (hH : HulI n nh s) (hTp : TapI s) (hS : iG s 154 7 = iG s 193 5 ∧ iG s 154 8 = iG s 193 6) (hB : BedI s) (hT : iG s 124 5 = iG s 193 4) (a0 : Int32) : ∃ r, r_X11_count a0 s r s ∧ r_X12_count a0 s r s := by
  unfold r_X11_count r_X12_count
  have hn8 := hC.1
  obtain ⟨L, hL', hs1, hX, hM, hF⟩ := hL.L
  have hk3 : kd s.1.1 3 := by rw [hs1]; exact kdT hL'
  have hcl : f_X3_clauses s.1.1 s = iG s 193 15 := by
    obtain ⟨W, u, -, x2, -⟩ := hX
    rw [hs1]
    unfold f_X3_clauses
    rw [x2, hM.2.1]
  obtain ⟨tn, tt, -, t1, t2, -⟩ := hTp
  obtain ⟨bn, -, b1, b2, -⟩ := hB
  obtain ⟨-, i2, i3, -⟩ := hH
  have hLp : ∀ a : Int32, f_X12_isProgram a s = wB a 0 7 := fun a => lIn_w (a' := 0) (b' := 7) rfl rfl
  have hne : ∀ j : Nat, 8 ≤ j → j < 100 → ∀ k : Nat, k < 8 → ¬ nI j = nI k := fun j h1 h2 k h3 => by rw [nI_eq (by omega) (by omega)]; omega
  rcases has_cor hC.2.1 hC.2.2.1 hn8 (a0 - 10) with ⟨d1, d2, d3⟩ | ⟨c, hc, he, d1, d2⟩
  · by_cases cp : f_X12_isProgram (a0 - 20) s = 0
    · have hj : j_X11_countOfOne_37 a0 s = some (-1, s) := by
        unfold j_X11_countOfOne_37
        have : wB a0 20 27 = 0 := by
          refine wB_0.mpr fun z => ?_
          obtain ⟨j, hj1, hj2, rfl⟩ := wB_out (x := a0) (m := 20) (n := 27) (by decide) (by decide) (fun w => wB_0.mp w z)
          rw [hLp, show nI j - (20 : Int32) = nI (j - 20) from pk_sub (b := 20) hj1, show wB (nI (j - 20)) 0 7 = 1 from wB_in (m := 0) (n := 7) (by omega) (by omega) (by decide)] at cp
          exact absurd cp (by decide)
        rw [if_pos this]
      have hone : f_X11_countOfOne a0 s = some (-1, s) := by
        unfold f_X11_countOfOne
        rw [d1, hj]
        split
        · rfl
        · rw [if_pos rfl]
      unfold f_X11_count f_X12_count f_X1_size f_X2_size f_X10_size f_X7_size f_X7_finds f_X0_size f_X9_size
      simp only [if_pos d2, if_pos cp, if_pos hk3, hcl, hone, hC.2.1, hC.2.2.1, i2, i3, hT, hS.1, hS.2, b1, b2, t1, t2]
      by_cases c0 : a0 = 0
      · exact ⟨_, by rw [if_pos c0], by rw [if_pos c0]⟩
      by_cases c1 : a0 = 1
      · exact ⟨_, by rw [if_neg c0, if_pos c1], by rw [if_neg c0, if_pos c1]⟩
      by_cases c2 : a0 = 2
      · exact ⟨_, by rw [if_neg c0, if_neg c1, if_pos c2], by rw [if_neg c0, if_neg c1, if_pos c2]⟩
      by_cases c3 : a0 = 3
      · exact ⟨_, by rw [if_neg c0, if_neg c1, if_neg c2, if_pos c3], by rw [if_neg c0, if_neg c1, if_neg c2, if_pos c3]⟩
      by_cases c4 : a0 = 4
      · exact ⟨_, by rw [if_neg c0, if_neg c1, if_neg c2, if_neg c3, if_pos c4], by rw [if_neg c0, if_neg c1, if_neg c2, if_neg c3, if_pos c4]⟩
      by_cases c5 : a0 = 5
      · exact ⟨_, by rw [if_neg c0, if_neg c1, if_neg c2, if_neg c3, if_neg c4, if_pos c5], by rw [if_neg c0, if_neg c1, if_neg c2, if_neg c3, if_neg c4, if_pos c5]⟩
      by_cases c6 : a0 = 6
      · exact ⟨_, by rw [if_neg c0, if_neg c1, if_neg c2, if_neg c3, if_neg c4, if_neg c5, if_pos c6], by rw [if_neg c0, if_neg c1, if_neg c2, if_neg c3, if_neg c4, if_neg c5, if_pos c6]⟩
      by_cases c7 : a0 = 7
      · exact ⟨_, by rw [if_neg c0, if_neg c1, if_neg c2, if_neg c3, if_neg c4, if_neg c5, if_neg c6, if_pos c7], by rw [if_neg c0, if_neg c1, if_neg c2, if_neg c3, if_neg c4, if_neg c5, if_neg c6, if_pos c7]⟩
      exact ⟨-1, by rw [if_neg c0, if_neg c1, if_neg c2, if_neg c3, if_neg c4, if_neg c5, if_neg c6, if_neg c7]; rfl, by rw [if_neg c0, if_neg c1, if_neg c2, if_neg c3, if_neg c4, if_neg c5, if_neg c6, if_neg c7]⟩
    · have cp' : wB (a0 - 20) 0 7 ≠ 0 := fun z => cp (by rw [hLp]; exact z)
      obtain ⟨j, -, hj, he⟩ := wB_out (m := 0) (n := 7) (by decide) (by decide) cp'
      have ha : a0 = nI (20 + j) := sub_is (k := 20) he
      obtain ⟨g1, g2⟩ := hP.1 j (by omega)
      have hpt : prT j = 169 + 3 * j := by unfold prT; rw [if_pos (by omega)]
      rw [hpt] at g1
      have n0 : ∀ k : Nat, k < 8 → ¬ a0 = nI k := fun k hk => by rw [ha]; exact hne _ (by omega) (by omega) k hk
      have hone : f_X11_countOfOne a0 s = some (nI (pls (P j)), s) := by
        have hj37 : j_X11_countOfOne_37 a0 s = some (nI (pls (P j)), s) := by
          unfold j_X11_countOfOne_37
          rw [he, x_programOf (by omega), ob_mk, ha, show wB (nI (20 + j)) 20 27 = 1 from wB_in (m := 20) (n := 27) (by omega) (by omega) (by decide), if_neg (by decide)]
          unfold f_X11_pullsOf f_X6_pulls
          rw [orf_mk, if_pos (kd6 (by omega)), g1.2.2.1]
          rfl
        unfold f_X11_countOfOne
        rw [d1, hj37]
        split
        · rfl
        · rw [if_pos rfl]
      refine ⟨nI (pls (P j)), ?_, ?_⟩
      · unfold f_X11_count
        rw [if_neg (c := a0 = 0) (n0 0 (by decide)), if_neg (c := a0 = 1) (n0 1 (by decide)), if_neg (c := a0 = 2) (n0 2 (by decide)), if_neg (c := a0 = 3) (n0 3 (by decide)), if_neg (c := a0 = 4) (n0 4 (by decide)), if_neg (c := a0 = 5) (n0 5 (by decide)), if_neg (c := a0 = 6) (n0 6 (by decide)), if_neg (c := a0 = 7) (n0 7 (by decide)), hone]
        rfl
      · unfold f_X12_count
        rw [if_pos d2, if_neg cp, he]
        have hin : inb (nI j) 16 := (inb_n (by omega)).mpr (by omega)
        have hc : (nI j).toNatClampNeg = j := nI_clamp (by omega)
        simp only [if_pos hin, hc]
        rw [g2.2.2.1]
  · have ha : a0 = nI (10 + c) := sub_is (k := 10) he
    have n0 : ∀ k : Nat, k < 8 → ¬ a0 = nI k := fun k hk => by rw [ha]; exact hne _ (by omega) (by omega) k hk
    obtain ⟨-, -, -, -, q5, q6, -⟩ := hC.2.2.2.1 c (by omega)
    have hone : f_X11_countOfOne a0 s = some (nI (m c), s) := by
      unfold f_X11_countOfOne f_X1_livesOf
      rw [d1, if_neg (c := (1 : Int32) = 0) (by decide), he, aA_n (by omega) (by omega), q5, ha, show wB (nI (10 + c)) 10 17 = 1 from wB_in (m := 10) (n := 17) (by omega) (by omega) (by decide), if_neg (by decide)]
    refine ⟨nI (m c), ?_, ?_⟩
    · unfold f_X11_count
      rw [if_neg (c := a0 = 0) (n0 0 (by decide)), if_neg (c := a0 = 1) (n0 1 (by decide)), if_neg (c := a0 = 2) (n0 2 (by decide)), if_neg (c := a0 = 3) (n0 3 (by decide)), if_neg (c := a0 = 4) (n0 4 (by decide)), if_neg (c := a0 = 5) (n0 5 (by decide)), if_neg (c := a0 = 6) (n0 6 (by decide)), if_neg (c := a0 = 7) (n0 7 (by decide)), hone]
      rfl
    · unfold f_X12_count
      rw [if_neg (by rw [d2]; decide), he]
      have hin : inb (nI c) 8 := (inb_n (by omega)).mpr (by omega)
      have hcc : (nI c).toNatClampNeg = c := nI_clamp (by omega)
      simp only [if_pos hin, hcc]
      rw [q6]
