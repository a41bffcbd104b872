/-! what a hull tells -/
theorem m_hullIs {n nh : Nat} {s : cS} (hH : HulI n nh s) (a0 a1 : Int32) : ∃ r, r_X11_hullIs a0 a1 s r s ∧ r_X12_hullIs a0 a1 s r s := by
  obtain ⟨i1, i2, i3, i4⟩ := hH
  unfold r_X11_hullIs r_X12_hullIs
  rcases has_hull i2 i3 i1 a0 with ⟨b1, b2⟩ | ⟨h, hh, rfl, b1, b2⟩
  · refine ⟨-1, ⟨?_, rfl⟩, ?_⟩
    · unfold f_X11_hullIs
      rw [if_pos b1]
    · unfold f_X12_hullIs
      rw [if_pos b2]
  · have b1' : ¬ f_X2_has (nI h) s = 0 := by rw [b1]; decide
    have b2' : ¬ f_X12_isHull (nI h) s = 0 := by rw [b2]; decide
    obtain ⟨hn8, q, life, y, u1, u2, u3, u4, u5, u6⟩ := i4 h hh
    have hcl2 : (nI h).toNatClampNeg = h := nI_clamp (by omega)
    have hin2 : inb (nI h) 10 := (inb_n (by omega)).mpr (by omega)
    have hlb : f_X2_lostBy (nI h) s = iG s 35 h := aA_n (by omega) (by omega)
    have hpl : f_X2_pulls (nI h) s = nI q := by unfold f_X2_pulls; rw [aA_n (by omega) (by omega)]; exact u2
    unfold f_X11_hullIs f_X12_hullIs
    rw [if_neg b1', if_neg b2', hlb, hpl]
    simp only [if_pos hin2, hcl2, u3]
    by_cases c0 : a1 = 0
    · subst c0
      refine ⟨nI q, ⟨by rw [if_neg (by decide), if_pos rfl], trivial⟩, by rw [if_pos rfl]⟩
    · by_cases c1 : a1 = 1
      · subst c1
        refine ⟨iG s 35 h, ⟨by rw [if_neg (by decide), if_neg (by decide)], trivial⟩, by rw [if_neg (by decide), if_pos rfl, u4]⟩
      · have hw : wB a1 0 1 = 0 := by
          refine wB_0.mpr fun z => ?_
          obtain ⟨j, -, hj, rfl⟩ := wB_out (x := a1) (m := 0) (n := 1) (by decide) (by decide) (fun w => wB_0.mp w z)
          have : j = 0 ∨ j = 1 := by omega
          rcases this with rfl | rfl
          · exact c0 rfl
          · exact c1 rfl
        exact ⟨-1, ⟨by rw [if_pos hw], trivial⟩, by rw [if_neg c0, if_neg c1]⟩
theorem m_cornerIs {n nh : Nat} {m : Nat → Nat} {s : cS} (hC : CorN n m s) (hH : HulI n nh s) (a0 a1 a2 : Int32) : ∃ r, r_X11_cornerIs a0 a1 a2 s r s ∧ r_X12_cornerIs a0 a1 a2 s r s := by
  obtain ⟨i1, i2, i3, i4⟩ := hH
  unfold r_X11_cornerIs r_X12_cornerIs
  rcases has_hull i2 i3 i1 a0 with ⟨b1, b2⟩ | ⟨h, hh, rfl, b1, b2⟩
  · refine ⟨-1, ?_, ?_⟩
    · unfold f_X11_cornerIs
      rw [if_pos b1]
    · unfold f_X12_cornerIs
      rw [if_pos b2]
  · have b1' : ¬ f_X2_has (nI h) s = 0 := by rw [b1]; decide
    have b2' : ¬ f_X12_isHull (nI h) s = 0 := by rw [b2]; decide
    obtain ⟨hn8, q, life, y, u1, u2, u3, u4, u5, u6⟩ := i4 h hh
    rcases has_cor hC.2.1 hC.2.2.1 hn8 a1 with ⟨d1, d2, -⟩ | ⟨c, hc, rfl, d1, d2⟩
    · refine ⟨-1, ?_, ?_⟩
      · unfold f_X11_cornerIs
        rw [if_neg b1', if_pos d1]
      · unfold f_X12_cornerIs
        rw [if_neg b2', if_pos d2]
    · have d1' : ¬ f_X1_has (nI c) s = 0 := by rw [d1]; decide
      have d2' : ¬ f_X12_isCorner (nI c) s = 0 := by rw [d2]; decide
      obtain ⟨w1, w2, w3, w4, w5, w6, w7⟩ := u5 c hc
      have e3 : f_X8_wear (sT h c) s = (y c).1 := by rw [← w3]; rfl
      have e4 : f_X8_crack (sT h c) s = (y c).2.1 := by rw [← w3]; rfl
      have e5 : f_X8_most (sT h c) s = (y c).2.2 := by rw [← w3]; rfl
      have hi : (8 : Int32) * nI h + nI c = nI (8 * h + c) := by
        show nI 8 * nI h + nI c = _
        rw [pk_mul, nI_add]
      have hin : inb (nI (8 * h + c)) 80 := (inb_n (by omega)).mpr (by omega)
      have hcl : (nI (8 * h + c)).toNatClampNeg = 8 * h + c := nI_clamp (by omega)
      have hk : kd (sT h c) 8 := kdS (k := 8 * h + c) (by omega)
      unfold f_X11_cornerIs f_X12_cornerIs f_X2_stateOf
      rw [if_neg b1', if_neg d1', if_neg b2', if_neg d2', x_strainOf (by omega) (by omega), ob_mk, orf_mk, e3, e4, e5]
      simp only [if_pos hk, hi, if_pos hin, hcl, w5, w6, w7]
      by_cases c0 : a2 = 0
      · subst c0
        exact ⟨(y c).1, by rw [if_neg (by decide), if_pos rfl]; rfl, by rw [if_pos rfl]⟩
      · by_cases c1 : a2 = 1
        · subst c1
          exact ⟨(y c).2.1, by rw [if_neg (by decide), if_neg (by decide), if_pos rfl]; rfl, by rw [if_neg (by decide), if_pos rfl]⟩
        · by_cases c2 : a2 = 2
          · subst c2
            exact ⟨(y c).2.2, by rw [if_neg (by decide), if_neg (by decide), if_neg (by decide)]; rfl, by rw [if_neg (by decide), if_neg (by decide), if_pos rfl]⟩
          · have hw : wB a2 0 2 = 0 := by
              refine wB_0.mpr fun z => ?_
              obtain ⟨j, -, hj, rfl⟩ := wB_out (x := a2) (m := 0) (n := 2) (by decide) (by decide) (fun w => wB_0.mp w z)
              have : j = 0 ∨ j = 1 ∨ j = 2 := by omega
              rcases this with rfl | rfl | rfl
              · exact c0 rfl
              · exact c1 rfl
              · exact c2 rfl
            exact ⟨-1, by rw [if_pos hw], by rw [if_neg c0, if_neg c1, if_neg c2]⟩
