/-! pull -/
theorem m_pull {n : Nat} {m : Nat → Nat} {K : List Cl} {s : cS} (hC : CorN n m s) (hL : LawK K s) (a0 a1 a2 : Int32) : ∃ r s1 s2, r_X11_pull a0 a1 a2 s r s1 ∧ r_X12_pull a0 a1 a2 s1 r s2 ∧ Fw runP s s2 := by
  have hnone : f_X11_pull 0 a0 a1 a2 s = some (-1, s) → f_X12_pull 0 a0 a1 a2 s = some (-1, s) → ∃ r s1 s2, r_X11_pull a0 a1 a2 s r s1 ∧ r_X12_pull a0 a1 a2 s1 r s2 ∧ Fw runP s s2 := fun h1 h2 => ⟨-1, s, s, ⟨0, h1⟩, ⟨0, h2⟩, Fw.rf⟩
  have hn8 := hC.1
  have hL2 : ∀ s, f_X12_isPressure a1 s = wB a1 0 99 := fun s => lIn_w (a' := 0) (b' := 99) rfl rfl
  have hL3 : lIn a2.toInt64 (0 : Int64) (1 : Int64) = wB a2 0 1 := lIn_w (a' := 0) (b' := 1) rfl rfl
  rcases has_cor hC.2.1 hC.2.2.1 hn8 a0 with ⟨b1, b2, -⟩ | ⟨c, hc, rfl, b1, b2⟩
  · refine hnone ?_ ?_
    · unfold f_X11_pull
      rw [if_pos b1]
    · unfold f_X12_pull
      rw [if_pos b2]
  · have b1' : ¬ f_X1_has (nI c) s = 0 := by rw [b1]; decide
    have b2' : ¬ f_X12_isCorner (nI c) s = 0 := by rw [b2]; decide
    by_cases c1 : wB a1 0 99 = 0
    · refine hnone ?_ ?_
      · unfold f_X11_pull
        rw [if_neg b1', if_pos c1]
      · unfold f_X12_pull
        rw [if_neg b2', hL2, if_pos c1]
    · by_cases c2 : wB a2 0 1 = 0
      · refine hnone ?_ ?_
        · unfold f_X11_pull
          rw [if_neg b1', if_neg c1, if_pos c2]
        · unfold f_X12_pull
          rw [if_neg b2', hL2, if_neg c1, hL3, if_pos c2]
      · obtain ⟨L, hL', hs1, hX, hM, hF⟩ := hL.L
        have hce := hC.ce (c := c) (by omega)
        -- the class
        generalize ht1 : (f_X8_begin 165 (nI c) 0 s).2 = t1
        have hb : f_X8_begin 165 (nI c) 0 s = ((), t1) := by rw [← ht1]
        have hF1 : Fw (fun o k => o = 165 ∧ 1 ≤ k ∧ k ≤ 9) s t1 := by
          rw [← ht1]
          unfold f_X8_begin
          simp only [sb_mk]
          exact ((((((((Fw.rf.st (by omega)).st (by omega)).st (by omega)).st (by omega)).st (by omega)).st (by omega)).st (by omega)).st (by omega)).st (by omega)
        obtain ⟨z1, z3, z4, z5, z6⟩ : iG t1 165 1 = nI c ∧ iG t1 165 3 = 0 ∧ iG t1 165 4 = 0 ∧ iG t1 165 5 = 0 ∧ iG t1 165 6 = 0 := by
          rw [← ht1]
          exact ⟨rfl, rfl, rfl, rfl, rfl⟩
        obtain ⟨t2, e1, e2, e3, -, -, -, -, -, e4⟩ := x_reckon (K := K) (T := 165) (c := c) (s := t1) hL' (by decide +kernel) (by rw [hF1.1]; exact hs1) (hX.fw hF1 fun o k z => by unfold lwQ at z; omega) (by omega) z1 a1
        have hce1 : ceX t1 c = ceM s c := by
          rw [← hce]
          unfold ceX
          rw [hF1.int (by omega), hF1.int (by omega), hF1.int (by omega)]
        rw [hce1, z3, z4, z5, z6] at e2 e3
        have hF12 : Fw runP s t2 := (hF1.mo fun o k z => by unfold runP; omega).tr (e4.mo fun o k z => by unfold xS at z; unfold runP; rcases hL' with rfl | rfl <;> omega)
        have hgoX : Ev (fun N => f_X11_pull N (nI c) a1 a2 s) (if a2 = 0 then pulledF K (ceM s c) a1 0 0 0 0 else moreF K (ceM s c) a1 0 0 0 0, t2) := by
          refine Ev.cg (Ev.bnd e1 (k := fun _ _ s11 => if a2 = 0 then some (((f_X8_pulled 165 s11), s11)) else some (((f_X8_more 165 s11), s11))) (Ev.of fun N => ?_)) (fun N => ?_)
          · unfold f_X8_pulled f_X8_more
            rw [e2, e3]
            split <;> rfl
          · unfold f_X11_pull
            rw [if_neg b1', if_neg c1, if_neg c2, hb, tb_mk]
        -- the reference
        generalize ht3 : iS (iS (f_X12_takes (nI c) t2).2 193 39 a1) 193 41 0 = t3
        have hF3 : Fw runP t2 t3 := by
          rw [← ht3]
          unfold f_X12_takes
          simp only [sb_mk]
          refine ((((((Fw.rf.st ?_).st ?_).st ?_).st ?_).st ?_).st ?_).st ?_ <;> (unfold runP; omega)
        obtain ⟨y38, y39, y40, y41, y42, y43, y44⟩ : iG t3 193 38 = nI c ∧ iG t3 193 39 = a1 ∧ iG t3 193 40 = 0 ∧ iG t3 193 41 = 0 ∧ iG t3 193 42 = 0 ∧ iG t3 193 43 = 0 ∧ iG t3 193 44 = 0 := by
          rw [← ht3]
          exact ⟨rfl, rfl, rfl, rfl, rfl, rfl, rfl⟩
        have hF13 := hF12.tr hF3
        have hce3 : ceM t3 c = ceM s c := by
          unfold ceM
          rw [hF13.int (by unfold runP; omega), hF13.int (by unfold runP; omega), hF13.int (by unfold runP; omega)]
        have hV := VM_mk (s := t3) (c := c) (by omega) y38
        rw [hce3, y39, y40, y41, y42, y43, y44] at hV
        obtain ⟨t4, k1, k2⟩ := m_told hF (l := 113) (most := 10000) (by decide) (hM.fw hF13 fun o k z => by unfold lmQ at z; unfold runP; omega) hV
        have k1' : Ev (fun N => f_X12_toldBy N 113 10000 t3) (pulledF K (ceM s c) a1 0 0 0 0, t4) := k1
        generalize hq : pulledF K (ceM s c) a1 0 0 0 0 = q at k1'
        generalize ht5 : iS t4 193 41 q = t5
        have hF5 : Fw runP t3 t5 := by
          rw [← ht5]
          exact (k2.mo fun o k z => by unfold mR at z; unfold runP; omega).st (by unfold runP; omega)
        have old : ∀ k, k ≠ 41 → iG t5 193 k = iG t3 193 k := by
          intro k hk
          rw [← ht5, iG_nk hk, k2.int (by unfold mR; omega)]
        have hF15 := hF13.tr hF5
        have hce5 : ceM t5 c = ceM s c := by
          unfold ceM
          rw [hF15.int (by unfold runP; omega), hF15.int (by unfold runP; omega), hF15.int (by unfold runP; omega)]
        have hV5 := VM_mk (s := t5) (c := c) (by omega) (by rw [old 38 (by decide), y38])
        rw [hce5, old 39 (by decide), old 40 (by decide), old 42 (by decide), old 43 (by decide), old 44 (by decide), y39, y40, y42, y43, y44, show iG t5 193 41 = q by rw [← ht5, iG_eq]] at hV5
        obtain ⟨t6, l1, l2⟩ := m_told hF (l := 100) (most := 100000) (by decide) (hM.fw hF15 fun o k z => by unfold lmQ at z; unfold runP; omega) hV5
        have hmf : moreF K (ceM s c) a1 0 0 0 0 = told (vE (ceM s c) a1 0 q 0 0 0) 100 100000 K := by
          unfold moreF
          rw [if_pos (by decide), hq]
        have hgoM : ∀ {x : Int32 × cS}, Ev (fun N => if a2 = 0 then some ((q, t5)) else ob (f_X12_toldBy N (100 : Int32) (100000 : Int32) t5) fun r17 s18 => some ((r17, s18))) x → Ev (fun N => f_X12_pull N (nI c) a1 a2 t2) x := by
          intro x kx
          refine Ev.cg (Ev.bnd k1' (k := fun N r12 s13 => if a2 = 0 then some ((r12, iS s13 193 41 r12)) else ob (f_X12_toldBy N (100 : Int32) (100000 : Int32) (iS s13 193 41 r12)) fun r17 s18 => some ((r17, s18))) (by rw [ht5]; exact kx)) (fun N => ?_)
          have q2 : ¬ f_X12_isCorner (nI c) t2 = 0 := by
            have : f_X12_isCorner (nI c) t2 = f_X12_isCorner (nI c) s := by
              unfold f_X12_isCorner
              rw [hF12.int (by unfold runP; omega)]
            rw [this, b2]; decide
          unfold f_X12_pull
          rw [if_neg q2, hL2, if_neg c1, hL3, if_neg c2]
          show ob (f_X12_toldBy N 113 10000 (iS (iS (f_X12_takes (nI c) t2).2 193 39 a1) 193 41 0)) _ = _
          rw [ht3]
          rfl
        have hF16 : Fw runP s t6 := hF15.tr (l2.mo fun o k z => by unfold mR at z; unfold runP; omega)
        by_cases z : a2 = 0
        · refine ⟨q, t2, t5, ?_, (hgoM (x := (q, t5)) (Ev.of fun N => by rw [if_pos z])).ex, hF15⟩
          have := hgoX.ex
          rw [if_pos z, hq] at this
          exact this
        · refine ⟨moreF K (ceM s c) a1 0 0 0 0, t2, t6, ?_, (hgoM (x := (moreF K (ceM s c) a1 0 0 0 0, t6)) ?_).ex, hF16⟩
          · have := hgoX.ex
            rw [if_neg z] at this
            exact this
          · rw [hmf]
            refine Ev.cg (Ev.bnd l1 (k := fun _ r17 s18 => some ((r17, s18))) (Ev.of fun N => rfl)) (fun N => ?_)
            rw [if_neg z]
