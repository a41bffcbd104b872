/-! runs and pull -/
theorem CorN.fw {n : Nat} {m : Nat → Nat} {P : Nat → Nat → Prop} {s t : cS} (h : CorN n m s) (hF : Fw P s t) (hd : ∀ o k, corQ o k → ¬ P o k) : CorN n m t := CorN.rd.fw hF h hd
/-- a life's number, or none -/
theorem has_life {n c : Nat} {m : Nat → Nat} {s : cS} (h : CorN n m s) (hc : c < n) (a : Int32) : (f_X1_hasLife (nI c) a s = 0 ∧ lIn a.toInt64 (0 : Int64) (((iG s 199 c) - (1 : Int32)).toInt64) = 0) ∨ ∃ i, i < m c ∧ a = nI i ∧ f_X1_hasLife (nI c) a s = 1 ∧ lIn a.toInt64 (0 : Int64) (((iG s 199 c) - (1 : Int32)).toInt64) = 1 := by
  obtain ⟨h0, h1, h2, h4, h5, h6, h7⟩ := h
  obtain ⟨-, -, -, -, q5, q6, q7⟩ := h4 c (by omega)
  have e1 : f_X1_hasLife (nI c) a s = if a < 0 then (0 : Int32) else if nI (m c) ≤ a then (0 : Int32) else (1 : Int32) := by
    unfold f_X1_hasLife
    rw [has_n h1 h0 (by omega), if_pos hc, if_neg (by decide), aA_n (by omega) (by omega), q5]
  rw [e1, q6]
  rcases has_c a (m c) (by omega) with ⟨a1, a2, -⟩ | ⟨i, hi, rfl, a1, a2⟩
  · exact Or.inl ⟨a1, a2⟩
  · exact Or.inr ⟨i, hi, rfl, a1, a2⟩
theorem life_of {n c i : Nat} {m : Nat → Nat} {s : cS} (h : CorN n m s) (hc : c < n) (hi : i < m c) : f_X1_lifeOf (nI c) (nI i) s = iG s 9 (4 * c + i) := by
  have hn := h.1
  have hm := (h.2.2.2.1 c (by omega)).2.2.2.2.2.2
  unfold f_X1_lifeOf
  rcases has_life h hc (nI i) with ⟨a1, -⟩ | ⟨i', -, -, a1, -⟩
  · exfalso
    obtain ⟨h0, h1, h2, h4, h5, h6, h7⟩ := h
    obtain ⟨-, -, -, -, q5, -, -⟩ := h4 c (by omega)
    unfold f_X1_hasLife at a1
    rw [has_n h1 h0 (by omega), if_pos hc, if_neg (by decide), aA_n (by omega) (by omega), q5, if_neg (nI_pos (by omega)), if_neg (nI_ge hi (by omega))] at a1
    exact absurd a1 (by decide)
  · rw [a1, if_neg (by decide)]
    have e : nI c * (4 : Int32) + nI i = nI (4 * c + i) := by
      show nI c * nI 4 + nI i = _
      rw [pk_mul, nI_add]
      congr 1
      omega
    rw [e, aA_n (by omega) (by omega)]
def runP (o k : Nat) : Prop := o = 117 ∨ (o = 123 ∧ 1 ≤ k ∧ k ≤ 15) ∨ o = 17 ∨ o = 18 ∨ o = 25 ∨ o = 26 ∨ ((o = 11 ∨ o = 19) ∧ 10 ≤ k ∧ k ≤ 12) ∨ o = 215 ∨ o = 216 ∨ (o = 193 ∧ ((38 ≤ k ∧ k ≤ 44) ∨ (53 ≤ k ∧ k ≤ 54))) ∨ (o = 165 ∧ 1 ≤ k ∧ k ≤ 15)
theorem xV_run {L o k : Nat} (hL : L = 11 ∨ L = 19) (h : xV L o k) : runP o k := by
  unfold xV xU at h
  unfold runP
  rcases hL with rfl | rfl <;> omega
theorem LawK.L {K : List Cl} {s : cS} (h : LawK K s) : ∃ L, (L = 11 ∨ L = 19) ∧ s.1.1 = L ∧ LwX K L s ∧ LwM K s ∧ LwF K := by
  obtain ⟨h1, h2, h3⟩ := h
  refine ⟨s.1.1, ?_, rfl, h2, h3, h2.f⟩
  rcases h1 with ⟨a, -⟩ | ⟨a, -⟩
  · exact Or.inl a
  · exact Or.inr a
theorem LwX.fw {K : List Cl} {L : Nat} {P : Nat → Nat → Prop} {s t : cS} (h : LwX K L s) (hF : Fw P s t) (hd : ∀ o k, lwQ L o k → ¬ P o k) : LwX K L t := LwX.rd.fw hF h hd
theorem LwM.fw {K : List Cl} {P : Nat → Nat → Prop} {s t : cS} (h : LwM K s) (hF : Fw P s t) (hd : ∀ o k, lmQ o k → ¬ P o k) : LwM K t := LwM.rd.fw hF h hd
theorem m_runs {n : Nat} {m : Nat → Nat} {K : List Cl} {P : Nat → List (Nat × Nat)} {s : cS} (hC : CorN n m s) (hL : LawK K s) (hP : PrgI P s) (a0 a1 a2 a3 : Int32) : ∃ r s1 s2, r_X11_runs a0 a1 a2 a3 s r s1 ∧ r_X12_runs a0 a1 a2 a3 s1 r s2 ∧ Fw runP s s2 := by
  have hnone : f_X11_runs 0 a0 a1 a2 a3 s = some (-1, s) → f_X12_runs 0 a0 a1 a2 a3 s = some (-1, s) → ∃ r s1 s2, r_X11_runs a0 a1 a2 a3 s r s1 ∧ r_X12_runs a0 a1 a2 a3 s1 r s2 ∧ Fw runP s s2 := fun h1 h2 => ⟨-1, s, s, ⟨0, h1⟩, ⟨0, h2⟩, Fw.rf⟩
  have hn8 := hC.1
  have hL1 : f_X12_isProgram a0 s = wB a0 0 7 := lIn_w (a' := 0) (b' := 7) rfl rfl
  have hL3 : lIn a3.toInt64 (0 : Int64) (1 : Int64) = wB a3 0 1 := lIn_w (a' := 0) (b' := 1) rfl rfl
  by_cases c0 : wB a0 0 7 = 0
  · refine hnone ?_ ?_
    · unfold f_X11_runs
      rw [x_programN c0, ob_mk, orf_no]
    · unfold f_X12_runs
      rw [hL1, if_pos c0]
  · obtain ⟨j, -, hj, rfl⟩ := wB_out (m := 0) (n := 7) (by decide) (by decide) c0
    have hj8 : j < 8 := by omega
    rcases has_cor hC.2.1 hC.2.2.1 hn8 a1 with ⟨b1, b2, -⟩ | ⟨c, hc, rfl, b1, b2⟩
    · refine hnone ?_ ?_
      · unfold f_X11_runs f_X1_hasLife
        rw [x_programOf hj8, ob_mk, orf_mk, if_pos b1, if_pos rfl]
      · unfold f_X12_runs
        rw [hL1, if_neg c0, if_pos b2]
    · have hin : inb (nI c) 8 := (inb_n (by omega)).mpr (by omega)
      have hcc : (nI c).toNatClampNeg = c := nI_clamp (by omega)
      rcases has_life hC hc a2 with ⟨d1, d2⟩ | ⟨i, hi, rfl, d1, d2⟩
      · refine hnone ?_ ?_
        · unfold f_X11_runs
          rw [x_programOf hj8, ob_mk, orf_mk, if_pos d1]
        · unfold f_X12_runs
          rw [hL1, if_neg c0, if_neg (by rw [b2]; decide)]
          simp only [if_pos hin, hcc, if_pos d2]
      · by_cases c3 : wB a3 0 1 = 0
        · refine hnone ?_ ?_
          · unfold f_X11_runs
            rw [x_programOf hj8, ob_mk, orf_mk, if_neg (by rw [d1]; decide), if_pos c3]
          · unfold f_X12_runs
            rw [hL1, if_neg c0, if_neg (by rw [b2]; decide)]
            have d2' : ¬ lIn (nI i).toInt64 (0 : Int64) (((iG s 199 c) - (1 : Int32)).toInt64) = 0 := by rw [d2]; decide
            simp only [if_pos hin, hcc, if_neg d2', hL3, if_pos c3]
        · obtain ⟨L, hL', hs1, hX, hM, hF⟩ := hL.L
          obtain ⟨g1, g2⟩ := hP.1 j (by omega)
          have hpt : prT j = 169 + 3 * j := by unfold prT; rw [if_pos hj8]
          rw [hpt] at g1
          have hm4 := (hC.2.2.2.1 c (by omega)).2.2.2.2.2.2
          obtain ⟨u1, u2, u3, -⟩ := hC.2.2.2.2.2.2 c i (by omega) hi
          have hce := hC.ce (c := c) (by omega)
          have hr7 := (hC.2.2.2.1 c (by omega)).2.2.2.1
          have hρ := hC.2.2.2.2.2.1 c hc
          -- the class
          obtain ⟨t1, e1, e2, e3⟩ := x_layOut (T := 169 + 3 * j) (p := 0) (total := 0) (by omega) (by omega) g1
          have e1' : Ev (fun N => f_X6_layOut N (169 + 3 * j) 0 0 s) ((), t1) := e1
          have hC1 : CorN n m t1 := hC.fw e3 fun o k z => by unfold corQ at z; unfold x117; omega
          have hpl : f_X6_pulls (169 + 3 * j) t1 = nI (pls (P j)) := by
            unfold f_X6_pulls
            rw [e3.int (by unfold x117; omega)]
            exact g1.2.2.1
          have h93 : iG t1 9 (4 * c + i) = iG s 9 (4 * c + i) := e3.int (by unfold x117; omega)
          have hce1 : ceX t1 c = ceX s c := by
            unfold ceX
            rw [e3.int (by unfold x117; omega), e3.int (by unfold x117; omega), e3.int (by unfold x117; omega)]
          have hlf0 : iG s 9 (4 * c + i) ≠ 0 := by
            intro z
            rw [z] at u2
            exact absurd u2 (by decide)
          obtain ⟨t2, f1, f2, f3, f4⟩ := x_follow (K := K) (c := c) (total := pls (P j)) (life := iG s 9 (4 * c + i)) (ρ := iG s 7 c) (row := rowOf 0 (P j)) (s := t1) (i := nI i) hL' (by omega) hρ hlf0 (by rw [life_of hC1 hc hi, h93]) g1.2.2.2.1 (by rw [e3.1]; exact hs1) (hX.fw e3 fun o k z => by unfold lwQ at z; unfold x117; omega) (e3.int (by unfold x117; omega)) (fun i hi => e2 i (Or.inl hi))
          rw [hce1] at f2 f3
          have hF12 : Fw runP s t2 := (e3.mo fun o k z => Or.inl z).tr (f4.mo fun o k z => xV_run hL' z)
          have hgoX : Ev (fun N => f_X11_runs N (nI j) (nI c) (nI i) a3 s) (if a3 = 0 then nI (fst1 (CrkP (traj K (ceX s c) (iG s 9 (4 * c + i)) (rowOf 0 (P j)))) (pls (P j))) else nI (fst1 (RunP (traj K (ceX s c) (iG s 9 (4 * c + i)) (rowOf 0 (P j))) (iG s 7 c)) (pls (P j))), t2) := by
            have hd1 : ¬ f_X1_hasLife (nI c) (nI i) s = 0 := by rw [d1]; decide
            by_cases z : a3 = 0
            · rw [if_pos z, ← f2]
              refine Ev.cg (Ev.bnd e1' (k := fun N _ s2 => ob (f_X5_follow N (nI c) (nI i) (f_X6_pulls (169 + 3 * j) s2) s2) fun r5 s6 => some (((f_X8_crackedBy 123 s6), s6))) (Ev.bnd (by rw [hpl]; exact f1) (k := fun _ _ s6 => some (((f_X8_crackedBy 123 s6), s6))) (Ev.of fun N => rfl))) (fun N => ?_)
              unfold f_X11_runs
              rw [x_programOf hj8, ob_mk, orf_mk, if_neg hd1, if_neg c3, if_pos z, if_pos (kd6 hj8)]
              unfold f_X5_crackedBy
              cases f_X6_layOut N (169 + 3 * j) 0 0 s with
              | none => rfl
              | some y =>
                show ob (ob (f_X5_follow N (nI c) (nI i) (f_X6_pulls (169 + 3 * j) y.2) y.2) _) _ = ob (f_X5_follow N (nI c) (nI i) (f_X6_pulls (169 + 3 * j) y.2) y.2) _
                cases f_X5_follow N (nI c) (nI i) (f_X6_pulls (169 + 3 * j) y.2) y.2 <;> rfl
            · rw [if_neg z, ← f3]
              refine Ev.cg (Ev.bnd e1' (k := fun N _ s2 => ob (f_X5_follow N (nI c) (nI i) (f_X6_pulls (169 + 3 * j) s2) s2) fun r5 s6 => some (((f_X8_ranBy 123 s6), s6))) (Ev.bnd (by rw [hpl]; exact f1) (k := fun _ _ s6 => some (((f_X8_ranBy 123 s6), s6))) (Ev.of fun N => rfl))) (fun N => ?_)
              unfold f_X11_runs
              rw [x_programOf hj8, ob_mk, orf_mk, if_neg hd1, if_neg c3, if_neg z, if_pos (kd6 hj8)]
              unfold f_X5_ranBy
              cases f_X6_layOut N (169 + 3 * j) 0 0 s with
              | none => rfl
              | some y =>
                show ob (ob (f_X5_follow N (nI c) (nI i) (f_X6_pulls (169 + 3 * j) y.2) y.2) _) _ = ob (f_X5_follow N (nI c) (nI i) (f_X6_pulls (169 + 3 * j) y.2) y.2) _
                cases f_X5_follow N (nI c) (nI i) (f_X6_pulls (169 + 3 * j) y.2) y.2 <;> rfl
          -- the reference
          have hC2 : CorN n m t2 := hC.fw hF12 fun o k z => by unfold corQ at z; unfold runP; omega
          have h200 : iG t2 200 (4 * c + i) = iG s 9 (4 * c + i) := (hF12.int (by unfold runP; omega)).trans u1.symm
          have h199 : iG t2 199 c = iG s 199 c := hF12.int (by unfold runP; omega)
          obtain ⟨t3, k1, k2, k3, k4⟩ := m_goes (K := K) (life := iG s 9 (4 * c + i)) (ρ := iG s 7 c) (p := 0) (prog := nI j) (c := c) (fl := 0) (ps := P j) (s := t2) hF (hM.fw hF12 fun o k z => by unfold lmQ at z; unfold runP; omega) (by omega) hρ (by rw [hF12.int (by unfold runP; omega)]; exact hr7.symm) (by have := g1.2.2.2.1; omega) (Or.inl ⟨j, by omega, rfl, PrM.rd.fw hF12 g2 fun o k z => by unfold runP; omega⟩)
          have hce2 : ceM t2 c = ceX s c := by
            rw [hce]
            unfold ceM
            rw [hF12.int (by unfold runP; omega), hF12.int (by unfold runP; omega), hF12.int (by unfold runP; omega)]
          rw [hce2, Nat.add_zero] at k2 k3
          have hgoM : Ev (fun N => f_X12_runs N (nI j) (nI c) (nI i) a3 t2) (if a3 = 0 then nI (fst1 (CrkP (traj K (ceX s c) (iG s 9 (4 * c + i)) (rowOf 0 (P j)))) (pls (P j))) else nI (fst1 (RunP (traj K (ceX s c) (iG s 9 (4 * c + i)) (rowOf 0 (P j))) (iG s 7 c)) (pls (P j))), t3) := by
            refine Ev.cg (Ev.bnd k1 (k := fun _ _ s12 => if a3 = 0 then some (((iG s12 193 53), s12)) else some (((iG s12 193 54), s12))) (Ev.of fun N => ?_)) (fun N => ?_)
            · rw [k2, k3]
              split <;> rfl
            · unfold f_X12_runs
              have q1 : ¬ f_X12_isProgram (nI j) t2 = 0 := fun z => c0 (by rw [← hL1]; exact z)
              have q2 : ¬ f_X12_isCorner (nI c) t2 = 0 := by
                have : f_X12_isCorner (nI c) t2 = f_X12_isCorner (nI c) s := by
                  unfold f_X12_isCorner
                  rw [hF12.int (by unfold runP; omega)]
                rw [this, b2]; decide
              have q3 : ¬ lIn (nI i).toInt64 (0 : Int64) (((iG t2 199 c) - (1 : Int32)).toInt64) = 0 := by rw [h199, d2]; decide
              have q4 : ¬ lIn a3.toInt64 (0 : Int64) (1 : Int64) = 0 := by rw [hL3]; exact c3
              have q5 : (4 : Int32) * nI c + nI i = nI (4 * c + i) := by
                show nI 4 * nI c + nI i = _
                rw [pk_mul, nI_add]
              have q6 : inb (nI (4 * c + i)) 32 := (inb_n (by omega)).mpr (by omega)
              have q7 : (nI (4 * c + i)).toNatClampNeg = 4 * c + i := nI_clamp (by omega)
              rw [if_neg q1, if_neg q2]
              simp only [if_pos hin, hcc, if_neg q3, if_neg q4, q5, if_pos q6, q7, h200]
              rfl
          refine ⟨_, t2, t3, hgoX.ex, hgoM.ex, hF12.tr (k4.mo fun o k z => ?_)⟩
          unfold mG mR at z
          unfold runP
          omega
