/-! the class's law: clauses one by one, then taken over -/
def xC (T o k : Nat) : Prop := xP T o k ∨ (o = T ∧ k = 8) ∨ (T + 2 ≤ o ∧ o ≤ T + 5)
theorem Fw.xc {T : Nat} {s t : cS} (h : Fw (xP T) s t) : Fw (xC T) s t := h.mo fun _ _ z => Or.inl z
/-- each clause's steps do what its codes say -/
def SemK (W : Nat → Nat × Nat) (K : List Cl) : Prop := ∀ i c, K[i]? = some c → SemS W (cst K i) (cst K i + c.2.1.length) c.2.1 17 ∧ SemC W (cst K i + c.2.1.length) (cst K i + c.2.1.length + c.2.2.length) c.2.2 18
theorem cst_le {K : List Cl} {i : Nat} {c : Cl} (h : K[i]? = some c) : cst K i + c.2.1.length + c.2.2.length ≤ (cds K).length := by
  have hi := (List.getElem?_eq_some_iff.mp h).1
  have e1 : K.take (i + 1) = K.take i ++ [c] := by rw [List.take_succ, h]; rfl
  have e2 : cds K = cds (K.take (i + 1)) ++ cds (K.drop (i + 1)) := by
    unfold cds
    rw [← List.flatMap_append, List.take_append_drop]
  rw [e2, e1, cds_app]
  unfold cst
  simp only [List.length_append]
  omega
/-- between clauses -/
def XK (tb : Nat → Nat) (e p T : Nat) (K : List Cl) (u : Nat) (W : Nat → Nat × Nat) (s : cS) : Prop := XR tb e p T (cds K).length u W s ∧ iG s T 8 = nI K.length ∧ K.length ≤ 12 ∧ clR (T + 2) (T + 3) (T + 4) (T + 5) K s ∧ us u (cds K) ∧ SemK W K
section
variable {tb : Nat → Nat} {e T : Nat}
theorem XB.c (hT : T = 11 ∨ T = 19) {f w : Nat} {s t : cS} (h : XB T f w s) (hF : Fw (xC T) s t) (h4 : iG t 1 4 = iG s 1 4) (h5 : iG t 1 5 = iG s 1 5) : XB T f w t := by
  refine ⟨?_, by rw [hF.1]; exact h.2⟩
  unfold TBd
  rw [h4, h5]
  exact h.1
theorem pA_fw {P : Nat → Nat → Prop} {s : cS} {A n : Nat} {i x : Int32} (h : ∀ k, P A k) : Fw P s (pA s A n i x) := by
  unfold pA
  split
  · exact Fw.rf.st (h _)
  · exact Fw.rf
theorem pA_o {s : cS} {A n : Nat} {i x : Int32} {o k : Nat} (h : o ≠ A) : iG (pA s A n i x) o k = iG s o k := by
  unfold pA
  split
  · exact iG_ne h
  · rfl
/-- behind a fault a clause comes to its end -/
theorem A_clauseX (hT : T = 11 ∨ T = 19) (i : Nat) {f w : Nat} {s : cS} (h : XB T f w s) : Ev (fun N => F_clause N (nI i) s) ((), s) := by
  refine Ev.of fun N => ?_
  show f_X4_readClause _ _ (nI i) s = _
  unfold f_X4_readClause
  rw [h.1.sg, if_neg (by decide), if_neg (by decide), if_neg (by decide), h.1.fail, tb_mk]
def clB (N T : Nat) (s9 : cS) : Option (Unit × cS) := ob (F_sum N 8 0 s9) fun _ s12 => if kd s12.1.2.2 3 then (f_X9_pass 40 (f_X3_openCondition s12.1.2.2 s12).2).2 |> fun s19 => ob (F_choice N 8 1 s19) fun _ s22 => if kd (f_X9_pass 41 s22).2.1.2.2 3 then some ((), (f_X3_closeClause (f_X9_pass 41 s22).2.1.2.2 (f_X9_pass 41 s22).2).2) else none else none
theorem clB_2 (hT : T = 11 ∨ T = 19) {f w : Nat} {s19 : cS} (h : XB T f w s19) : ∃ s', Ev (fun N => ob (F_choice N 8 1 s19) fun _ s22 => if kd (f_X9_pass 41 s22).2.1.2.2 3 then some ((), (f_X3_closeClause (f_X9_pass 41 s22).2.1.2.2 (f_X9_pass 41 s22).2).2) else none) ((), s') ∧ XB T f w s' ∧ Fw (xC T) s19 s' := by
  have hP := A_piece (tb := fun _ => 0) (e := 0) hT 8 1 (by omega) (by omega)
  obtain ⟨s2, b1, b2, b3⟩ := (A_choice (tb := fun _ => 0) (e := 0) hT hP.1 hP.2).2 f w s19 h
  have hp : f_X9_pass 41 s2 = ((), s2) := b2.1.pass (c := 41) (by decide)
  have hF : Fw (xC T) s2 (f_X3_closeClause T s2).2 := by
    unfold f_X3_closeClause
    rw [sb_mk, sb_mk]
    exact (pA_fw fun k => by unfold xC; omega).st (by unfold xC; omega)
  have h4 : ∀ k, iG (f_X3_closeClause T s2).2 1 k = iG s2 1 k := by
    intro k
    unfold f_X3_closeClause
    rw [sb_mk, sb_mk]
    show iG (iS (pA s2 (T + 5) 12 (iG s2 T 8) (iG s2 T 7)) T 8 _) 1 k = _
    rw [iG_ne (by omega), pA_o (by omega)]
  refine ⟨(f_X3_closeClause T s2).2, Ev.bnd b1 (Ev.of fun N => ?_), b2.c hT hF (h4 4) (h4 5), b3.xc.tr hF⟩
  rw [hp]
  dsimp only
  rw [b2.2, if_pos (kdT hT)]
theorem clB_1 (hT : T = 11 ∨ T = 19) {f w : Nat} {s9 s12 : cS} (k1 : Ev (fun N => F_sum N 8 0 s9) ((), s12)) (h : XB T f w s12) : ∃ s', Ev (fun N => clB N T s9) ((), s') ∧ XB T f w s' ∧ Fw (xC T) s12 s' := by
  have hF : Fw (xC T) s12 (f_X3_openCondition T s12).2 := by
    unfold f_X3_openCondition
    rw [sb_mk]
    exact pA_fw fun k => by unfold xC; omega
  have h4 : ∀ k, iG (f_X3_openCondition T s12).2 1 k = iG s12 1 k := by
    intro k
    unfold f_X3_openCondition
    rw [sb_mk]
    exact pA_o (by omega)
  have hb := h.c hT hF (h4 4) (h4 5)
  obtain ⟨s', a1, a2, a3⟩ := clB_2 hT hb
  have hp : f_X9_pass 40 (f_X3_openCondition T s12).2 = ((), (f_X3_openCondition T s12).2) := hb.1.pass (c := 40) (by decide)
  refine ⟨s', Ev.bnd k1 (Ev.cg a1 (fun N => ?_)), a2, hF.tr a3⟩
  rw [h.2, if_pos (kdT hT), hp]
theorem A_clause (hT : T = 11 ∨ T = 19) {p u : Nat} {K : List Cl} {W : Nat → Nat × Nat} {s : cS} (h : XK tb e p T K u W s) : match claS tb e K.length p with
    | .inl (p', c) => p < p' ∧ K.length < 12 ∧ ∃ s' u' W', Ev (fun N => F_clause N (nI K.length) s) ((), s') ∧ XK tb e p' T (K ++ [c]) u' W' s' ∧ Fw (xC T) s s'
    | .inr (f, w) => ∃ s', Ev (fun N => F_clause N (nI K.length) s) ((), s') ∧ XB T f w s' ∧ Fw (xC T) s s' := by
  obtain ⟨hX, h8, hK, hC, hU, hSem⟩ := h
  have hXX := hX
  obtain ⟨hTR, hLR, hzp, he⟩ := hX
  rw [claS_eq]
  by_cases c1 : cq tb e p ∈ ([113, 100, 103] : List Nat)
  · rw [if_pos c1]
    have hc' : 0 < cq tb e p ∧ cq tb e p < 256 := by
      simp only [List.mem_cons, List.not_mem_nil, or_false] at c1
      omega
    have hlt : p < e := cq_lt (tb := tb) hc'.2
    have hs := hTR.eq hc'.2
    have hj : ∀ N, F_clause N (nI K.length) s = j_X4_readClause_42 (F_sum N 8) (F_choice N 8) (nI K.length) (nI (cq tb e p)) s := by
      intro N
      show f_X4_readClause _ _ (nI K.length) s = _
      unfold f_X4_readClause
      rw [hs]
      have a : ∀ n : Nat, n < 2 ^ 31 → (nI (cq tb e p) = nI n ↔ cq tb e p = n) := fun n hn => nI_eq (by omega) hn
      simp only [i_lit, a _ (by decide : (113 : Nat) < 2 ^ 31), a _ (by decide : (100 : Nat) < 2 ^ 31), a _ (by decide : (103 : Nat) < 2 ^ 31)]
      simp only [List.mem_cons, List.not_mem_nil, or_false] at c1
      rcases c1 with z | z | z
      · rw [if_pos z]
      · rw [if_neg (by omega), if_pos z]
      · rw [if_neg (by omega), if_neg (by omega), if_pos z]
    by_cases c2 : K.length < 12
    · rw [if_pos c2]
      obtain ⟨s1, a1, a2, a3⟩ := hTR.pass (c := cq tb e p) rfl hc'.2
      have hL1 := hLR.t hT a3
      have h81 : iG s1 T 8 = nI K.length := by rw [a3.int (by unfold xT; omega), h8]
      generalize hs5 : iS (iS s1 (T + 2) K.length (nI (cq tb e p))) (T + 3) K.length (nI (cds K).length) = s5
      have hF5 : Fw (xC T) s1 s5 := by
        rw [← hs5]
        refine (Fw.rf.st ?_).st ?_ <;> (unfold xC; omega)
      have g5 : ∀ o k, ¬ (T + 2 ≤ o ∧ o ≤ T + 3) → iG s5 o k = iG s1 o k := by
        intro o k ho
        rw [← hs5, iG_ne (by omega), iG_ne (by omega)]
      have hX5 : XR tb e (p + 1) T (cds K).length u W s5 := by
        refine ⟨?_, ?_, by omega, he⟩
        · obtain ⟨g1, g2, g3, g4, g6, g7, g8⟩ := a2
          exact ⟨by rw [g5 1 3 (by omega)]; exact g1, by rw [g5 1 2 (by omega)]; exact g2, by rw [g5 1 4 (by omega)]; exact g3, g4, g6, g7, fun i hi => by rw [g5 2 i (by omega)]; exact g8 i hi⟩
        · obtain ⟨g1, g2, g3, g4, g6⟩ := hL1
          exact ⟨by rw [hF5.1]; exact g1, by rw [g5 T 7 (by omega)]; exact g2, fun i hi => by rw [g5 (T + 1) i (by omega)]; exact g3 i hi, by rw [g5 T 9 (by omega)]; exact g4, g6⟩
      have hgo : ∀ {q : Unit × cS}, Ev (fun N => clB N T s5) q → Ev (fun N => F_clause N (nI K.length) s) q := by
        intro q kq
        refine Ev.cg kq (fun N => ?_)
        rw [hj]
        unfold j_X4_readClause_42 f_X3_openClause clB
        rw [if_pos (c := nI K.length < 12) (nI_lt (b := 12) c2 (by omega)), a1, tb_mk, hL1.1, if_pos (kdT hT), h81, pA_n (by omega) (by omega), sb_mk]
        have e1 : iG (iS s1 (T + 2) K.length (nI (cq tb e p))) T 8 = nI K.length := by rw [iG_ne (by omega), h81]
        have e2 : iG (iS s1 (T + 2) K.length (nI (cq tb e p))) T 7 = nI (cds K).length := by rw [iG_ne (by omega)]; exact hL1.2.1
        rw [e1, e2, pA_n (by omega) (by omega), sb_mk, tb_mk, hs5]
        rfl
      have hA := (A_sum (tb := tb) (e := e) hT 8 0 (by omega) (by omega)).1 (p + 1) (cds K).length u W s5 hX5
      cases hx : sumS tb e 8 0 (p + 1) with
      | inr y =>
        obtain ⟨f, w⟩ := y
        rw [hx] at hA
        obtain ⟨s6, b1, b2, b3⟩ := hA
        obtain ⟨s', k1, k2, k3⟩ := clB_1 hT (s9 := s5) (by exact b1) b2
        exact ⟨s', hgo k1, k2, a3.xt.xc.tr (hF5.tr (b3.xc.tr k3))⟩
      | inl y =>
        obtain ⟨p1, L1⟩ := y
        rw [hx] at hA
        obtain ⟨b0, b0', s6, u6, W6, b1, b2, b4, b5, b6, b7, b3⟩ := hA
        dsimp only
        have h86 : iG s6 T 8 = nI K.length := by rw [b3.int (by unfold xP xT xL; omega), g5 T 8 (by omega), h81]
        have h76 : iG s6 T 7 = nI ((cds K).length + L1.length) := b2.2.1.2.1
        generalize hs7 : iS s6 (T + 4) K.length (nI ((cds K).length + L1.length)) = s7
        have hoc : f_X3_openCondition T s6 = ((), s7) := by
          unfold f_X3_openCondition
          rw [h86, pA_n (by omega) (by omega), h76, sb_mk, hs7]
        have hF7 : Fw (xC T) s6 s7 := by
          rw [← hs7]
          exact Fw.rf.st (by unfold xC; omega)
        have g7 : ∀ o k, o ≠ T + 4 → iG s7 o k = iG s6 o k := by
          intro o k ho
          rw [← hs7, iG_ne ho]
        have hX7 : XR tb e p1 T ((cds K).length + L1.length) u6 W6 s7 := by
          refine ⟨?_, ?_, b2.2.2.1, he⟩
          · obtain ⟨g1, g2, g3, g4, g6, gg, g8⟩ := b2.1
            exact ⟨by rw [g7 1 3 (by omega)]; exact g1, by rw [g7 1 2 (by omega)]; exact g2, by rw [g7 1 4 (by omega)]; exact g3, g4, g6, gg, fun i hi => by rw [g7 2 i (by omega)]; exact g8 i hi⟩
          · obtain ⟨g1, g2, g3, g4, g6⟩ := b2.2.1
            exact ⟨by rw [hF7.1]; exact g1, by rw [g7 T 7 (by omega)]; exact g2, fun i hi => by rw [g7 (T + 1) i (by omega)]; exact g3 i hi, by rw [g7 T 9 (by omega)]; exact g4, g6⟩
        have hgo2 : ∀ {q : Unit × cS}, Ev (fun N => ob (F_choice N 8 1 (f_X9_pass 40 s7).2) fun _ s22 => if kd (f_X9_pass 41 s22).2.1.2.2 3 then some ((), (f_X3_closeClause (f_X9_pass 41 s22).2.1.2.2 (f_X9_pass 41 s22).2).2) else none) q → Ev (fun N => F_clause N (nI K.length) s) q := by
          intro q kq
          refine hgo (Ev.bnd (r := ()) (s := s6) b1 (Ev.cg kq (fun N => ?_)))
          rw [b2.2.1.1, if_pos (kdT hT), hoc]
        unfold condS
        by_cases h40 : cq tb e p1 = 40
        · rw [if_pos h40]
          obtain ⟨s8, c1', c2', c3'⟩ := hX7.1.pass h40 (by decide)
          have c1'' : f_X9_pass 40 s7 = ((), s8) := c1'
          have hz7 := hX7.2.2.1
          have hX8 : XR tb e (p1 + 1) T ((cds K).length + L1.length) u6 W6 s8 := ⟨c2', hX7.2.1.t hT c3', by omega, he⟩
          have hP := A_piece (tb := tb) (e := e) hT 8 1 (by omega) (by omega)
          have hA2 := (A_choice (tb := tb) (e := e) hT hP.1 hP.2).1 (p1 + 1) _ u6 W6 s8 hX8
          rw [c1''] at hgo2
          cases hy : choS tb e (pieceS tb e 8) 1 (p1 + 1) with
          | inr y =>
            obtain ⟨f, w⟩ := y
            rw [hy] at hA2
            obtain ⟨s9, d1, d2, d3⟩ := hA2
            have hp : f_X9_pass 41 s9 = ((), s9) := d2.1.pass (c := 41) (by decide)
            have hF9 : Fw (xC T) s9 (f_X3_closeClause T s9).2 := by
              unfold f_X3_closeClause
              rw [sb_mk, sb_mk]
              exact (pA_fw fun k => by unfold xC; omega).st (by unfold xC; omega)
            have h4 : ∀ k, iG (f_X3_closeClause T s9).2 1 k = iG s9 1 k := by
              intro k
              unfold f_X3_closeClause
              rw [sb_mk, sb_mk]
              show iG (iS (pA s9 (T + 5) 12 (iG s9 T 8) (iG s9 T 7)) T 8 _) 1 k = _
              rw [iG_ne (by omega), pA_o (by omega)]
            refine ⟨(f_X3_closeClause T s9).2, hgo2 (Ev.bnd d1 (Ev.of fun N => ?_)), d2.c hT hF9 (h4 4) (h4 5), a3.xt.xc.tr (hF5.tr (b3.xc.tr (hF7.tr (c3'.xt.xc.tr (d3.xc.tr hF9)))))⟩
            rw [hp]
            dsimp only
            rw [d2.2, if_pos (kdT hT)]
          | inl y =>
            obtain ⟨p2, L2⟩ := y
            rw [hy] at hA2
            obtain ⟨d0, d0', s9, u9, W9, d1, d2, d4, d5, d6, d7, d3⟩ := hA2
            dsimp only
            by_cases h41 : cq tb e p2 = 41
            · rw [if_pos h41]
              obtain ⟨s10, f1, f2, f3⟩ := d2.1.pass h41 (by decide)
              have f1' : f_X9_pass 41 s9 = ((), s10) := f1
              have hL10 := d2.2.1.t hT f3
              have h810 : iG s10 T 8 = nI K.length := by
                rw [f3.int (by unfold xT; omega), d3.int (by unfold xP xT xL; omega), c3'.int (by unfold xT; omega), g7 T 8 (by omega), h86]
              have h710 : iG s10 T 7 = nI ((cds K).length + L1.length + L2.length) := hL10.2.1
              generalize hs11 : iS (iS s10 (T + 5) K.length (nI ((cds K).length + L1.length + L2.length))) T 8 (nI (K.length + 1)) = s11
              have hcc : f_X3_closeClause T s10 = ((), s11) := by
                unfold f_X3_closeClause
                rw [h810, pA_n (by omega) (by omega), h710, sb_mk]
                have e1 : iG (iS s10 (T + 5) K.length (nI ((cds K).length + L1.length + L2.length))) T 8 = nI K.length := by rw [iG_ne (by omega), h810]
                rw [e1, nI_1, sb_mk, hs11]
              have hF11 : Fw (xC T) s10 s11 := by
                rw [← hs11]
                refine (Fw.rf.st ?_).st ?_ <;> (unfold xC; omega)
              have g11 : ∀ o k, o ≠ T + 5 → ¬ (o = T ∧ k = 8) → iG s11 o k = iG s10 o k := by
                intro o k ho hk
                rw [← hs11, iG_if]
                by_cases z : o = T
                · rw [if_pos z, if_neg (by omega), iG_ne ho]
                · rw [if_neg z, iG_ne ho]
              have hlen : (cds (K ++ [(cq tb e p, L1, L2)])).length = (cds K).length + L1.length + L2.length := by rw [cds_app]; simp; omega
              have hz9 := d2.2.2.1
              refine ⟨by omega, c2, s11, u9, W9, hgo2 (Ev.bnd d1 (Ev.of fun N => ?_)), ⟨⟨?_, ?_, by omega, he⟩, ?_, by simp; omega, ?_, ?_, ?_⟩, a3.xt.xc.tr (hF5.tr (b3.xc.tr (hF7.tr (c3'.xt.xc.tr (d3.xc.tr (f3.xt.xc.tr hF11))))))⟩
              · rw [f1']
                dsimp only
                rw [hL10.1, if_pos (kdT hT), hcc]
              · obtain ⟨g1, g2, g3, g4, g6, gg, g8⟩ := f2
                exact ⟨by rw [g11 1 3 (by omega) (by omega)]; exact g1, by rw [g11 1 2 (by omega) (by omega)]; exact g2, by rw [g11 1 4 (by omega) (by omega)]; exact g3, g4, g6, gg, fun i hi => by rw [g11 2 i (by omega) (by omega)]; exact g8 i hi⟩
              · rw [hlen]
                obtain ⟨g1, g2, g3, g4, g6⟩ := hL10
                exact ⟨by rw [hF11.1]; exact g1, by rw [g11 T 7 (by omega) (by omega)]; exact g2, fun i hi => by rw [g11 (T + 1) i (by omega) (by omega)]; exact g3 i hi, by rw [g11 T 9 (by omega) (by omega)]; exact g4, g6⟩
              · rw [← hs11, iG_eq]; simp
              · have hback : ∀ o k, T + 2 ≤ o → o ≤ T + 5 → k ≠ K.length → iG s11 o k = iG s o k := by
                  intro o k ho1 ho2 hk
                  have e1 : iG s11 o k = iG s10 o k := by
                    rw [← hs11, iG_ne (by omega)]
                    by_cases z : o = T + 5
                    · subst z; rw [iG_nk hk]
                    · rw [iG_ne z]
                  have e2 : iG s7 o k = iG s6 o k := by
                    rw [← hs7]
                    by_cases z : o = T + 4
                    · subst z; rw [iG_nk hk]
                    · rw [iG_ne z]
                  have e3 : iG s5 o k = iG s1 o k := by
                    rw [← hs5]
                    by_cases z : o = T + 3
                    · subst z; rw [iG_nk hk, iG_ne (by omega)]
                    · rw [iG_ne z]
                      by_cases z : o = T + 2
                      · subst z; rw [iG_nk hk]
                      · rw [iG_ne z]
                  rw [e1, f3.int (by unfold xT; omega), d3.int (by unfold xP xT xL; omega), c3'.int (by unfold xT; omega), e2, b3.int (by unfold xP xT xL; omega), e3, a3.int (by unfold xT; omega)]
                intro i c hi
                rw [List.getElem?_append] at hi
                by_cases hik : i < K.length
                · rw [if_pos hik] at hi
                  rw [cst_app (by omega), hback (T + 2) i (by omega) (by omega) (by omega), hback (T + 3) i (by omega) (by omega) (by omega), hback (T + 4) i (by omega) (by omega) (by omega), hback (T + 5) i (by omega) (by omega) (by omega)]
                  exact hC i c hi
                · rw [if_neg hik] at hi
                  have hi0 : i - K.length = 0 := by
                    rcases Nat.eq_zero_or_pos (i - K.length) with z | z
                    · exact z
                    · rw [List.getElem?_eq_none (by simp; omega)] at hi
                      cases hi
                  rw [hi0] at hi
                  cases hi
                  have hik' : i = K.length := by omega
                  subst hik'
                  rw [cst_app (Nat.le_refl _), cst_len]
                  have k1 : ∀ o, o ≠ T + 5 → o ≠ T + 4 → T + 2 ≤ o → o ≤ T + 5 → iG s11 o K.length = iG s5 o K.length := by
                    intro o z1 z2 z3 z4
                    rw [g11 o _ z1 (by omega), f3.int (by unfold xT; omega), d3.int (by unfold xP xT xL; omega), c3'.int (by unfold xT; omega), g7 o _ z2, b3.int (by unfold xP xT xL; omega)]
                  refine ⟨?_, ?_, ?_, ?_⟩
                  · rw [k1 (T + 2) (by omega) (by omega) (by omega) (by omega), ← hs5, iG_ne (by omega), iG_eq]
                  · rw [k1 (T + 3) (by omega) (by omega) (by omega) (by omega), ← hs5, iG_eq]
                  · rw [g11 (T + 4) _ (by omega) (by omega), f3.int (by unfold xT; omega), d3.int (by unfold xP xT xL; omega), c3'.int (by unfold xT; omega), ← hs7, iG_eq]
                  · rw [← hs11, iG_ne (by omega), iG_eq]
              · rw [cds_app]
                exact ((hU.mo b5).mo d5).ap ((b6.mo d5).ap d6)
              · intro i c hi
                rw [List.getElem?_append] at hi
                by_cases hik : i < K.length
                · rw [if_pos hik] at hi
                  rw [cst_app (by omega)]
                  have hle := cst_le hi
                  obtain ⟨q1, q2⟩ := hSem i c hi
                  have hWW : ∀ j, j < (cds K).length → W9 j = W j := fun j hj => (d4 j (by omega)).trans (b4 j hj)
                  exact ⟨q1.cg fun j _ hj => hWW j (by omega), q2.cg fun j _ hj => hWW j (by omega)⟩
                · rw [if_neg hik] at hi
                  have hi0 : i - K.length = 0 := by
                    rcases Nat.eq_zero_or_pos (i - K.length) with z | z
                    · exact z
                    · rw [List.getElem?_eq_none (by simp; omega)] at hi
                      cases hi
                  rw [hi0] at hi
                  cases hi
                  have hik' : i = K.length := by omega
                  subst hik'
                  rw [cst_app (Nat.le_refl _), cst_len]
                  exact ⟨b7.cg fun j _ hj => d4 j hj, d7⟩
            · rw [if_neg h41]
              obtain ⟨s10, f1, f2, f3⟩ := d2.1.npass h41 (by decide)
              have f1' : f_X9_pass 41 s9 = ((), s10) := f1
              have hb10 : XB T 1 p2 s10 := ⟨f2, by rw [f3.1]; exact d2.2.1.1⟩
              have hF9 : Fw (xC T) s10 (f_X3_closeClause T s10).2 := by
                unfold f_X3_closeClause
                rw [sb_mk, sb_mk]
                exact (pA_fw fun k => by unfold xC; omega).st (by unfold xC; omega)
              have h4 : ∀ k, iG (f_X3_closeClause T s10).2 1 k = iG s10 1 k := by
                intro k
                unfold f_X3_closeClause
                rw [sb_mk, sb_mk]
                show iG (iS (pA s10 (T + 5) 12 (iG s10 T 8) (iG s10 T 7)) T 8 _) 1 k = _
                rw [iG_ne (by omega), pA_o (by omega)]
              refine ⟨(f_X3_closeClause T s10).2, hgo2 (Ev.bnd d1 (Ev.of fun N => ?_)), hb10.c hT hF9 (h4 4) (h4 5), a3.xt.xc.tr (hF5.tr (b3.xc.tr (hF7.tr (c3'.xt.xc.tr (d3.xc.tr (f3.xt.xc.tr hF9))))))⟩
              rw [f1']
              dsimp only
              rw [hb10.2, if_pos (kdT hT)]
        · rw [if_neg h40]
          obtain ⟨s8, c1', c2', c3'⟩ := hX7.1.npass h40 (by decide)
          have c1'' : f_X9_pass 40 s7 = ((), s8) := c1'
          have hb8 : XB T 1 p1 s8 := ⟨c2', by rw [c3'.1]; exact hX7.2.1.1⟩
          obtain ⟨s', k1, k2, k3⟩ := clB_2 hT hb8
          rw [c1''] at hgo2
          exact ⟨s', hgo2 k1, k2, a3.xt.xc.tr (hF5.tr (b3.xc.tr (hF7.tr (c3'.xt.xc.tr k3))))⟩
    · rw [if_neg c2]
      obtain ⟨s1, a1, a2, a3⟩ := hTR.failp 4 (by decide) (by decide)
      have a1' : f_X9_fail 4 (f_X9_place s) s = ((), s1) := a1
      refine ⟨s1, Ev.of fun N => ?_, ⟨a2, by rw [a3.1]; exact hLR.1⟩, a3.xt.xc⟩
      rw [hj]
      unfold j_X4_readClause_42
      rw [if_neg (c := nI K.length < 12) (nI_nlt (b := 12) (by omega) (by omega)), a1', tb_mk]
  · rw [if_neg c1]
    obtain ⟨s1, a1, a2, a3⟩ := hTR.failp 1 (by decide) (by decide)
    have a1' : f_X9_fail 1 (f_X9_place s) s = ((), s1) := a1
    refine ⟨s1, Ev.of fun N => ?_, ⟨a2, by rw [a3.1]; exact hLR.1⟩, a3.xt.xc⟩
    show f_X4_readClause _ _ (nI K.length) s = _
    unfold f_X4_readClause
    have hno : ∀ c : Nat, c < 256 → c ∈ ([113, 100, 103] : List Nat) → ¬ sgn s = nI c := by
      intro c h1 hm z
      exact c1 (by rw [(hTR.is h1).mp z]; exact hm)
    rw [if_neg (c := sgn s = 113) (hno 113 (by decide) (by decide)), if_neg (c := sgn s = 100) (hno 100 (by decide) (by decide)), if_neg (c := sgn s = 103) (hno 103 (by decide) (by decide)), a1', tb_mk]
end
