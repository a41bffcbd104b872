/-! the reference's reader: conditions, clauses, the law -/
def condS (tb : Nat → Nat) (e p : Nat) : PR := if cq tb e p = 40 then match choS tb e (pieceS tb e 8) 1 (p + 1) with
    | .inl (p2, L2) => if cq tb e p2 = 41 then .inl (p2 + 1, L2) else .inr (1, p2)
    | .inr f => .inr f
  else .inr (1, p)
theorem here_of {s s' : cS} {r : Int32} (e1 : iG s 193 28 = iG s' 193 28) (e2 : iG s 193 29 = iG s' 193 29) (e3 : ∀ i, iG s 194 i = iG s' 194 i) (h : f_X12_here s' = some (r, s')) : f_X12_here s = some (r, s) := by
  unfold f_X12_here at h ⊢
  rw [e1, e2, e3]
  by_cases c1 : iG s' 193 29 ≤ iG s' 193 28
  · rw [if_pos c1] at h ⊢
    cases h
    rfl
  · rw [if_neg c1] at h ⊢
    by_cases c2 : inb (iG s' 193 28) 200
    · rw [if_pos c2] at h ⊢
      simp only [Option.some.injEq, Prod.mk.injEq, and_true] at h ⊢
      exact h
    · rw [if_neg c2] at h
      cases h
section
variable {tb : Nat → Nat} {e : Nat}
theorem B_cond {p : Nat} {C : Cd} {s : cS} (h : MR tb e p 0 [] C s) : match condS tb e p with
    | .inl (p', L) => p < p' ∧ ∃ s', Ev (fun N => f_X12_condition N s) ((), s') ∧ MR tb e p' 0 [] (C ++ L) s' ∧ Fw mC s s'
    | .inr (f, w) => ∃ s', Ev (fun N => f_X12_condition N s) ((), s') ∧ Mbd f w s' ∧ Fw mC s s' := by
  have hM : MR tb e p 0 [] C (iS s 193 35 0) := h
  have hS : Fw mC s (iS s 193 35 0) := Fw.rf.st (Or.inr ⟨rfl, rfl⟩)
  unfold condS
  by_cases c40 : cq tb e p = 40
  · rw [if_pos c40]
    obtain ⟨s1, a1, a2, a3⟩ := hM.opens c40 (by decide) (by decide)
    have a3' : MR tb e (p + 1) 1 [40] C s1 := by
      rcases a3 with ⟨-, z⟩ | ⟨z, -⟩
      · exact z
      · exact absurd (by decide) z
    have h35 : iG s1 193 35 = 0 := by rw [mP35 a2, iG_eq]
    have hV : ∀ q, EP s1 q → Ev (fun N => f_X12_condition N s) ((), q) := by
      intro q kq
      obtain ⟨n, hn⟩ := kq.hd a3'.good h35
      refine ⟨n, fun N hN => ?_⟩
      show f_X12_condition N s = _
      unfold f_X12_condition
      rw [sb_mk, ob_some hM.here, if_pos (c := nI (hq tb e p) = 40) ((h.is (c := 40) (by decide) (by decide)).mpr c40)]
      unfold j_X12_condition_23
      rw [if_neg hM.ng, ob_some a1]
      exact hn N N hN hN
    have hI := B_choice (pie := pieceS tb e 8) (fun p τ C s h h35 hn hh => B_piece 8 1 p τ C s (by omega) h h35 hn hh) a3' h35
    cases hx : choS tb e (pieceS tb e 8) 1 (p + 1) with
    | inr y =>
      rw [hx] at hI
      obtain ⟨s', b1, b2, b3⟩ := hI
      exact ⟨s', hV _ b3, b1, hS.tr (a2.pc.tr b2)⟩
    | inl y =>
      obtain ⟨p1, L1⟩ := y
      rw [hx] at hI
      obtain ⟨b1, hI⟩ := hI
      dsimp only
      rcases hI with ⟨h93, s', b2, b3, b4⟩ | ⟨b5, s', u', C', b2, b6, b7, b8, b3, b4⟩
      · rw [if_neg (c := cq tb e p1 = 41) (by omega)]
        exact ⟨s', hV _ b4, b2, hS.tr (a2.pc.tr b3)⟩
      · by_cases c41 : cq tb e p1 = 41
        · rw [if_pos c41]
          obtain ⟨t, c1, c2, c3⟩ := goes_f (d := 0) b2 c41 b7
          rw [b8] at c1
          exact ⟨by omega, t, hV _ (b4 _ c3), c1, hS.tr (a2.pc.tr (b3.tr c2))⟩
        · rw [if_neg c41]
          have n38 : cq tb e p1 ≠ 38 ∧ cq tb e p1 ≠ 124 := by simpa using b5
          obtain ⟨t, c1, c2, c3⟩ := goes_x b2 n38.1 n38.2 c41
          exact ⟨t, hV _ (b4 _ c3), c1, hS.tr (a2.pc.tr (b3.tr c2.pc))⟩
  · rw [if_neg c40]
    obtain ⟨v, w1, w2⟩ := hM.wrongs 1 (by decide) (by decide)
    have w1' : f_X12_wrongs 1 (iG (iS s 193 35 0) 193 28) (iS s 193 35 0) = ((), iS (iS s 193 35 0) 193 30 v) := w1
    refine ⟨_, Ev.of fun N => ?_, w2, hS.st (Or.inl (Or.inl (by unfold mP; omega)))⟩
    unfold f_X12_condition
    rw [sb_mk, ob_some hM.here, if_neg (c := nI (hq tb e p) = 40) (fun z => c40 ((h.is (c := 40) (by decide) (by decide)).mp z)), w1', tb_mk]
    unfold j_X12_condition_23
    rw [if_pos w2.bad]
/-! clauses -/
def cds (K : List Cl) : Cd := K.flatMap fun c => c.2.1 ++ c.2.2
theorem cds_app (K : List Cl) (c : Cl) : cds (K ++ [c]) = cds K ++ (c.2.1 ++ c.2.2) := by simp [cds]
/-- where a clause's codes begin -/
def cst (K : List Cl) (i : Nat) : Nat := (cds (K.take i)).length
theorem cst_app {K : List Cl} {c : Cl} {i : Nat} (h : i ≤ K.length) : cst (K ++ [c]) i = cst K i := by
  unfold cst
  rw [List.take_append_of_le_length h]
theorem cst_len (K : List Cl) : cst K K.length = (cds K).length := by
  unfold cst
  rw [List.take_length]
/-- the clauses in four rows -/
def clR (A B D F : Nat) (K : List Cl) (s : cS) : Prop := ∀ i c, K[i]? = some c → iG s A i = nI c.1 ∧ iG s B i = nI (cst K i) ∧ iG s D i = nI (cst K i + c.2.1.length) ∧ iG s F i = nI (cst K i + c.2.1.length + c.2.2.length)
def mL (o k : Nat) : Prop := mC o k ∨ (o = 193 ∧ k = 31) ∨ (208 ≤ o ∧ o ≤ 211)
theorem Fw.l {s t : cS} (h : Fw mC s t) : Fw mL s t := h.mo fun _ _ z => Or.inl z
/-- between clauses -/
def ML (tb : Nat → Nat) (e p : Nat) (K : List Cl) (s : cS) : Prop := MR tb e p 0 [] (cds K) (iS (iS s 193 34 0) 193 33 0) ∧ K.length ≤ 12 ∧ iG s 193 31 = nI K.length ∧ clR 208 209 210 211 K s
theorem ML.here {p : Nat} {K : List Cl} {s : cS} (h : ML tb e p K s) : f_X12_here s = some (nI (hq tb e p), s) := here_of (s' := iS (iS s 193 34 0) 193 33 0) rfl rfl (fun _ => rfl) h.1.here
theorem ML.wrongs {p : Nat} {K : List Cl} {s : cS} (h : ML tb e p K s) (f : Nat) (h0 : 0 < f) (hf : f ≤ 5) : ∃ v, f_X12_wrongs (nI f) (iG s 193 28) s = ((), iS s 193 30 v) ∧ Mbd f p (iS s 193 30 v) := by
  obtain ⟨v, w1, w2⟩ := h.1.wrongs f h0 hf
  refine ⟨(-1000 : Int32) * nI f - iG s 193 28, ?_, ?_⟩
  · unfold f_X12_wrongs
    have h7 : iG s 193 30 = 0 := h.1.2.2.2.2.2.2.1
    rw [h7, if_pos (by decide)]
    rfl
  · have hv : v = (-1000 : Int32) * nI f - iG s 193 28 := by
      unfold f_X12_wrongs at w1
      have h7 : iG (iS (iS s 193 34 0) 193 33 0) 193 30 = 0 := h.1.2.2.2.2.2.2.1
      rw [h7, if_pos (by decide)] at w1
      have w3 := congrArg (fun z : Unit × cS => iG z.2 193 30) w1
      have w4 : iG (iS (iS (iS s 193 34 0) 193 33 0) 193 30 v) 193 30 = v := iG_eq
      exact w4.symm.trans w3.symm
    have w5 : Mbd f p (iS (iS (iS s 193 34 0) 193 33 0) 193 30 v) := w2
    unfold Mbd at w5 ⊢
    rw [iG_eq] at w5 ⊢
    rw [← hv]
    exact w5
theorem MR.ok {p : Nat} {C : Cd} {s : cS} (h : MR tb e p 0 [] C s) : MR tb e p 0 [] C (iS (iS s 193 34 0) 193 33 0) := by
  obtain ⟨h1, h2, h3, h4, h5, h6, h7, h8, h9, h10, h11, h12, h13, h14, h15⟩ := h
  exact ⟨h1, rfl, rfl, trivial, h5, h6, h7, h8, h9, h10, h11, h12, h13, h14, h15⟩
theorem claS_eq (i p : Nat) : claS tb e i p = (if cq tb e p ∈ ([113, 100, 103] : List Nat) then if i < 12 then match sumS tb e 8 0 (p + 1) with
      | .inl (p1, L1) => match condS tb e p1 with
          | .inl (p2, L2) => .inl (p2, (cq tb e p, L1, L2))
          | .inr f => .inr f
      | .inr f => .inr f
    else .inr (4, p) else .inr (1, p)) := by
  unfold claS condS
  by_cases c1 : cq tb e p ∈ ([113, 100, 103] : List Nat)
  · rw [if_pos c1, if_pos c1]
    by_cases c2 : i < 12
    · rw [if_pos c2, if_pos c2]
      rcases sumS tb e 8 0 (p + 1) with ⟨p1, L1⟩ | f
      · dsimp only
        by_cases c3 : cq tb e p1 = 40
        · rw [if_pos c3, if_pos c3]
          rcases choS tb e (pieceS tb e 8) 1 (p1 + 1) with ⟨p2, L2⟩ | f
          · dsimp only
            by_cases c4 : cq tb e p2 = 41
            · rw [if_pos c4, if_pos c4]
            · rw [if_neg c4, if_neg c4]
          · rfl
        · rw [if_neg c3, if_neg c3]
      · rfl
    · rw [if_neg c2, if_neg c2]
  · rw [if_neg c1, if_neg c1]
theorem B_clause {p : Nat} {K : List Cl} {s : cS} (h : ML tb e p K s) : match claS tb e K.length p with
    | .inl (p', c) => p < p' ∧ K.length < 12 ∧ ∃ s', Ev (fun N => f_X12_clause N s) ((), s') ∧ ML tb e p' (K ++ [c]) s' ∧ Fw mL s s'
    | .inr (f, w) => ∃ s', Ev (fun N => f_X12_clause N s) ((), s') ∧ Mbd f w s' ∧ Fw mL s s' := by
  have hK := h.2.1
  have h31 : iG s 193 31 = nI K.length := h.2.2.1
  rw [claS_eq]
  by_cases c1 : cq tb e p ∈ ([113, 100, 103] : List Nat)
  · rw [if_pos c1]
    have hc' : 0 < cq tb e p ∧ cq tb e p < 256 := by
      simp only [List.mem_cons, List.not_mem_nil, or_false] at c1
      omega
    have hlt : p < e := cq_lt (tb := tb) hc'.2
    have hcl : ∀ N, f_X12_clause N s = j_X12_clause_35 N (nI (cq tb e p)) s := by
      intro N
      unfold f_X12_clause
      rw [ob_some h.here, hq_of hc'.2]
      have a : ∀ n : Nat, n < 2 ^ 31 → (nI (cq tb e p) = nI n ↔ cq tb e p = n) := fun n hn => nI_eq (by omega) hn
      simp only [i_lit, a _ (by decide : (113 : Nat) < 2 ^ 31), a _ (by decide : (100 : Nat) < 2 ^ 31), a _ (by decide : (103 : Nat) < 2 ^ 31)]
      simp only [List.mem_cons, List.not_mem_nil, or_false] at c1
      rcases c1 with z | z | z
      · rw [if_pos z]
      · rw [if_neg (by omega), if_pos z]
      · rw [if_neg (by omega), if_neg (by omega), if_pos z]
    have hgood : f_X12_isGood s = 1 := h.1.good
    by_cases c2 : K.length < 12
    · rw [if_pos c2]
      have hj : ∀ N, f_X12_clause N s = j_X12_clause_53 N (nI (cq tb e p)) s := by
        intro N
        rw [hcl]
        unfold j_X12_clause_35
        rw [h31, if_neg (c := nI K.length = 12) (fun z => by have := (nI_eq (b := 12) (by omega) (by omega)).mp z; omega)]
      -- the state in which the value is read
      generalize hs5 : iS (iS (iS (iS (iS s 208 K.length (nI (cq tb e p))) 209 K.length (nI (cds K).length)) 193 28 (nI (p + 1))) 193 34 0) 193 33 0 = s5
      have hM5 : MR tb e (p + 1) 0 [] (cds K) s5 := by
        rw [← hs5]
        obtain ⟨⟨h1, h2, h3, h4, h5, h6, h7, h8, h9, h10, h11, h12, h13, h14, h15⟩, -⟩ := h
        refine ⟨rfl, rfl, rfl, trivial, h5, h6, h7, h8, h9, hlt, ?_, h12, h13, h14, h15⟩
        have : (cds K).length + ([] : List Nat).length ≤ p := h11
        show (cds K).length + ([] : List Nat).length ≤ p + 1
        omega
      have hF5 : Fw mL s s5 := by
        rw [← hs5]
        refine ((((Fw.rf.st ?_).st ?_).st ?_).st ?_).st ?_ <;> (unfold mL mC mQ mP; omega)
      have hrun : ∀ {q : cS}, Ev (fun N => ob (f_X12_value N s5) fun _ s16 => if inb (iG s16 193 31) 12 then sb (iS s16 210 (iG s16 193 31).toNatClampNeg (iG s16 193 32)) fun s19 => if (f_X12_isGood s19) = 0 then j_X12_clause_132 s19 else ob (f_X12_condition N s19) fun _ s26 => j_X12_clause_132 s26 else none) ((), q) → Ev (fun N => f_X12_clause N s) ((), q) := by
        intro q kq
        refine Ev.cg kq (fun N => ?_)
        rw [hj]
        have g1 : iG (iS s 208 K.length (nI (cq tb e p))) 193 31 = nI K.length := h31
        have g2 : iG (iS s 208 K.length (nI (cq tb e p))) 193 32 = nI (cds K).length := h.1.2.2.2.2.1
        have g3 : iG (iS (iS s 208 K.length (nI (cq tb e p))) 209 K.length (nI (cds K).length)) 193 28 = nI p := h.1.1
        unfold j_X12_clause_53
        rw [hgood, if_neg (by decide), h31, if_pos ((inb_n (by omega)).mpr c2), nI_clamp (by omega), sb_mk, g1, if_pos ((inb_n (by omega)).mpr c2), nI_clamp (by omega), g2, sb_mk, g3, nI_1, sb_mk, sb_mk, sb_mk, hs5]
      have h31' : ∀ {t}, Fw mC s5 t → iG t 193 31 = nI K.length := by
        intro t ht
        rw [ht.int (by unfold mC mQ mP; omega), ← hs5]
        exact h31
      have h132 : ∀ {t : cS}, iG t 193 31 = nI K.length → j_X12_clause_132 t = some ((), iS (iS t 211 K.length (iG t 193 32)) 193 31 (nI (K.length + 1))) := by
        intro t ht
        unfold j_X12_clause_132
        rw [ht, if_pos ((inb_n (by omega)).mpr c2), nI_clamp (by omega), sb_mk, sb_mk]
        have : iG (iS t 211 K.length (iG t 193 32)) 193 31 = nI K.length := ht
        rw [this, nI_1]
      have hV := B_value hM5 (by show 0 ∉ opsL; decide) (by show 0 ≠ 91; decide)
      cases hx : sumS tb e 8 0 (p + 1) with
      | inr y =>
        obtain ⟨f, w⟩ := y
        rw [hx] at hV
        obtain ⟨s1, k1, k2, k3⟩ := hV
        have g1 := h31' k2.c
        have hb : Mbd f w (iS s1 210 K.length (iG s1 193 32)) := k3.st (Or.inl (by decide))
        have g2 : iG (iS s1 210 K.length (iG s1 193 32)) 193 31 = nI K.length := g1
        refine ⟨iS (iS (iS s1 210 K.length (iG s1 193 32)) 211 K.length (iG (iS s1 210 K.length (iG s1 193 32)) 193 32)) 193 31 (nI (K.length + 1)), hrun (Ev.bnd k1 (Ev.of fun N => ?_)), (hb.st (Or.inl (by decide))).st (Or.inr (by decide)), hF5.tr ((((k2.c.l).st ?_).st ?_).st ?_)⟩
        · rw [g1, if_pos ((inb_n (by omega)).mpr c2), nI_clamp (by omega), sb_mk, if_pos hb.bad, h132 g2]
        all_goals (unfold mL; omega)
      | inl y =>
        obtain ⟨p1, L1⟩ := y
        rw [hx] at hV
        obtain ⟨hlt1, hno, s1, k1, k2, k3⟩ := hV
        have g1 := h31' k2.c
        dsimp only
        rcases k3 with ⟨h93, k3⟩ | ⟨h93, k3⟩
        · have e0 : condS tb e p1 = .inr (1, p1) := by
            unfold condS
            rw [if_neg (by omega)]
          rw [e0]
          have hb : Mbd 1 p1 (iS s1 210 K.length (iG s1 193 32)) := k3.st (Or.inl (by decide))
          have g2 : iG (iS s1 210 K.length (iG s1 193 32)) 193 31 = nI K.length := g1
          refine ⟨iS (iS (iS s1 210 K.length (iG s1 193 32)) 211 K.length (iG (iS s1 210 K.length (iG s1 193 32)) 193 32)) 193 31 (nI (K.length + 1)), hrun (Ev.bnd k1 (Ev.of fun N => ?_)), (hb.st (Or.inl (by decide))).st (Or.inr (by decide)), hF5.tr ((((k2.c.l).st ?_).st ?_).st ?_)⟩
          · rw [g1, if_pos ((inb_n (by omega)).mpr c2), nI_clamp (by omega), sb_mk, if_pos hb.bad, h132 g2]
          all_goals (unfold mL; omega)
        · have g32 : iG s1 193 32 = nI (cds K ++ L1).length := k3.2.2.2.2.1
          generalize hs6 : iS s1 210 K.length (iG s1 193 32) = s6
          have hM6 : MR tb e p1 0 [] (cds K ++ L1) s6 := by rw [← hs6]; exact k3
          have hF6 : Fw mL s5 s6 := by rw [← hs6]; exact k2.c.l.st (by unfold mL; omega)
          have h210 : iG s6 210 K.length = nI (cds K ++ L1).length := by rw [← hs6, iG_eq, g32]
          have g6 : iG s6 193 31 = nI K.length := by rw [← hs6]; exact g1
          have hC := B_cond hM6
          have hrun2 : ∀ {t : cS}, Ev (fun N => f_X12_condition N s6) ((), t) → iG t 193 31 = nI K.length → Ev (fun N => f_X12_clause N s) ((), iS (iS t 211 K.length (iG t 193 32)) 193 31 (nI (K.length + 1))) := by
            intro t kt ht
            refine hrun (Ev.bnd k1 (Ev.cg (Ev.bnd kt (k := fun _ _ s26 => j_X12_clause_132 s26) (Ev.of fun N => h132 ht)) (fun N => ?_)))
            rw [g1, if_pos ((inb_n (by omega)).mpr c2), nI_clamp (by omega), sb_mk, hs6, if_neg hM6.ng]
          cases hy : condS tb e p1 with
          | inr y =>
            obtain ⟨f, w⟩ := y
            rw [hy] at hC
            obtain ⟨s7, q1, q2, q3⟩ := hC
            have g7 : iG s7 193 31 = nI K.length := by rw [q3.int (by unfold mC mQ mP; omega), g6]
            refine ⟨_, hrun2 q1 g7, (q2.st (Or.inl (by decide))).st (Or.inr (by decide)), hF5.tr (hF6.tr ((q3.l.st ?_).st ?_))⟩ <;> (unfold mL; omega)
          | inl y =>
            obtain ⟨p2, L2⟩ := y
            rw [hy] at hC
            obtain ⟨hlt2, s7, q1, q2, q3⟩ := hC
            have g7 : iG s7 193 31 = nI K.length := by rw [q3.int (by unfold mC mQ mP; omega), g6]
            have g732 : iG s7 193 32 = nI (cds K ++ L1 ++ L2).length := q2.2.2.2.2.1
            refine ⟨by omega, c2, _, hrun2 q1 g7, ⟨?_, by simp; omega, ?_, ?_⟩, hF5.tr (hF6.tr ((q3.l.st ?_).st ?_))⟩
            · rw [cds_app, ← List.append_assoc]
              exact q2.ok
            · rw [iG_eq]; simp
            · intro i c hi
              have hF7 : Fw mL s6 s7 := q3.l
              rw [List.getElem?_append] at hi
              by_cases hik : i < K.length
              · rw [if_pos hik] at hi
                obtain ⟨r1, r2, r3, r4⟩ := h.2.2.2 i c hi
                have nk : i ≠ K.length := by omega
                rw [cst_app (by omega)]
                have f1 : ∀ o, 208 ≤ o → o ≤ 211 → iG s1 o i = iG s5 o i := fun o _ _ => k2.int (by unfold mQ mP; omega)
                have f2 : ∀ o, 208 ≤ o → o ≤ 211 → iG s7 o i = iG s6 o i := fun o _ _ => q3.int (by unfold mC mQ mP; omega)
                have f3 : ∀ o, 208 ≤ o → o ≤ 211 → iG s5 o i = iG s o i := by
                  intro o _ _
                  rw [← hs5]
                  have n193 : o ≠ 193 := by omega
                  by_cases z1 : o = 208
                  · subst z1; simp [iG_if, nk]
                  · by_cases z2 : o = 209
                    · subst z2; simp [iG_if, nk]
                    · simp [iG_if, z1, z2, n193]
                have f4 : ∀ o, 208 ≤ o → o ≤ 211 → iG s6 o i = iG s1 o i := by
                  intro o _ _
                  rw [← hs6]
                  by_cases z1 : o = 210
                  · subst z1; simp [iG_if, nk]
                  · simp [iG_if, z1]
                have f5 : ∀ o, 208 ≤ o → o ≤ 211 → iG (iS (iS s7 211 K.length (iG s7 193 32)) 193 31 (nI (K.length + 1))) o i = iG s o i := by
                  intro o a b
                  rw [← f3 o a b, ← f1 o a b, ← f4 o a b, ← f2 o a b]
                  have n193 : o ≠ 193 := by omega
                  by_cases z1 : o = 211
                  · subst z1; simp [iG_if, nk]
                  · simp [iG_if, z1, n193]
                rw [f5 208 (by decide) (by decide), f5 209 (by decide) (by decide), f5 210 (by decide) (by decide), f5 211 (by decide) (by decide)]
                exact ⟨r1, r2, r3, r4⟩
              · rw [if_neg hik] at hi
                have hi0 : i - K.length = 0 := by
                  rcases Nat.eq_zero_or_pos (i - K.length) with z | z
                  · exact z
                  · rw [List.getElem?_eq_none (by simp; omega)] at hi
                    cases hi
                rw [hi0] at hi
                cases hi
                have hik' : i = K.length := by omega
                subst hik'
                rw [cst_app (Nat.le_refl _), cst_len]
                have f208 : iG s7 208 K.length = nI (cq tb e p) := by
                  rw [q3.int (by unfold mC mQ mP; omega), ← hs6]
                  show iG s1 208 K.length = _
                  rw [k2.int (by unfold mQ mP; omega), ← hs5]
                  simp [iG_if]
                have f209 : iG s7 209 K.length = nI (cds K).length := by
                  rw [q3.int (by unfold mC mQ mP; omega), ← hs6]
                  show iG s1 209 K.length = _
                  rw [k2.int (by unfold mQ mP; omega), ← hs5]
                  simp [iG_if]
                have f210 : iG s7 210 K.length = nI (cds K ++ L1).length := by
                  rw [q3.int (by unfold mC mQ mP; omega), h210]
                refine ⟨?_, ?_, ?_, ?_⟩
                · show iG s7 208 K.length = _
                  rw [f208]
                · show iG s7 209 K.length = _
                  rw [f209]
                · show iG s7 210 K.length = _
                  rw [f210]; simp
                · show iG (iS s7 211 K.length (iG s7 193 32)) 211 K.length = _
                  rw [iG_eq, g732]; simp [Nat.add_assoc]
            all_goals (unfold mL; omega)
    · rw [if_neg c2]
      have c2' : K.length = 12 := by omega
      obtain ⟨v, w1, w2⟩ := h.wrongs 4 (by decide) (by decide)
      have w1' : f_X12_wrongs 4 (iG s 193 28) s = ((), iS s 193 30 v) := w1
      refine ⟨_, Ev.of fun N => ?_, w2, Fw.rf.st (by unfold mL mC mQ mP; omega)⟩
      rw [hcl]
      unfold j_X12_clause_35 j_X12_clause_53
      rw [h31, c2', if_pos (c := nI 12 = 12) rfl, w1', tb_mk, if_pos w2.bad]
  · rw [if_neg c1]
    obtain ⟨v, w1, w2⟩ := h.wrongs 1 (by decide) (by decide)
    have w1' : f_X12_wrongs 1 (iG s 193 28) s = ((), iS s 193 30 v) := w1
    refine ⟨_, Ev.of fun N => ?_, w2, Fw.rf.st (by unfold mL mC mQ mP; omega)⟩
    unfold f_X12_clause
    have hno : ∀ c : Nat, 0 < c → c < 256 → c ∈ ([113, 100, 103] : List Nat) → ¬ nI (hq tb e p) = nI c := by
      intro c h0 h1 hm z
      exact c1 (by rw [(h.1.is h0 h1).mp z]; exact hm)
    rw [ob_some h.here, if_neg (c := nI (hq tb e p) = 113) (hno 113 (by decide) (by decide) (by decide)), if_neg (c := nI (hq tb e p) = 100) (hno 100 (by decide) (by decide) (by decide)), if_neg (c := nI (hq tb e p) = 103) (hno 103 (by decide) (by decide) (by decide)), w1', tb_mk]
    unfold j_X12_clause_53
    rw [if_pos w2.bad]
end
