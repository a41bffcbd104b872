/-! a program: both -/
section
variable {tb : Nat → Nat} {e : Nat}
abbrev pmB (j N : Nat) (v : (Int32 × Int32 × Int32) × cS) : Option (((Int32 × Int32 × Int32) × cS) ⊕ (Int32 × cS)) := b_X12_program_57 N (nI j) v.1.1 v.1.2.1 v.1.2.2 v.2
theorem pmB_bad {j f w : Nat} {x y g : Int32} {s : cS} (h : Mbd f w s) : EL (pmB j) ((x, y, g), s) (iG s 193 30, s) := by
  have h142 : ∀ N, j_X12_program_142 N (nI j) x y s = some (iG s 193 30, s) := by
    intro N
    unfold j_X12_program_142
    rw [if_neg h.2]
  refine EL.en (Ev.of fun N => ?_)
  show b_X12_program_57 N (nI j) x y g s = _
  unfold b_X12_program_57
  rw [h142]
  by_cases c : g = 0
  · rw [if_pos c]; rfl
  · rw [if_neg c, if_pos h.bad]; rfl
def mPg (j : Nat) (o k : Nat) : Prop := mEd o k ∨ mCp j o k
theorem m_proglp {j : Nat} (hj : j < 16) : ∀ (k p : Nat) (ps : List (Nat × Nat)) (s : cS), ps.length + k = 9 → MT tb e p s → PB ps s → match progS tb e k p ps with
    | .inl ps' => ∃ s', EL (pmB j) ((nI ps.length, nI (pls ps), 1), s) (nI (pls ps'), s') ∧ PrM j ps' s' ∧ Fw (mPg j) s s'
    | .inr (f, w) => ∃ s', EL (pmB j) ((nI ps.length, nI (pls ps), 1), s) (-1000 * nI f - nI w, s') ∧ Fw mEd s s' := by
  intro k
  induction k with
  | zero =>
    intro p ps s hk hT hP
    have := hP.1
    omega
  | succ k ih =>
    intro p ps s hk hT hP
    have hC := m_part hT hP
    have hnx : ∀ {r : Int32} {s1 : cS} {q}, Ev (fun N => f_X12_part N (nI ps.length) (nI (pls ps)) s) (r, s1) → Ev (fun N => if (f_X12_isGood s1) = 0 then j_X12_program_103 (nI j) (nI ps.length + (1 : Int32)) r s1 else if (iG s1 193 29) ≤ (iG s1 193 28) then j_X12_program_103 (nI j) (nI ps.length + (1 : Int32)) r s1 else j_X12_program_104 (nI j) (nI ps.length + (1 : Int32)) r (1 : Int32) s1) q → Ev (fun N => pmB j N ((nI ps.length, nI (pls ps), 1), s)) q := by
      intro r s1 q k1 k2
      refine Ev.cg (Ev.bnd k1 (k := fun N r s1 => if (f_X12_isGood s1) = 0 then j_X12_program_103 (nI j) (nI ps.length + (1 : Int32)) r s1 else if (iG s1 193 29) ≤ (iG s1 193 28) then j_X12_program_103 (nI j) (nI ps.length + (1 : Int32)) r s1 else j_X12_program_104 (nI j) (nI ps.length + (1 : Int32)) r (1 : Int32) s1) k2) (fun N => ?_)
      show b_X12_program_57 N (nI j) (nI ps.length) (nI (pls ps)) 1 s = _
      unfold b_X12_program_57
      rw [if_neg (c := (1 : Int32) = 0) (by decide), if_neg hT.good]
    unfold progS
    cases hx : partS tb e ps.length (pls ps) p with
    | inr y =>
      obtain ⟨f, w⟩ := y
      rw [hx] at hC
      obtain ⟨s1, r, k1, k2, k3⟩ := hC
      have := pmB_bad (j := j) (x := nI ps.length + 1) (y := r) (g := 0) k2
      rw [k2.1] at this
      refine ⟨s1, EL.st (hnx k1 (Ev.of fun N => ?_)) this, k3⟩
      rw [if_pos k2.bad]
      unfold j_X12_program_103 j_X12_program_104
      rw [if_pos rfl]
    | inl z =>
      obtain ⟨p1, y⟩ := z
      rw [hx] at hC
      obtain ⟨s1, k1, k2, k3, k4⟩ := hC
      have hln : (ps ++ [y]).length = ps.length + 1 := by simp
      have hle1 := k2.2.2.2.1
      have hle2 := k2.2.2.2.2.1
      dsimp only
      by_cases c1 : e ≤ p1
      · rw [if_pos c1]
        obtain ⟨s', q1, q2, q3⟩ := m_copy (j := j) hj k3 k2.2.1
        refine ⟨s', EL.st (v' := ((nI (ps ++ [y]).length, nI (pls (ps ++ [y])), 0), s1)) (hnx k1 (Ev.of fun N => ?_)) (EL.en (Ev.cg (Ev.ret q1) fun N => ?_)), q2, (k4.mo fun _ _ z => Or.inl z).tr (q3.mo fun _ _ z => Or.inr z)⟩
        · rw [if_neg k2.good, k2.1, k2.2.2.1, if_pos (nI_le c1 (by omega))]
          unfold j_X12_program_103 j_X12_program_104
          rw [if_pos rfl, hln, nI_1]
        · show b_X12_program_57 N (nI j) (nI (ps ++ [y]).length) (nI (pls (ps ++ [y]))) 0 s1 = _
          unfold b_X12_program_57
          rw [if_pos rfl]
      · rw [if_neg c1]
        have hgt : ¬ iG s1 193 29 ≤ iG s1 193 28 := by
          rw [k2.1, k2.2.2.1]
          exact nI_ge (by omega) (by omega)
        by_cases c2 : cq tb e p1 = 59
        · rw [if_pos c2]
          obtain ⟨a2, a3⟩ := k2.adv (by omega)
          have hI := ih (p1 + 1) (ps ++ [y]) _ (by omega) a2 (k3.d a3)
          have hst : Ev (fun N => pmB j N ((nI ps.length, nI (pls ps), 1), s)) (.inl ((nI (ps ++ [y]).length, nI (pls (ps ++ [y])), 1), iS s1 193 28 (iG s1 193 28 + 1))) := by
            refine hnx k1 (Ev.of fun N => ?_)
            rw [if_neg k2.good, if_neg hgt]
            unfold j_X12_program_104 j_X12_program_129
            rw [if_neg (by decide), ob_some k2.here, if_pos (c := nI (hq tb e p1) = (59 : Int32)) ((k2.is (c := 59) (by decide) (by decide)).mpr c2), sb_mk, hln, nI_1]
          cases hy : progS tb e k (p1 + 1) (ps ++ [y]) with
          | inl ps' =>
            rw [hy] at hI
            obtain ⟨s', q1, q2, q4⟩ := hI
            exact ⟨s', EL.st hst q1, q2, (k4.mo fun _ _ z => Or.inl z).tr ((a3.de.mo fun _ _ z => Or.inl z).tr q4)⟩
          | inr z =>
            rw [hy] at hI
            obtain ⟨s', q1, q3⟩ := hI
            exact ⟨s', EL.st hst q1, k4.tr (a3.de.tr q3)⟩
        · rw [if_neg c2]
          obtain ⟨s2, a1, a2, a3⟩ := k2.wr 1 p1 (by omega) (by decide) (by decide)
          have a1' : f_X12_wrongs 1 (iG s1 193 28) s1 = ((), s2) := by rw [k2.1]; exact a1
          have a2' : Mbd 1 p1 (iS s2 193 28 (iG s2 193 28 + 1)) := a2.st (by omega)
          have := pmB_bad (j := j) (x := nI ps.length + 1) (y := nI (pls (ps ++ [y]))) (g := 1) a2'
          rw [a2'.1] at this
          refine ⟨iS s2 193 28 (iG s2 193 28 + 1), EL.st (hnx k1 (Ev.of fun N => ?_)) this, k4.tr (a3.wd.de.st (Or.inl ⟨rfl, Or.inl rfl⟩))⟩
          rw [if_neg k2.good, if_neg hgt]
          unfold j_X12_program_104 j_X12_program_129
          rw [if_neg (by decide), ob_some k2.here, if_neg (c := nI (hq tb e p1) = (59 : Int32)) (fun z => c2 ((k2.is (c := 59) (by decide) (by decide)).mp z)), a1', tb_mk, sb_mk]
/-- the reference's program: what it does -/
theorem B_prog {j n : Nat} (hj : j < 8) {s : cS} (hb : ∀ i, tb i < 256) (hm : iG s 193 1 = nI n) (hn : n ≤ 200) (hby : ∀ i, i < 200 → iG s 194 i &&& 255 = nI (tb i)) (he0 : 1 ≤ e) (he1 : e ≤ 60) (hen : e ≤ n) : match progS tb e 9 0 [] with
    | .inl ps => ∃ s', Ev (fun N => f_X12_program N (nI j) (nI e) s) (nI (pls ps), s') ∧ PrM j ps s' ∧ iG s' 193 1 = 0 ∧ Fw (fun o k => mPg j o k ∨ (o = 193 ∧ (k = 1 ∨ k = 29))) s s'
    | .inr (f, w) => ∃ s', Ev (fun N => f_X12_program N (nI j) (nI e) s) (-1000 * nI f - nI w, s') ∧ iG s' 193 1 = 0 ∧ Fw (fun o k => mEd o k ∨ (o = 193 ∧ (k = 1 ∨ k = 29))) s s' := by
  generalize hs0 : iS (iS (iS (iS s 193 1 0) 193 28 0) 193 29 (nI e)) 193 30 0 = s0
  have hF : Fw (fun o k => o = 193 ∧ (k = 1 ∨ (28 ≤ k ∧ k ≤ 30))) s s0 := by
    rw [← hs0]
    exact (((Fw.rf.st (by omega)).st (by omega)).st (by omega)).st (by omega)
  have hT : MT tb e 0 s0 := by
    refine ⟨?_, ?_, ?_, by omega, by omega, hb, fun i hi => ?_⟩
    · rw [← hs0]; rfl
    · rw [← hs0]; rfl
    · rw [← hs0]; rfl
    · rw [hF.int (by omega)]
      exact hby i (by omega)
  have h1 : iG s0 193 1 = 0 := by rw [← hs0]; rfl
  have hP : PB [] s0 := ⟨by simp, by decide, fun x y hy => by cases hy⟩
  have hgo : ∀ {q}, EL (pmB j) ((nI 0, nI 0, 1), s0) q → Ev (fun N => f_X12_program N (nI j) (nI e) s) q := by
    intro q hq'
    refine Ev.cg hq'.ev (fun N => ?_)
    unfold f_X12_program f_X12_isProgram
    have e1 : ¬ lIn (nI j).toInt64 (0 : Int64) (7 : Int64) = 0 := by
      rw [lIn_w (a' := 0) (b' := 7) rfl rfl]
      unfold wB
      rw [if_pos ⟨(nI_leI (a := 0) (by omega) (by omega)).mpr (by omega), (nI_leI (b := 7) (by omega) (by omega)).mpr (by omega)⟩]
      decide
    have e2 : ¬ lIn (nI e).toInt64 (1 : Int64) (60 : Int64) = 0 := by
      rw [lIn_w (a' := 1) (b' := 60) rfl rfl]
      unfold wB
      rw [if_pos ⟨(nI_leI (a := 1) (by omega) (by omega)).mpr (by omega), (nI_leI (b := 60) (by omega) (by omega)).mpr (by omega)⟩]
      decide
    rw [if_neg e1, if_neg e2, hm, if_pos (nI_le hen (by omega)), sb_mk, sb_mk, sb_mk, sb_mk, hs0]
    rfl
  have hI := m_proglp (j := j) (by omega) 9 0 [] s0 rfl hT hP
  cases hx : progS tb e 9 0 [] with
  | inl ps =>
    rw [hx] at hI
    obtain ⟨s', q1, q2, q3⟩ := hI
    refine ⟨s', hgo q1, q2, (q3.int (by unfold mPg mEd mDg mCp; omega)).trans h1, (hF.mo fun o k z => ?_).tr (q3.mo fun _ _ z => Or.inl z)⟩
    unfold mPg mEd mDg; omega
  | inr y =>
    obtain ⟨f, w⟩ := y
    rw [hx] at hI
    obtain ⟨s', q1, q3⟩ := hI
    refine ⟨s', hgo q1, (q3.int (by unfold mEd mDg; omega)).trans h1, (hF.mo fun o k z => ?_).tr (q3.mo fun _ _ z => Or.inl z)⟩
    unfold mEd mDg; omega
end
/-- the class's copy -/
theorem xcp_lp {T T0 : Nat} (hd : T + 2 < T0 ∨ T0 + 2 < T) : ∀ (d i : Nat) (s : cS), i + d = 8 → (∀ x, x < i → iG s (T + 1) x = iG s (T0 + 1) x ∧ iG s (T + 2) x = iG s (T0 + 2) x) → ∃ s', EL (fun _ (v : Int32 × cS) => b_X6_copy_2 T T0 v.1 v.2) (nI i, s) ((), s') ∧ (∀ x, x < 8 → iG s' (T + 1) x = iG s (T0 + 1) x ∧ iG s' (T + 2) x = iG s (T0 + 2) x) ∧ iG s' T 2 = iG s T0 2 ∧ iG s' T 3 = iG s T0 3 ∧ Fw (fun o _ => T ≤ o ∧ o ≤ T + 2) s s' := by
  intro d
  induction d with
  | zero =>
    intro i s hi h
    have hi8 : i = 8 := by omega
    subst hi8
    refine ⟨iS (iS s T 2 (iG s T0 2)) T 3 (iG s T0 3), EL.en (Ev.of fun _ => ?_), fun x hx => ?_, ?_, by rw [iG_eq], (Fw.rf.st (by omega)).st (by omega)⟩
    · show b_X6_copy_2 T T0 8 s = _
      unfold b_X6_copy_2
      rw [if_pos (by decide), sb_mk, sb_mk, iG_ne (o' := T0) (by omega)]
      rfl
    · rw [iG_ne (by omega), iG_ne (by omega), iG_ne (by omega), iG_ne (by omega)]
      exact h x hx
    · rw [iG_nk (by decide), iG_eq]
  | succ d ih =>
    intro i s hi h
    have hin : inb (nI i) 8 := (inb_n (by omega)).mpr (by omega)
    generalize hs1 : iS (iS s (T + 1) i (iG s (T0 + 1) i)) (T + 2) i (iG s (T0 + 2) i) = s1
    have hF : Fw (fun o _ => T ≤ o ∧ o ≤ T + 2) s s1 := by
      rw [← hs1]
      exact (Fw.rf.st (by omega)).st (by omega)
    have hr : ∀ o, T0 ≤ o ∧ o ≤ T0 + 2 → ∀ k, iG s1 o k = iG s o k := fun o ho k => hF.int (by omega)
    obtain ⟨s', q1, q2, q3, q4, q5⟩ := ih (i + 1) s1 (by omega) (fun x hx => by
      rw [hr (T0 + 1) (by omega), hr (T0 + 2) (by omega)]
      have e1 : iG s1 (T + 1) x = if x = i then iG s (T0 + 1) i else iG s (T + 1) x := by
        rw [← hs1, iG_ne (o' := T + 1) (o := T + 2) (by omega), iG_if, if_pos rfl]
      have e2 : iG s1 (T + 2) x = if x = i then iG s (T0 + 2) i else iG s (T + 2) x := by
        rw [← hs1, iG_if, if_pos rfl, iG_ne (o' := T + 2) (o := T + 1) (by omega)]
      rw [e1, e2]
      by_cases z : x = i
      · rw [if_pos z, if_pos z, z]; exact ⟨rfl, rfl⟩
      · rw [if_neg z, if_neg z]; exact h x (by omega))
    refine ⟨s', EL.st (v' := (nI (i + 1), s1)) (Ev.of fun _ => ?_) q1, fun x hx => ?_, q3.trans (hr _ (by omega) _), q4.trans (hr _ (by omega) _), hF.tr q5⟩
    · show b_X6_copy_2 T T0 (nI i) s = _
      have hc : (nI i).toNatClampNeg = i := nI_clamp (by omega)
      unfold b_X6_copy_2
      rw [if_neg (c := (8 : Int32) ≤ nI i) (nI_ge (b := 8) (by omega) (by omega))]
      simp only [if_pos hin, hc, sb_mk]
      rw [iG_ne (o' := T0 + 2) (o := T + 1) (by omega), hs1, nI_1]
    · obtain ⟨a, b⟩ := q2 x hx
      exact ⟨a.trans (hr _ (by omega) _), b.trans (hr _ (by omega) _)⟩
theorem x_copy {T T0 : Nat} {ps : List (Nat × Nat)} {s : cS} (hd : T + 2 < T0 ∨ T0 + 2 < T) (h : PrX T0 ps s) : ∃ s', Ev (fun N => f_X6_copy N T T0 s) ((), s') ∧ PrX T ps s' ∧ Fw (fun o _ => T ≤ o ∧ o ≤ T + 2) s s' := by
  obtain ⟨s', q1, q2, q3, q4, q5⟩ := xcp_lp hd 8 0 s rfl (fun x hx => by omega)
  obtain ⟨h1, h2, h3, h4, h5⟩ := h
  refine ⟨s', Ev.cg q1.ev (fun N => rfl), ⟨h1, q3.trans h2, q4.trans h3, h4, fun x y hy => ?_⟩, q5⟩
  have hx : x < 8 := by
    rcases Nat.lt_or_ge x ps.length with z | z
    · omega
    · rw [List.getElem?_eq_none z] at hy; cases hy
  obtain ⟨a, b⟩ := q2 x hx
  obtain ⟨c, d⟩ := h5 x y hy
  exact ⟨a.trans c, b.trans d⟩
