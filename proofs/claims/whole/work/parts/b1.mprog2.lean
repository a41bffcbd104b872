/-! the text of a program, read: the reference, the whole; the copies -/
section
variable {tb : Nat → Nat} {e p : Nat} {s : cS}
theorem MT.st2 {o : Nat} (h : MT tb e p s) (ho : o = 221 ∨ o = 222) (k : Nat) (v : Int32) : MT tb e p (iS s o k v) :=
  h.fw (P := fun o _ => o = 221 ∨ o = 222) (Fw.rf.st ho) (fun k _ _ => by omega) (fun i => by omega)
theorem PB.st1 {ps : List (Nat × Nat)} {v : Int32} (h : PB ps s) : PB ps (iS s 221 ps.length v) := by
  obtain ⟨h1, h2, h3⟩ := h
  refine ⟨h1, h2, fun x y hy => ⟨?_, (h3 x y hy).2⟩⟩
  have hx : x < ps.length := by
    rcases Nat.lt_or_ge x ps.length with z | z
    · exact z
    · rw [List.getElem?_eq_none z] at hy; cases hy
  rw [iG_nk (by omega)]
  exact (h3 x y hy).1
theorem m_part {ps : List (Nat × Nat)} (h : MT tb e p s) (hP : PB ps s) : match partS tb e ps.length (pls ps) p with
    | .inl (p', y) => ∃ s', Ev (fun N => f_X12_part N (nI ps.length) (nI (pls ps)) s) (nI (pls (ps ++ [y])), s') ∧ MT tb e p' s' ∧ PB (ps ++ [y]) s' ∧ Fw mEd s s'
    | .inr (f, w) => ∃ s' r, Ev (fun N => f_X12_part N (nI ps.length) (nI (pls ps)) s) (r, s') ∧ Mbd f w s' ∧ Fw mEd s s' := by
  have hle := h.2.2.2.1
  have hle' := h.2.2.2.2.1
  have hlen := hP.1
  have h8 : nI ps.length = (8 : Int32) ↔ ps.length = 8 := nI_eq (b := 8) (by omega) (by omega)
  unfold partS
  by_cases c8 : ps.length = 8
  · rw [if_pos c8]
    have hbad : ∀ (f : Nat) (y : Int32), y = nI f → 0 < f → f ≤ 5 → ∃ s' r, (∀ N, j_X12_part_19 N (nI ps.length) (nI (pls ps)) y s = some (r, s')) ∧ Mbd f p s' ∧ Fw mEd s s' := by
      rintro f y rfl h0 h5
      obtain ⟨s', a1, a2, a3⟩ := h.wr f p (by omega) h0 h5
      refine ⟨s', nI (pls ps), fun N => ?_, a2, a3.wd.de⟩
      unfold j_X12_part_19 j_X12_part_26
      rw [h.1, a1, tb_mk, if_pos a2.bad]
    by_cases cd : 48 ≤ cq tb e p ∧ cq tb e p ≤ 57
    · rw [if_pos cd]
      obtain ⟨s', r, a1, a2, a3⟩ := hbad 4 4 rfl (by decide) (by decide)
      refine ⟨s', r, Ev.of fun N => ?_, a2, a3⟩
      unfold f_X12_part
      rw [if_pos (h8.mpr c8), ob_some h.dig, if_pos cd, if_neg (by decide), a1]
    · rw [if_neg cd]
      obtain ⟨s', r, a1, a2, a3⟩ := hbad 1 1 rfl (by decide) (by decide)
      refine ⟨s', r, Ev.of fun N => ?_, a2, a3⟩
      unfold f_X12_part
      rw [if_pos (h8.mpr c8), ob_some h.dig, if_neg cd, if_pos rfl, a1]
  · rw [if_neg c8]
    have hN := h.num (m := 2) (by decide)
    have hgo : ∀ {r4 : Int32} {s5 : cS} {q : Int32 × cS}, Ev (fun N => f_X12_digits N (nI 2) s) (r4, s5) → Ev (fun N => if (f_X12_isGood (iS s5 221 ps.length r4)) = 0 then j_X12_part_92 (nI ps.length) (nI (pls ps)) (nI p) (1 : Int32) (iS s5 221 ps.length r4) else ob (f_X12_here (iS s5 221 ps.length r4)) fun r20 s21 => if r20 = (42 : Int32) then sb (iS s21 193 28 ((iG s21 193 28) + (1 : Int32))) fun s24 => ob (f_X12_digits N (4 : Int32) s24) fun r25 s26 => j_X12_part_92 (nI ps.length) (nI (pls ps)) (iG s24 193 28) r25 s26 else j_X12_part_92 (nI ps.length) (nI (pls ps)) (nI p) (1 : Int32) s21) q → Ev (fun N => f_X12_part N (nI ps.length) (nI (pls ps)) s) q := by
      intro r4 s5 q k1 k2
      refine Ev.cg (Ev.bnd k1 (k := fun N r4 s5 => if (f_X12_isGood (iS s5 221 ps.length r4)) = 0 then j_X12_part_92 (nI ps.length) (nI (pls ps)) (nI p) (1 : Int32) (iS s5 221 ps.length r4) else ob (f_X12_here (iS s5 221 ps.length r4)) fun r20 s21 => if r20 = (42 : Int32) then sb (iS s21 193 28 ((iG s21 193 28) + (1 : Int32))) fun s24 => ob (f_X12_digits N (4 : Int32) s24) fun r25 s26 => j_X12_part_92 (nI ps.length) (nI (pls ps)) (iG s24 193 28) r25 s26 else j_X12_part_92 (nI ps.length) (nI (pls ps)) (nI p) (1 : Int32) s21) k2) (fun N => ?_)
      have hin : inb (nI ps.length) 8 := (inb_n (by omega)).mpr (by omega)
      have hc : (nI ps.length).toNatClampNeg = ps.length := nI_clamp (by omega)
      unfold f_X12_part j_X12_part_26
      rw [if_neg (fun z => c8 (h8.mp z)), if_neg h.good, h.1]
      simp only [if_pos hin, hc, sb_mk]
      rfl
    cases hx : numS tb e 2 p with
    | inr y =>
      obtain ⟨f, w⟩ := y
      rw [hx] at hN
      obtain ⟨s1, r, b1, b2, b3⟩ := hN
      have b2' : Mbd f w (iS s1 221 ps.length r) := b2.st (by omega)
      obtain ⟨s', q1, q2, q3⟩ := mp92X (n := ps.length) (by omega) (nI (pls ps)) (nI p) 1 b2'
      refine ⟨s', nI (pls ps) + 1, hgo b1 (Ev.of fun N => ?_), q2, (b3.de.st (Or.inr (Or.inl rfl))).tr q3⟩
      rw [if_pos b2'.bad]
      exact q1
    | inl y =>
      obtain ⟨p1, a⟩ := y
      rw [hx] at hN
      obtain ⟨s1, b1, b2, b3⟩ := hN
      have hlt := numS_lt (by decide) hx
      have g2 : MT tb e p1 (iS s1 221 ps.length (nI a)) := b2.st2 (Or.inl rfl) _ _
      have gP : PB ps (iS s1 221 ps.length (nI a)) := (hP.d b3).st1
      have gF : Fw mEd s (iS s1 221 ps.length (nI a)) := b3.de.st (Or.inr (Or.inl rfl))
      have ga : iG (iS s1 221 ps.length (nI a)) 221 ps.length = nI a := iG_eq
      have hle1 := b2.2.2.2.2.1
      dsimp only
      by_cases c42 : cq tb e p1 = 42
      · rw [if_pos c42]
        have hlt1 : p1 < e := cq_lt (tb := tb) (by omega)
        obtain ⟨d2, d3⟩ := g2.adv hlt1
        generalize hs2 : iS (iS s1 221 ps.length (nI a)) 193 28 (iG (iS s1 221 ps.length (nI a)) 193 28 + 1) = s2 at d2 d3
        have hN2 := d2.num (m := 4) (by decide)
        have hgo2 : ∀ {r25 : Int32} {s26 : cS} {q : Int32 × cS}, Ev (fun N => f_X12_digits N (nI 4) s2) (r25, s26) → j_X12_part_92 (nI ps.length) (nI (pls ps)) (nI (p1 + 1)) r25 s26 = some q → Ev (fun N => f_X12_part N (nI ps.length) (nI (pls ps)) s) q := by
          intro r25 s26 q k1 k2
          refine hgo b1 (Ev.cg (Ev.bnd k1 (k := fun _ r25 s26 => j_X12_part_92 (nI ps.length) (nI (pls ps)) (nI (p1 + 1)) r25 s26) (Ev.of fun N => k2)) (fun N => ?_))
          rw [if_neg g2.good, ob_some g2.here, if_pos (c := nI (hq tb e p1) = (42 : Int32)) ((g2.is (c := 42) (by decide) (by decide)).mpr c42), sb_mk, hs2, d2.1]
          rfl
        have ga2 : iG s2 221 ps.length = nI a := (d3.int (by unfold mDg; omega)).trans ga
        cases hy : numS tb e 4 (p1 + 1) with
        | inr y =>
          obtain ⟨f, w⟩ := y
          rw [hy] at hN2
          obtain ⟨s3, r, k1, k2, k3⟩ := hN2
          obtain ⟨s', q1, q2, q3⟩ := mp92X (n := ps.length) (by omega) (nI (pls ps)) (nI (p1 + 1)) r k2
          exact ⟨s', _, hgo2 k1 q1, q2, gF.tr (d3.de.tr (k3.de.tr q3))⟩
        | inl y =>
          obtain ⟨p2, t⟩ := y
          rw [hy] at hN2
          obtain ⟨s3, k1, k2, k3⟩ := hN2
          have hbd := numS_bd hy
          obtain ⟨f1, f2⟩ := mp92_ok (x3 := p1 + 1) (t := t) k2 ((gP.d d3).d k3) (by omega) ((k3.int (by unfold mDg; omega)).trans ga2) (by omega) (by omega)
          dsimp only
          by_cases hz : t = 0 ∨ 2000 < pls ps + t
          · rw [if_pos hz]
            obtain ⟨s', r, q1, q2, q3⟩ := f2 hz
            exact ⟨s', r, hgo2 k1 q1, q2, gF.tr (d3.de.tr (k3.de.tr q3))⟩
          · rw [if_neg hz]
            obtain ⟨s', q1, q2, q3, q4⟩ := f1 hz
            refine ⟨s', ?_, q2, q3, gF.tr (d3.de.tr (k3.de.tr q4))⟩
            rw [pls_app]
            exact hgo2 k1 q1
      · rw [if_neg c42]
        have hne : ¬ nI (hq tb e p1) = (42 : Int32) := fun z => c42 ((g2.is (c := 42) (by decide) (by decide)).mp z)
        obtain ⟨f1, f2⟩ := mp92_ok (x3 := p) (t := 1) g2 gP (by omega) ga (by omega) (by omega)
        have hgo2 : ∀ {q : Int32 × cS}, j_X12_part_92 (nI ps.length) (nI (pls ps)) (nI p) (nI 1) (iS s1 221 ps.length (nI a)) = some q → Ev (fun N => f_X12_part N (nI ps.length) (nI (pls ps)) s) q := by
          intro q k2
          refine hgo b1 (Ev.of fun N => ?_)
          rw [if_neg g2.good, ob_some g2.here, if_neg hne]
          exact k2
        by_cases hz : 2000 < pls ps + 1
        · rw [if_pos hz]
          obtain ⟨s', r, q1, q2, q3⟩ := f2 (Or.inr hz)
          exact ⟨s', r, hgo2 q1, q2, gF.tr q3⟩
        · rw [if_neg hz]
          obtain ⟨s', q1, q2, q3, q4⟩ := f1 (by omega)
          refine ⟨s', ?_, q2, q3, gF.tr q4⟩
          rw [pls_app]
          exact hgo2 q1
/-! the copies -/
def mCp (j : Nat) (o k : Nat) : Prop := ((o = 217 ∨ o = 220) ∧ k = j) ∨ ((o = 218 ∨ o = 219) ∧ 8 * j ≤ k ∧ k < 8 * j + 8)
theorem mcp_lp {j : Nat} {ps : List (Nat × Nat)} (hj : j < 16) : ∀ (d i : Nat) (s : cS), i + d = ps.length → PB ps s → (∀ x y, x < i → ps[x]? = some y → iG s 218 (8 * j + x) = nI y.1 ∧ iG s 219 (8 * j + x) = nI y.2) → ∃ s', EL (fun _ (v : Int32 × cS) => b_X12_program_157 (nI j) (nI ps.length) (nI (pls ps)) v.1 v.2) (nI i, s) (nI (pls ps), s') ∧ PrM j ps s' ∧ Fw (mCp j) s s' := by
  intro d
  induction d with
  | zero =>
    intro i s hi hP hd
    have h8 := hP.1
    refine ⟨iS (iS s 217 j (nI ps.length)) 220 j (nI (pls ps)), EL.en (Ev.of fun _ => ?_), ⟨hP.1, ?_, by rw [iG_eq], hP.2.1, fun x y hy => ?_⟩, (Fw.rf.st (by unfold mCp; omega)).st (by unfold mCp; omega)⟩
    · show b_X12_program_157 (nI j) (nI ps.length) (nI (pls ps)) (nI i) s = _
      unfold b_X12_program_157
      rw [if_pos (nI_le (by omega) (by omega)), if_pos ((inb_n (by omega)).mpr hj), nI_clamp (by omega), sb_mk, sb_mk]
      rfl
    · rw [iG_ne (by decide), iG_eq]
    · have hx : x < ps.length := by
        rcases Nat.lt_or_ge x ps.length with z | z
        · exact z
        · rw [List.getElem?_eq_none z] at hy; cases hy
      rw [iG_ne (by decide), iG_ne (by decide), iG_ne (by decide), iG_ne (by decide)]
      exact hd x y (by omega) hy
  | succ d ih =>
    intro i s hi hP hd
    have h8 := hP.1
    have hin1 : inb (nI i) 8 := (inb_n (by omega)).mpr (by omega)
    have hmul : (8 : Int32) * nI j + nI i = nI (8 * j + i) := by
      show nI 8 * nI j + nI i = _
      rw [pk_mul, nI_add]
    have hin2 : inb (nI (8 * j + i)) 128 := (inb_n (by omega)).mpr (by omega)
    have hP2 : PB ps (iS (iS s 218 (8 * j + i) (iG s 221 i)) 219 (8 * j + i) (iG s 222 i)) := hP
    obtain ⟨s', q1, q2, q3⟩ := ih (i + 1) (iS (iS s 218 (8 * j + i) (iG s 221 i)) 219 (8 * j + i) (iG s 222 i)) (by omega) hP2 (fun x y hx hy => by
      rw [iG_ne (o := 219) (by decide), iG_if, if_pos rfl, iG_if, if_pos rfl, iG_ne (o := 218) (by decide)]
      by_cases z : x = i
      · subst z
        rw [if_pos rfl, if_pos rfl]
        exact hP.2.2 x y hy
      · rw [if_neg (by omega), if_neg (by omega)]
        exact hd x y (by omega) hy)
    refine ⟨s', EL.st (v' := (nI (i + 1), iS (iS s 218 (8 * j + i) (iG s 221 i)) 219 (8 * j + i) (iG s 222 i))) (Ev.of fun _ => ?_) q1, q2, ((Fw.rf.st (by unfold mCp; omega)).st (by unfold mCp; omega)).tr q3⟩
    show b_X12_program_157 (nI j) (nI ps.length) (nI (pls ps)) (nI i) s = _
    unfold b_X12_program_157
    rw [if_neg (nI_ge (by omega) (by omega)), if_pos hin1, hmul, if_pos hin2, nI_clamp (by omega), nI_clamp (by omega), sb_mk, sb_mk, nI_1]
    rfl
theorem m_copy {j : Nat} {ps : List (Nat × Nat)} (hj : j < 16) (hP : PB ps s) (hg : iG s 193 30 = 0) : ∃ s', Ev (fun N => j_X12_program_142 N (nI j) (nI ps.length) (nI (pls ps)) s) (nI (pls ps), s') ∧ PrM j ps s' ∧ Fw (mCp j) s s' := by
  obtain ⟨s', q1, q2, q3⟩ := mcp_lp hj ps.length 0 s (by omega) hP (fun x y hx => by omega)
  refine ⟨s', Ev.cg q1.ev (fun N => ?_), q2, q3⟩
  unfold j_X12_program_142
  rw [hg, if_pos (by decide)]
  rfl
end
