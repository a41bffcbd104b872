/-! the text of a program, read: what both come to; the class -/
def partS (tb : Nat → Nat) (e n before p : Nat) : (Nat × Nat × Nat) ⊕ (Nat × Nat) :=
  if n = 8 then .inr (if 48 ≤ cq tb e p ∧ cq tb e p ≤ 57 then 4 else 1, p)
  else match numS tb e 2 p with
    | .inr f => .inr f
    | .inl (p1, a) => if cq tb e p1 = 42 then match numS tb e 4 (p1 + 1) with
        | .inr f => .inr f
        | .inl (p2, t) => if t = 0 ∨ 2000 < before + t then .inr (3, p1 + 1) else .inl (p2, a, t)
      else if 2000 < before + 1 then .inr (3, p) else .inl (p1, a, 1)
def progS (tb : Nat → Nat) (e : Nat) : Nat → Nat → List (Nat × Nat) → (List (Nat × Nat)) ⊕ (Nat × Nat)
  | 0, _, _ => .inr (0, 0)
  | k + 1, p, ps => match partS tb e ps.length (pls ps) p with
    | .inr f => .inr f
    | .inl (p', y) => if e ≤ p' then .inl (ps ++ [y]) else if cq tb e p' = 59 then progS tb e k (p' + 1) (ps ++ [y]) else .inr (1, p')
def xQ (o k : Nat) : Prop := xT o k ∨ (166 ≤ o ∧ o ≤ 168)
theorem Fw.qt {s t : cS} (h : Fw xT s t) : Fw xQ s t := h.mo fun _ _ z => Or.inl z
theorem part85 (x2 x4 x5 : Int32) (s : cS) : ∃ s', j_X6_readPart_85 166 x2 x4 x5 s = some ((), s') ∧ Fw (fun o _ => 166 ≤ o ∧ o ≤ 168) s s' := by
  unfold j_X6_readPart_85
  simp only [sb_mk]
  exact ⟨_, rfl, (((pA_fw fun k => by omega).tr (pA_fw fun k => by omega)).st (by omega)).st (by omega)⟩
theorem TBd.q {f w : Nat} {s t : cS} (h : TBd f w s) (hF : Fw (fun o _ => 166 ≤ o ∧ o ≤ 168) s t) : TBd f w t := h.fw hF (by omega) (by omega)
theorem part61X {f w : Nat} (x2 x3 x4 x5 : Int32) {s : cS} (h : TBd f w s) : ∃ s', j_X6_readPart_61 166 x2 x3 x4 x5 s = some ((), s') ∧ TBd f w s' ∧ Fw xQ s s' := by
  obtain ⟨s', q1, q2⟩ := part85 x2 x4 x5 s
  have h79 : j_X6_readPart_79 166 x2 x3 x4 x5 s = some ((), s') := by
    unfold j_X6_readPart_79
    rw [h.fail, tb_mk, q1]
  refine ⟨s', ?_, h.q q2, q2.mo fun _ _ z => Or.inr z⟩
  unfold j_X6_readPart_61
  by_cases z : x5 = 0
  · rw [if_pos z, h79]
  · rw [if_neg z]
    split
    · exact q1
    · exact h79
/-- a part behind a fault -/
theorem part24X {f w : Nat} (x2 x3 : Int32) {s : cS} (h : TBd f w s) : ∃ s', Ev (fun N => j_X6_readPart_24 N 166 x2 x3 s) ((), s') ∧ TBd f w s' ∧ Fw xQ s s' := by
  obtain ⟨s', q1, q2, q3⟩ := part61X x2 x3 0 1 h
  refine ⟨s', Ev.bnd (h.num 2) (Ev.of fun N => ?_), q2, q3⟩
  rw [h.sg, if_neg (by decide)]
  exact q1
section
variable {tb : Nat → Nat} {e : Nat}
theorem TR.q {p : Nat} {s t : cS} (h : TR tb e p s) (hF : Fw (fun o _ => 166 ≤ o ∧ o ≤ 168) s t) : TR tb e p t := h.fw hF (fun k _ _ => by omega) (fun i _ => by omega)
theorem PrX.t {ps : List (Nat × Nat)} {s t : cS} (h : PrX 166 ps s) (hF : Fw xT s t) : PrX 166 ps t := PrX.rd.fw hF h fun o k z => by unfold xT; omega
theorem part85_ok {ps : List (Nat × Nat)} {s : cS} {a t : Nat} (h : PrX 166 ps s) (hn : ps.length < 8) (ht : pls ps + t ≤ 2000) : ∃ s', j_X6_readPart_85 166 (nI ps.length) (nI a) (nI t) s = some ((), s') ∧ PrX 166 (ps ++ [(a, t)]) s' ∧ Fw (fun o _ => 166 ≤ o ∧ o ≤ 168) s s' := by
  obtain ⟨h1, h2, h3, h4, h5⟩ := h
  have e1 : iG (iS (iS s 167 ps.length (nI a)) 168 ps.length (nI t)) 166 3 = nI (pls ps) := h3
  refine ⟨iS (iS (iS (iS s 167 ps.length (nI a)) 168 ps.length (nI t)) 166 2 (nI (ps.length + 1))) 166 3 (nI (pls ps + t)), ?_, ⟨by simp; omega, ?_, ?_, ?_, fun x y hy => ?_⟩, (((Fw.rf.st (by omega)).st (by omega)).st (by omega)).st (by omega)⟩
  · unfold j_X6_readPart_85
    have e2 : iG (iS (iS (iS s 167 ps.length (nI a)) 168 ps.length (nI t)) 166 2 (nI (ps.length + 1))) 166 3 = nI (pls ps) := h3
    rw [pA_n (by omega) (by omega), sb_mk, pA_n (by omega) (by omega), sb_mk, nI_1, sb_mk, e2, nI_add, sb_mk]
  · rw [iG_nk (by omega), iG_eq]; simp
  · rw [iG_eq, pls_app]; rfl
  · rw [pls_app]; show pls ps + (t + 0) ≤ 2000; omega
  · rw [List.getElem?_append] at hy
    have r1 : iG (iS (iS (iS (iS s 167 ps.length (nI a)) 168 ps.length (nI t)) 166 2 (nI (ps.length + 1))) 166 3 (nI (pls ps + t))) 167 x = if x = ps.length then nI a else iG s 167 x := by
      rw [iG_ne (by decide), iG_ne (by decide), iG_ne (by decide), iG_if, if_pos rfl]
    have r2 : iG (iS (iS (iS (iS s 167 ps.length (nI a)) 168 ps.length (nI t)) 166 2 (nI (ps.length + 1))) 166 3 (nI (pls ps + t))) 168 x = if x = ps.length then nI t else iG s 168 x := by
      rw [iG_ne (by decide), iG_ne (by decide), iG_if, if_pos rfl, iG_ne (by decide)]
    show iG _ 167 x = _ ∧ iG _ 168 x = _
    rw [r1, r2]
    by_cases hx : x < ps.length
    · rw [if_pos hx] at hy
      rw [if_neg (by omega), if_neg (by omega)]
      exact h5 x y hy
    · rw [if_neg hx] at hy
      have h0 : x - ps.length = 0 := by
        rcases Nat.eq_zero_or_pos (x - ps.length) with z | z
        · exact z
        · rw [List.getElem?_eq_none (by simp; omega)] at hy
          cases hy
      rw [h0] at hy
      cases hy
      rw [if_pos (by omega), if_pos (by omega)]
      exact ⟨rfl, rfl⟩
theorem x_part {p : Nat} {ps : List (Nat × Nat)} {s : cS} (hTR : TR tb e p s) (h : PrX 166 ps s) : match partS tb e ps.length (pls ps) p with
    | .inl (p', y) => p < p' ∧ ps.length < 8 ∧ ∃ s', Ev (fun N => f_X6_readPart N 166 (nI ps.length) s) ((), s') ∧ TR tb e p' s' ∧ PrX 166 (ps ++ [y]) s' ∧ Fw xQ s s'
    | .inr (f, w) => ∃ s', Ev (fun N => f_X6_readPart N 166 (nI ps.length) s) ((), s') ∧ TBd f w s' ∧ Fw xQ s s' := by
  have hlen := h.1
  have h3 := h.2.2.1
  have h4 := h.2.2.2.1
  unfold partS
  by_cases c8 : ps.length = 8
  · rw [if_pos c8]
    by_cases cd : 48 ≤ cq tb e p ∧ cq tb e p ≤ 57
    · rw [if_pos cd]
      obtain ⟨s1, a1, a2, a3⟩ := hTR.failp 4 (by decide) (by decide)
      have a1' : f_X9_fail 4 (f_X9_place s) s = ((), s1) := a1
      obtain ⟨s', q1, q2, q3⟩ := part24X (nI ps.length) (f_X9_place s) a2
      refine ⟨s', Ev.cg q1 (fun N => ?_), q2, a3.qt.tr q3⟩
      unfold f_X6_readPart
      rw [hTR.dig, if_pos cd, if_neg (by decide), if_neg (c := nI ps.length < 8) (nI_nlt (b := 8) (by omega) (by omega)), a1', tb_mk]
    · rw [if_neg cd]
      have hN := hTR.num (m := 2) (by decide)
      have hx : numS tb e 2 p = .inr (1, p) := by unfold numS; rw [if_neg cd]
      rw [hx] at hN
      obtain ⟨s1, r, b1, b2, b3⟩ := hN
      obtain ⟨s', q1, q2, q3⟩ := part61X (nI ps.length) (f_X9_place s) r 1 b2
      refine ⟨s', Ev.cg (Ev.bnd b1 (k := fun N r4 s5 => if (sgn s5) = (42 : Int32) then (f_X9_pass (42 : Int32) s5).2 |> fun s23 => ob (f_X9_number N (4 : Int32) s23) fun r26 s27 => j_X6_readPart_61 166 (nI ps.length) (f_X9_place s23) r4 r26 s27 else j_X6_readPart_61 166 (nI ps.length) (f_X9_place s) r4 (1 : Int32) s5) (Ev.of fun N => ?_)) (fun N => ?_), q2, b3.qt.tr q3⟩
      · rw [b2.sg, if_neg (by decide)]
        exact q1
      · unfold f_X6_readPart j_X6_readPart_24
        rw [hTR.dig, if_neg cd, if_pos rfl]
        rfl
  · rw [if_neg c8]
    have hN := hTR.num (m := 2) (by decide)
    have hgo : ∀ {r4 : Int32} {s5 : cS} {q : Unit × cS}, Ev (fun N => f_X9_number N (nI 2) s) (r4, s5) → Ev (fun N => if (sgn s5) = (42 : Int32) then (f_X9_pass (42 : Int32) s5).2 |> fun s23 => ob (f_X9_number N (4 : Int32) s23) fun r26 s27 => j_X6_readPart_61 166 (nI ps.length) (f_X9_place s23) r4 r26 s27 else j_X6_readPart_61 166 (nI ps.length) (f_X9_place s) r4 (1 : Int32) s5) q → Ev (fun N => f_X6_readPart N 166 (nI ps.length) s) q := by
      intro r4 s5 q k1 k2
      refine Ev.cg (Ev.bnd k1 (k := fun N r4 s5 => if (sgn s5) = (42 : Int32) then (f_X9_pass (42 : Int32) s5).2 |> fun s23 => ob (f_X9_number N (4 : Int32) s23) fun r26 s27 => j_X6_readPart_61 166 (nI ps.length) (f_X9_place s23) r4 r26 s27 else j_X6_readPart_61 166 (nI ps.length) (f_X9_place s) r4 (1 : Int32) s5) k2) (fun N => ?_)
      unfold f_X6_readPart j_X6_readPart_24
      rw [if_pos (c := nI ps.length < 8) (nI_lt (b := 8) (by omega) (by omega))]
      split <;> rfl
    cases hx : numS tb e 2 p with
    | inr y =>
      obtain ⟨f, w⟩ := y
      rw [hx] at hN
      obtain ⟨s1, r, b1, b2, b3⟩ := hN
      obtain ⟨s', q1, q2, q3⟩ := part61X (nI ps.length) (f_X9_place s) r 1 b2
      refine ⟨s', hgo b1 (Ev.of fun N => ?_), q2, b3.qt.tr q3⟩
      rw [b2.sg, if_neg (by decide)]
      exact q1
    | inl y =>
      obtain ⟨p1, a⟩ := y
      rw [hx] at hN
      obtain ⟨s1, b1, b2, b3⟩ := hN
      have hlt := numS_lt (by decide) hx
      have hP1 := h.t b3
      have hpl1 : iG s1 166 3 = nI (pls ps) := hP1.2.2.1
      dsimp only
      -- a part that stands, or too many
      have hfin : ∀ {p2 x3 : Nat} {t : Nat} {s2 : cS}, TR tb e p2 s2 → PrX 166 ps s2 → t < 10000 → (¬ (t = 0 ∨ 2000 < pls ps + t) → ∃ s', j_X6_readPart_61 166 (nI ps.length) (nI x3) (nI a) (nI t) s2 = some ((), s') ∧ TR tb e p2 s' ∧ PrX 166 (ps ++ [(a, t)]) s' ∧ Fw xQ s2 s') ∧ ((t = 0 ∨ 2000 < pls ps + t) → ∃ s', j_X6_readPart_61 166 (nI ps.length) (nI x3) (nI a) (nI t) s2 = some ((), s') ∧ TBd 3 x3 s' ∧ Fw xQ s2 s') := by
        intro p2 x3 t s2 k1 k2 ht
        have z0 : nI t = (0 : Int32) ↔ t = 0 := nI_eq (b := 0) (by omega) (by decide)
        have zp : iG s2 166 3 + nI t ≤ (2000 : Int32) ↔ ¬ 2000 < pls ps + t := by
          rw [k2.2.2.1, nI_add]
          have : nI (pls ps + t) ≤ (2000 : Int32) ↔ pls ps + t ≤ 2000 := nI_leI (b := 2000) (by omega) (by decide)
          rw [this]; omega
        constructor
        · intro hz
          obtain ⟨s', q1, q2, q3⟩ := part85_ok (a := a) (t := t) k2 (by omega) (by omega)
          refine ⟨s', ?_, k1.q q3, q2, q3.mo fun _ _ z => Or.inr z⟩
          unfold j_X6_readPart_61
          rw [if_neg (fun w => hz (Or.inl (z0.mp w))), if_pos (zp.mpr fun w => hz (Or.inr w)), q1]
        · intro hz
          obtain ⟨s3, a1, a2, a3⟩ := k1.fail 3 x3 (by decide) (by decide)
          have a1' : f_X9_fail 3 (nI x3) s2 = ((), s3) := a1
          obtain ⟨s', q1, q2⟩ := part85 (nI ps.length) (nI a) (nI t) s3
          have h79 : j_X6_readPart_79 166 (nI ps.length) (nI x3) (nI a) (nI t) s2 = some ((), s') := by
            unfold j_X6_readPart_79
            rw [a1', tb_mk, q1]
          refine ⟨s', ?_, a2.q q2, a3.qt.tr (q2.mo fun _ _ z => Or.inr z)⟩
          unfold j_X6_readPart_61
          by_cases w : t = 0
          · rw [if_pos (z0.mpr w), h79]
          · rw [if_neg (fun v => w (z0.mp v)), if_neg (fun v => zp.mp v (hz.resolve_left w)), h79]
      by_cases c42 : cq tb e p1 = 42
      · rw [if_pos c42]
        have hs : sgn s1 = 42 := (b2.is (c := 42) (by decide)).mpr c42
        obtain ⟨s2, d1, d2, d3⟩ := b2.pass c42 (by decide)
        have d1' : f_X9_pass 42 s1 = ((), s2) := d1
        have hpl : f_X9_place s2 = nI (p1 + 1) := d2.1
        have hN2 := d2.num (m := 4) (by decide)
        have hP2 := hP1.t d3
        have hgo2 : ∀ {r26 : Int32} {s27 : cS} {q : Unit × cS}, Ev (fun N => f_X9_number N (nI 4) s2) (r26, s27) → j_X6_readPart_61 166 (nI ps.length) (nI (p1 + 1)) (nI a) r26 s27 = some q → Ev (fun N => f_X6_readPart N 166 (nI ps.length) s) q := by
          intro r26 s27 q k1 k2
          refine hgo b1 (Ev.cg (Ev.bnd k1 (k := fun _ r26 s27 => j_X6_readPart_61 166 (nI ps.length) (nI (p1 + 1)) (nI a) r26 s27) (Ev.of fun N => k2)) (fun N => ?_))
          rw [if_pos hs, d1']
          dsimp only
          rw [hpl]
          rfl
        cases hy : numS tb e 4 (p1 + 1) with
        | inr y =>
          obtain ⟨f, w⟩ := y
          rw [hy] at hN2
          obtain ⟨s3, r, g1, g2, g3⟩ := hN2
          obtain ⟨s', q1, q2, q3⟩ := part61X (nI ps.length) (nI (p1 + 1)) (nI a) r g2
          exact ⟨s', hgo2 g1 q1, q2, b3.qt.tr (d3.qt.tr (g3.qt.tr q3))⟩
        | inl y =>
          obtain ⟨p2, t⟩ := y
          rw [hy] at hN2
          obtain ⟨s3, g1, g2, g3⟩ := hN2
          have hlt2 := numS_lt (by decide) hy
          have hbd := numS_bd hy
          obtain ⟨f1, f2⟩ := hfin (x3 := p1 + 1) (t := t) g2 (hP2.t g3) (by omega)
          dsimp only
          by_cases hz : t = 0 ∨ 2000 < pls ps + t
          · rw [if_pos hz]
            obtain ⟨s', q1, q2, q3⟩ := f2 hz
            exact ⟨s', hgo2 g1 q1, q2, b3.qt.tr (d3.qt.tr (g3.qt.tr q3))⟩
          · rw [if_neg hz]
            obtain ⟨s', q1, q2, q3, q4⟩ := f1 hz
            exact ⟨by omega, by omega, s', hgo2 g1 q1, q2, q3, b3.qt.tr (d3.qt.tr (g3.qt.tr q4))⟩
      · rw [if_neg c42]
        have hs : ¬ sgn s1 = 42 := fun z => c42 ((b2.is (c := 42) (by decide)).mp z)
        have hpl : f_X9_place s = nI p := hTR.1
        obtain ⟨f1, f2⟩ := hfin (x3 := p) (t := 1) b2 hP1 (by omega)
        have hgo2 : ∀ {q : Unit × cS}, j_X6_readPart_61 166 (nI ps.length) (nI p) (nI a) (nI 1) s1 = some q → Ev (fun N => f_X6_readPart N 166 (nI ps.length) s) q := by
          intro q k2
          refine hgo b1 (Ev.of fun N => ?_)
          rw [if_neg hs, hpl]
          exact k2
        by_cases hz : 2000 < pls ps + 1
        · rw [if_pos hz]
          obtain ⟨s', q1, q2, q3⟩ := f2 (Or.inr hz)
          exact ⟨s', hgo2 q1, q2, b3.qt.tr q3⟩
        · rw [if_neg hz]
          obtain ⟨s', q1, q2, q3, q4⟩ := f1 (by omega)
          exact ⟨hlt, by omega, s', hgo2 q1, q2, q3, b3.qt.tr q4⟩
abbrev pgB (N : Nat) (v : Int32 × cS) : Option ((Int32 × cS) ⊕ (Unit × cS)) := b_X6_read_12 N 166 v.1 v.2
theorem pgB_bad {f w : Nat} {x : Int32} {s : cS} (h : TBd f w s) : EL pgB (x, s) ((), s) := by
  refine EL.en (Ev.of fun N => ?_)
  show b_X6_read_12 N 166 x s = _
  unfold b_X6_read_12
  by_cases c : (8 : Int32) < x
  · rw [if_pos c]; rfl
  · rw [if_neg c, h.sound, if_pos rfl]; rfl
theorem x_proglp : ∀ (k p : Nat) (ps : List (Nat × Nat)) (s : cS), ps.length + k = 9 → TR tb e p s → PrX 166 ps s → match progS tb e k p ps with
    | .inl ps' => ∃ s' p', EL pgB (nI ps.length, s) ((), s') ∧ TR tb e p' s' ∧ PrX 166 ps' s' ∧ Fw xQ s s'
    | .inr (f, w) => ∃ s', EL pgB (nI ps.length, s) ((), s') ∧ TBd f w s' ∧ Fw xQ s s' := by
  intro k
  induction k with
  | zero =>
    intro p ps s hk _ h
    have := h.1
    omega
  | succ k ih =>
    intro p ps s hk hTR h
    have hC := x_part hTR h
    have h8 := h.1
    have hhead : ∀ N, pgB N (nI ps.length, s) = ob (f_X6_readPart N 166 (nI ps.length) s) fun _ s7 => if (f_X9_atEnd s7) = 0 then some (.inl ((nI ps.length + 1), (f_X9_pass 59 s7).2)) else oR (some ((), s7)) := by
      intro N
      show b_X6_read_12 N 166 (nI ps.length) s = _
      unfold b_X6_read_12
      rw [if_neg (c := (8 : Int32) < nI ps.length) (nI_nlt (a := 8) (by omega) (by omega)), hTR.sound, if_neg (by decide)]
      rfl
    have hgo : ∀ {s1 : cS} {v : Int32 × cS}, Ev (fun N => f_X6_readPart N 166 (nI ps.length) s) ((), s1) → f_X9_atEnd s1 = 0 → (nI ps.length + 1, (f_X9_pass 59 s1).2) = v → ∀ {q}, EL pgB v q → EL pgB (nI ps.length, s) q := by
      intro s1 v k1 k2 k3 q kq
      refine EL.st (v' := v) (Ev.cg (Ev.bnd k1 (k := fun _ _ s7 => if (f_X9_atEnd s7) = 0 then some (.inl ((nI ps.length + 1), (f_X9_pass 59 s7).2)) else oR (some ((), s7))) (Ev.of fun N => ?_)) hhead) kq
      rw [if_pos k2, k3]
    unfold progS
    cases hx : partS tb e ps.length (pls ps) p with
    | inr y =>
      obtain ⟨f, w⟩ := y
      rw [hx] at hC
      obtain ⟨s1, k1, k2, k3⟩ := hC
      have hp : f_X9_pass 59 s1 = ((), s1) := k2.pass (c := 59) (by decide)
      exact ⟨s1, hgo k1 k2.atEnd rfl (by rw [hp]; exact pgB_bad k2), k2, k3⟩
    | inl z =>
      obtain ⟨p1, y⟩ := z
      rw [hx] at hC
      obtain ⟨hlt, hl8, s1, k1, k2, k3, k4⟩ := hC
      have hln : (ps ++ [y]).length = ps.length + 1 := by simp
      dsimp only
      by_cases c1 : e ≤ p1
      · rw [if_pos c1]
        refine ⟨s1, p1, EL.en (Ev.cg (Ev.bnd k1 (k := fun _ _ s7 => if (f_X9_atEnd s7) = 0 then some (.inl ((nI ps.length + 1), (f_X9_pass 59 s7).2)) else oR (some ((), s7))) (Ev.of fun N => ?_)) hhead), k2, k3, k4⟩
        rw [k2.atEnd, if_pos c1, if_neg (by decide)]
        rfl
      · rw [if_neg c1]
        have hae : f_X9_atEnd s1 = 0 := by rw [k2.atEnd, if_neg c1]
        by_cases c2 : cq tb e p1 = 59
        · rw [if_pos c2]
          obtain ⟨s2, a1, a2, a3⟩ := k2.pass c2 (by decide)
          have a1' : f_X9_pass 59 s1 = ((), s2) := a1
          have hI := ih (p1 + 1) (ps ++ [y]) s2 (by omega) a2 (k3.t a3)
          rw [hln] at hI
          cases hy : progS tb e k (p1 + 1) (ps ++ [y]) with
          | inl ps' =>
            rw [hy] at hI
            obtain ⟨s', p', q1, q2, q3, q4⟩ := hI
            exact ⟨s', p', hgo k1 hae rfl (by rw [a1', nI_1]; exact q1), q2, q3, k4.tr (a3.qt.tr q4)⟩
          | inr z =>
            rw [hy] at hI
            obtain ⟨s', q1, q2, q3⟩ := hI
            exact ⟨s', hgo k1 hae rfl (by rw [a1', nI_1]; exact q1), q2, k4.tr (a3.qt.tr q3)⟩
        · rw [if_neg c2]
          obtain ⟨s2, a1, a2, a3⟩ := k2.npass c2 (by decide)
          have a1' : f_X9_pass 59 s1 = ((), s2) := a1
          exact ⟨s2, hgo k1 hae rfl (by rw [a1']; exact pgB_bad a2), a2, k4.tr a3.qt⟩
end
