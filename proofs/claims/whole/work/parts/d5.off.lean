/-! off -/
theorem fl_same {n pl th pc : Nat} {m : Nat → Nat} {w : Nat → Nat → Nat} {R : Nat → Nat → Nat → Bool} {r r' : Int32} (hth : 1 ≤ th) (k2 : (past n m w R pc pl = 0 ∧ r = -2) ∨ (past n m w R pc pl ≠ 0 ∧ BSt (fun c i => fst1 (R c i) 2000) (GdP n m w R pc pl th) pl (fun c i => bit pc c ∧ i < m c ∧ c < n) r)) (l5 : (past n m w R pc pl = 0 ∧ r' = -2) ∨ (past n m w R pc pl ≠ 0 ∧ LkR (GdP n m w R pc pl th) pl r')) : r = r' := by
  rcases k2 with ⟨x1, x2⟩ | ⟨x1, x2⟩
  · rcases l5 with ⟨y1, y2⟩ | ⟨y1, y2⟩
    · rw [x2, y2]
    · exact absurd x1 y1
  · rcases l5 with ⟨y1, y2⟩ | ⟨y1, y2⟩
    · exact absurd y1 x1
    · exact lk_same hth x1 x2 y2
section
variable {K : List Cl} {n nt st : Nat} {m : Nat → Nat} {P : Nat → List (Nat × Nat)} {s : cS}
def offR (r r' : Int32) : Int32 := if r < 0 then -100000 else if 0 ≤ r' then r - r' else -100000
theorem m_off (h : AllI K n m P nt st s) (a0 a1 a2 : Int32) : ∃ r s1 s2, r_X11_off a0 a1 a2 s r s1 ∧ r_X12_off a0 a1 a2 s1 r s2 ∧ AllI K n m P nt st s2 ∧ Fw odP s s2 := by
  have h0 := h
  obtain ⟨hC, hL, hP, hO⟩ := h
  have hn8 := hC.1
  have hnone : Ev (fun N => f_X11_off N a0 a1 a2 s) (-100000, s) → f_X12_off 0 a0 a1 a2 s = some (-100000, s) → ∃ r s1 s2, r_X11_off a0 a1 a2 s r s1 ∧ r_X12_off a0 a1 a2 s1 r s2 ∧ AllI K n m P nt st s2 ∧ Fw odP s s2 := fun h1 h2 => ⟨-100000, s, s, h1.ex, ⟨0, h2⟩, h0, Fw.rf⟩
  have hfly := can_fly0 hP a1 a2
  rcases has_piece hC a0 with ⟨p1, p2⟩ | ⟨pc, hp1, hp2, rfl, p1, p2⟩
  · refine hnone (Ev.of fun N => ?_) ?_
    · rcases hfly with ⟨x, q1, -⟩ | ⟨j, -, -, q1, -⟩
      · unfold f_X11_off
        rw [q1, ob_mk, if_pos p1]
      · unfold f_X11_off
        rw [q1, ob_mk, if_pos p1]
    · unfold f_X12_off
      rw [if_pos (p2 s rfl)]
  · have p1' : ¬ f_X1_hasPiece (nI pc) s = 0 := by rw [p1]; decide
    have p2' : ∀ t : cS, iG t 193 2 = iG s 193 2 → ¬ f_X12_isPiece (nI pc) t = 0 := fun t ht => by rw [p2 t ht]; decide
    rcases hfly with ⟨x, q1, q2, q3⟩ | ⟨j, hj, rfl, q1, q2, q3⟩
    · refine hnone (Ev.of fun N => ?_) ?_
      · unfold f_X11_off
        rw [q1, ob_mk, if_neg p1', q2, ob_mk, if_pos rfl]
      · unfold f_X12_off
        rw [if_neg (p2' s rfl)]
        by_cases z : f_X12_isProgram a1 s = 0
        · rw [if_pos z]
        · rw [if_neg z, if_pos ((q3 s).resolve_left z)]
    · have hlt := all_lt hn8
      have hR0 : RNP K s a2 (txP P j) = RNP K s a2 (P j) := by rw [txP8 (by omega)]
      have hpl := (hP.1 j (by omega)).1.2.2.2.1
      have h500 : (500 : Int32) = nI 500 := rfl
      obtain ⟨s1, b1, b2, b3, b4, b5⟩ := odd_X (tx := j) (p := a2) (tot := 2000) (pc := pc) h0 (by omega) (by omega) (Or.inl (by omega))
      rw [hR0] at b4
      obtain ⟨r, k1, k2⟩ := x_flights (R := RNP K s a2 (P j)) (pl := pls (P j)) (th := 500) b2.1 (show pc < 2 ^ 31 by omega) hpl (by decide) b4
      rw [b3] at k2
      obtain ⟨s2, d1, d2, d3, d4, d5⟩ := odd_X (tx := 16) (p := a2) (tot := 2000) (pc := 2 ^ n - 1) b2 (by omega) hlt (Or.inr rfl)
      rw [show txP P 16 = [] from rfl, prp_R b5] at d4
      rw [b3] at d3
      obtain ⟨r', k3, k4⟩ := x_flights (R := RNP K s a2 []) (pl := 0) (th := 500) d2.1 hlt (by decide) (by decide) d4
      rw [d3] at k4
      have hF2 : Fw prpP s s2 := b5.tr d5
      obtain ⟨t, s3, l1, l2, l3, l4, l5⟩ := m_likelyOf (prog := nI j) (p := a2) (ps := P j) (pc := pc) (th := 500) d2 (Or.inl ⟨j, by omega, rfl, (d2.2.2.1.1 j (by omega)).2⟩) hpl (by omega) (by decide)
      rw [d3, prp_R hF2] at l5
      have e1 : r = t := fl_same (by decide) k2 l5
      subst e1
      obtain ⟨t', s4, g1, g2, g3, g4, g5⟩ := m_likelyOf (prog := -1) (p := a2) (ps := []) (pc := 2 ^ n - 1) (th := 500) l2 (Or.inr ⟨rfl, rfl⟩) (by decide) hlt (by decide)
      rw [l3, d3, all_R l4, prp_R hF2] at g5
      have e2 : r' = t' := fl_same (by decide) k4 g5
      subst e2
      have hev1 := every_n b2.1
      have hev3 := every_n l2.1
      refine ⟨offR r r', s2, s4, (Ev.cg (Ev.bnd b1 (k := fun N _ s11 => ob (f_X11_pullsOf (some (txT j)) s11) fun r13 s14 => ob (f_X5_flightsTill N (nI pc) r13 (500 : Int32) s14) fun r16 s17 => ob (f_X5_prepare N (f_X1_every s17) (16 : Int32) (some 29) a2 (2000 : Int32) s17) fun r20 s21 => ob (f_X5_flightsTill N (f_X1_every s17) (0 : Int32) (500 : Int32) s21) fun r23 s24 => if r16 < 0 then some (((-100000 : Int32), s24)) else if 0 ≤ r23 then some (((r16 - r23), s24)) else some (((-100000 : Int32), s24))) ?_) fun N => ?_).ex, (Ev.cg (Ev.bnd l1 (k := fun N r7 s8 => ob (f_X12_likelyOf N (f_X12_whole s8) (-1 : Int32) a2 (500 : Int32) s8) fun r11 s12 => if r7 < 0 then some (((-100000 : Int32), s12)) else if 0 ≤ r11 then some (((r7 - r11), s12)) else some (((-100000 : Int32), s12))) ?_) fun N => ?_).ex, g2, (hF2.mo fun o k y => Or.inl y).tr ((l4.tr g4).mo fun o k y => Or.inr y)⟩
      · refine Ev.cg (Ev.bnd k1 (k := fun N r16 s17 => ob (f_X5_prepare N (f_X1_every s17) (16 : Int32) (some 29) a2 (2000 : Int32) s17) fun r20 s21 => ob (f_X5_flightsTill N (f_X1_every s17) (0 : Int32) (500 : Int32) s21) fun r23 s24 => if r16 < 0 then some (((-100000 : Int32), s24)) else if 0 ≤ r23 then some (((r16 - r23), s24)) else some (((-100000 : Int32), s24))) ?_) fun N => ?_
        · rw [hev1.1]
          refine Ev.cg (Ev.bnd d1 (k := fun N _ s21 => ob (f_X5_flightsTill N (nI (2 ^ n - 1)) (0 : Int32) (500 : Int32) s21) fun r23 s24 => if r < 0 then some (((-100000 : Int32), s24)) else if 0 ≤ r23 then some (((r - r23), s24)) else some (((-100000 : Int32), s24))) (Ev.cg (Ev.bnd k3 (k := fun _ r23 s24 => if r < 0 then some (((-100000 : Int32), s24)) else if 0 ≤ r23 then some (((r - r23), s24)) else some (((-100000 : Int32), s24))) (Ev.of fun N => ?_)) fun N => rfl)) fun N => rfl
          unfold offR
          split
          · rfl
          · split <;> rfl
        · rw [pulls_of b2.2.2.1 hj, ob_mk]
          rfl
      · unfold f_X11_off
        rw [q1, ob_mk, if_neg p1', q2, ob_mk, if_neg (by decide)]
        rfl
      · rw [hev3.2]
        refine Ev.cg (Ev.bnd g1 (k := fun _ r11 s12 => if r < 0 then some (((-100000 : Int32), s12)) else if 0 ≤ r11 then some (((r - r11), s12)) else some (((-100000 : Int32), s12))) (Ev.of fun N => ?_)) fun N => rfl
        unfold offR
        split
        · rfl
        · split <;> rfl
      · unfold f_X12_off
        rw [if_neg (p2' s2 (hF2.int (by unfold prpP; omega))), if_neg (q3 s2).1, if_neg (q3 s2).2]
        rfl
end
