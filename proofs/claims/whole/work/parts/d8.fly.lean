/-! fly -/
def fyS (cst : Nat → Int64) : Nat → Int32 × Int64
  | 0 => (0, cst 0)
  | n + 1 => if cst (n + 1) < (fyS cst n).2 then (nI (n + 1), cst (n + 1)) else fyS cst n
section
variable {n : Nat} {m : Nat → Nat} {R : Nat → Nat → Nat → Bool} {s : cS}
/-- what n flights cost -/
def flC (n : Nat) (m : Nat → Nat) (w : Nat → Nat → Nat) (R : Nat → Nat → Nat → Bool) (pc pl g lc ic x : Nat) : Int64 := lN (lc * (past n m w R pc pl - past n m w R pc (pl + x)) + ic * (g - x) * past n m w R pc pl)
theorem x_fly_lp (hC : CorN n m s) {pc pl g lc ic W D : Nat} (hp : pc < 2 ^ 31) (hg : pl + g ≤ 2000) (hlc : lc < 2 ^ 31) (hic : ic < 2 ^ 31) (hk : ∀ c, c < n → bit pc c → KnO m R (pl + g) c s) (hW : past n m (wts s) R pc 0 = W) (hD : past n m (wts s) R pc pl = D) : ∀ (d x : Nat), x + d = g → EL (fun N (v : (Int32 × Int64 × Int32) × cS) => b_X5_cheapestFlights_56 N (nI pl) (nI g) (nI lc) (nI ic) (nI pc) (lN (W - D)) (lN D) v.1.1 v.1.2.1 v.1.2.2 v.2) (((fyS (flC n m (wts s) R pc pl g lc ic) x).1, (fyS (flC n m (wts s) R pc pl g lc ic) x).2, nI (x + 1)), s) ((fyS (flC n m (wts s) R pc pl g lc ic) g).1, s) := by
  have hDW : past n m (wts s) R pc pl ≤ past n m (wts s) R pc 0 := past_mo (Nat.zero_le _)
  intro d
  induction d with
  | zero =>
    intro x hd
    have hx : x = g := by omega
    subst hx
    refine EL.en (Ev.of fun N => ?_)
    show b_X5_cheapestFlights_56 N (nI pl) (nI x) (nI lc) (nI ic) (nI pc) (lN (W - D)) (lN D) _ _ (nI (x + 1)) s = _
    unfold b_X5_cheapestFlights_56
    rw [if_pos (nI_lt (by omega) (by omega))]
    rfl
  | succ d ih =>
    intro x hd
    have k1 := x_lost (R := R) (q := pl + (x + 1)) hC hp (by omega) (fun c hc hb => Or.inr ((hk c hc hb).le (by omega)))
    have hX : past n m (wts s) R pc (pl + (x + 1)) ≤ past n m (wts s) R pc pl := past_mo (by omega)
    have hc : flC n m (wts s) R pc pl g lc ic (x + 1) = lN (lc * (D - past n m (wts s) R pc (pl + (x + 1))) + ic * (g - (x + 1)) * D) := by
      unfold flC
      rw [hD]
    have hfs : fyS (flC n m (wts s) R pc pl g lc ic) (x + 1) = if flC n m (wts s) R pc pl g lc ic (x + 1) < (fyS (flC n m (wts s) R pc pl g lc ic) x).2 then (nI (x + 1), flC n m (wts s) R pc pl g lc ic (x + 1)) else fyS (flC n m (wts s) R pc pl g lc ic) x := rfl
    rw [hW] at k1
    generalize past n m (wts s) R pc (pl + (x + 1)) = X at k1 hX hc
    generalize hF : fyS (flC n m (wts s) R pc pl g lc ic) x = Y at hfs
    have hv : (nI lc).toInt64 * (lN (W - X) - lN (W - D)) + (nI ic).toInt64 * lN D * (nI g - nI (x + 1)).toInt64 = flC n m (wts s) R pc pl g lc ic (x + 1) := by
      rw [hc, show nI g - nI (x + 1) = nI (g - (x + 1)) from pk_sub (by omega), nI_l hlc, nI_l hic, nI_l (by omega), lN_sub (by omega), show W - X - (W - D) = D - X by omega, lN_mul, lN_mul, lN_mul, lN_add, Nat.mul_right_comm]
    refine EL.st (v' := (((fyS (flC n m (wts s) R pc pl g lc ic) (x + 1)).1, (fyS (flC n m (wts s) R pc pl g lc ic) (x + 1)).2, nI (x + 1 + 1)), s)) (Ev.cg (Ev.bnd k1 (k := fun _ r10 s11 => if 0 ≤ (lg_cmp ((nI lc).toInt64 * (r10 - lN (W - D)) + (nI ic).toInt64 * lN D * (nI g - nI (x + 1)).toInt64) Y.2) then some (Sum.inl ((Y.1, Y.2, nI (x + 1 + 1)), s11)) else some (.inl ((nI (x + 1), (nI lc).toInt64 * (r10 - lN (W - D)) + (nI ic).toInt64 * lN D * (nI g - nI (x + 1)).toInt64, nI (x + 1 + 1)), s11))) (Ev.of fun N => ?_)) fun N => ?_) (ih (x + 1) (by omega))
    · rw [hv, hfs]
      by_cases z : flC n m (wts s) R pc pl g lc ic (x + 1) < Y.2
      · rw [if_pos z, if_neg (fun w => Int64.not_le.mpr z (lg_ge.mp w))]
      · rw [if_neg z, if_pos (lg_ge.mpr (Int64.not_lt.mp z))]
    · show b_X5_cheapestFlights_56 N (nI pl) (nI g) (nI lc) (nI ic) (nI pc) (lN (W - D)) (lN D) Y.1 Y.2 (nI (x + 1)) s = _
      unfold b_X5_cheapestFlights_56 j_X5_cheapestFlights_109
      rw [if_neg (nI_nlt (by omega) (by omega)), nI_add, nI_1 (x + 1)]
theorem m_fly_lp (hC : CorN n m s) {pl g lc ic D : Nat} (hg : pl + g ≤ 2000) (hlc : lc < 2 ^ 31) (hic : ic < 2 ^ 31) (hk : ∀ c, c < n → bit (2 ^ n - 1) c → RnM m R (pl + g) c s) (hD : past n m (wts s) R (2 ^ n - 1) pl = D) : ∀ (d x : Nat) (y : Int32 × Int64), x + d = g + 1 → (x = 0 ∨ ∃ x', x = x' + 1 ∧ y = fyS (flC n m (wts s) R (2 ^ n - 1) pl g lc ic) x') → EL (fun N (v : (Int32 × Int64 × Int32) × cS) => b_X12_fly_100 N (nI g) (nI lc) (nI ic) (nI pl) (lN D) v.1.1 v.1.2.1 v.1.2.2 v.2) ((y.1, y.2, nI x), s) ((fyS (flC n m (wts s) R (2 ^ n - 1) pl g lc ic) g).1, s) := by
  have hlt := all_lt hC.1
  intro d
  induction d with
  | zero =>
    intro x y hd hy
    have hx : x = g + 1 := by omega
    have hy' : y = fyS (flC n m (wts s) R (2 ^ n - 1) pl g lc ic) g := by
      rcases hy with h | ⟨x', h1, h2⟩
      · omega
      · have : x' = g := by omega
        subst this
        exact h2
    subst hx
    refine EL.en (Ev.of fun N => ?_)
    show b_X12_fly_100 N (nI g) (nI lc) (nI ic) (nI pl) (lN D) y.1 y.2 (nI (g + 1)) s = _
    unfold b_X12_fly_100
    rw [if_pos (nI_lt (by omega) (by omega)), hy']
    rfl
  | succ d ih =>
    intro x y hd hy
    have w1 := m_waysLeft (R := R) (q := pl + x) (q' := pl + x) (T := pl + g) hC hlt hg (by omega) (Or.inl ⟨by omega, rfl⟩) hk
    have hX : past n m (wts s) R (2 ^ n - 1) (pl + x) ≤ past n m (wts s) R (2 ^ n - 1) pl := past_mo (by omega)
    have hc : flC n m (wts s) R (2 ^ n - 1) pl g lc ic x = lN (lc * (D - past n m (wts s) R (2 ^ n - 1) (pl + x)) + ic * (g - x) * D) := by
      unfold flC
      rw [hD]
    generalize past n m (wts s) R (2 ^ n - 1) (pl + x) = X at w1 hX hc
    have hv : (nI lc).toInt64 * (lN D - lN X) + (nI ic).toInt64 * (nI g - nI x).toInt64 * lN D = flC n m (wts s) R (2 ^ n - 1) pl g lc ic x := by
      rw [hc, show nI g - nI x = nI (g - x) from pk_sub (by omega), nI_l hlc, nI_l hic, nI_l (by omega), lN_sub (by omega), lN_mul, lN_mul, lN_mul, lN_add]
    have hgo : ∀ {q}, Ev (fun _ => if nI x ≤ 0 then some (Sum.inl ((nI x, flC n m (wts s) R (2 ^ n - 1) pl g lc ic x, nI (x + 1)), s)) else if (lg_cmp (flC n m (wts s) R (2 ^ n - 1) pl g lc ic x) y.2) < 0 then some (.inl ((nI x, flC n m (wts s) R (2 ^ n - 1) pl g lc ic x, nI (x + 1)), s)) else some (.inl ((y.1, y.2, nI (x + 1)), s))) q → Ev (fun N => b_X12_fly_100 N (nI g) (nI lc) (nI ic) (nI pl) (lN D) y.1 y.2 (nI x) s) q := by
      intro q hq
      refine Ev.cg (Ev.bnd w1 (k := fun _ r23 s24 => if nI x ≤ 0 then some (Sum.inl ((nI x, (nI lc).toInt64 * (lN D - r23) + (nI ic).toInt64 * (nI g - nI x).toInt64 * lN D, nI (x + 1)), s24)) else if (lg_cmp ((nI lc).toInt64 * (lN D - r23) + (nI ic).toInt64 * (nI g - nI x).toInt64 * lN D) y.2) < 0 then some (.inl ((nI x, (nI lc).toInt64 * (lN D - r23) + (nI ic).toInt64 * (nI g - nI x).toInt64 * lN D, nI (x + 1)), s24)) else some (.inl ((y.1, y.2, nI (x + 1)), s24))) ?_) fun N => ?_
      · rw [hv]
        exact hq
      · unfold b_X12_fly_100 j_X12_fly_157 j_X12_fly_165
        rw [if_neg (nI_nlt (by omega) (by omega)), (every_n hC).2, nI_add, nI_1]
    rcases hy with h | ⟨x', h1, h2⟩
    · subst h
      refine EL.st (v' := ((nI 0, flC n m (wts s) R (2 ^ n - 1) pl g lc ic 0, nI (0 + 1)), s)) (hgo (Ev.of fun N => by rw [if_pos (by decide)])) (ih (0 + 1) (nI 0, flC n m (wts s) R (2 ^ n - 1) pl g lc ic 0) (by omega) (Or.inr ⟨0, rfl, rfl⟩))
    · subst h1
      have hfs : fyS (flC n m (wts s) R (2 ^ n - 1) pl g lc ic) (x' + 1) = if flC n m (wts s) R (2 ^ n - 1) pl g lc ic (x' + 1) < (fyS (flC n m (wts s) R (2 ^ n - 1) pl g lc ic) x').2 then (nI (x' + 1), flC n m (wts s) R (2 ^ n - 1) pl g lc ic (x' + 1)) else fyS (flC n m (wts s) R (2 ^ n - 1) pl g lc ic) x' := rfl
      rw [← h2] at hfs
      refine EL.st (v' := (((fyS (flC n m (wts s) R (2 ^ n - 1) pl g lc ic) (x' + 1)).1, (fyS (flC n m (wts s) R (2 ^ n - 1) pl g lc ic) (x' + 1)).2, nI (x' + 1 + 1)), s)) (hgo (Ev.of fun N => ?_)) (ih (x' + 1 + 1) _ (by omega) (Or.inr ⟨x' + 1, rfl, rfl⟩))
      rw [if_neg (nI_nle (by omega) (by omega)), hfs]
      by_cases z : flC n m (wts s) R (2 ^ n - 1) pl g lc ic (x' + 1) < y.2
      · rw [if_pos z, if_pos (lg_lt.mpr z)]
      · rw [if_neg z, if_neg (fun w => z (lg_lt.mp w))]
end
section
variable {K : List Cl} {n nt st : Nat} {m : Nat → Nat} {P : Nat → List (Nat × Nat)} {s : cS}
theorem m_fly (h : AllI K n m P nt st s) (a0 a1 a2 a3 a4 : Int32) : ∃ r s1 s2, r_X11_fly a0 a1 a2 a3 a4 s r s1 ∧ r_X12_fly a0 a1 a2 a3 a4 s1 r s2 ∧ AllI K n m P nt st s2 ∧ Fw odP s s2 := by
  have h0 := h
  obtain ⟨hC, hL, hP, hO⟩ := h
  have hn8 := hC.1
  have hnone : f_X11_fly 0 a0 a1 a2 a3 a4 s = some (-1, s) → f_X12_fly 0 a0 a1 a2 a3 a4 s = some (-1, s) → ∃ r s1 s2, r_X11_fly a0 a1 a2 a3 a4 s r s1 ∧ r_X12_fly a0 a1 a2 a3 a4 s1 r s2 ∧ AllI K n m P nt st s2 ∧ Fw odP s s2 := fun h1 h2 => ⟨-1, s, s, ⟨0, h1⟩, ⟨0, h2⟩, h0, Fw.rf⟩
  have hL2 : lIn a2.toInt64 (0 : Int64) (200 : Int64) = wB a2 0 200 := lIn_w (a' := 0) (b' := 200) rfl rfl
  have hL3 : lIn a3.toInt64 (0 : Int64) (1000000 : Int64) = wB a3 0 1000000 := lIn_w (a' := 0) (b' := 1000000) rfl rfl
  have hL4 : lIn a4.toInt64 (0 : Int64) (1000 : Int64) = wB a4 0 1000 := lIn_w (a' := 0) (b' := 1000) rfl rfl
  have hfly := can_fly hP a0 a1 a2
  have hpr : ∃ x, f_X11_programOf a0 s = some (x, s) := by
    rcases hfly with ⟨x, q1, -⟩ | ⟨j, f, -, -, -, -, -, q1, -⟩
    · exact ⟨x, q1⟩
    · exact ⟨_, q1⟩
  have hfl2 : (∃ v, ∀ t : cS, (∀ k, iG t 220 k = iG s 220 k) → f_X12_canFly a0 a1 a2 t = some (v, t)) := by
    rcases hfly with ⟨x, -, -, q3⟩ | ⟨j, f, -, -, -, -, -, -, -, q3⟩
    · exact ⟨0, q3⟩
    · exact ⟨1, q3⟩
  by_cases c2 : wB a2 0 200 = 0
  · refine hnone ?_ ?_
    · obtain ⟨x, q1⟩ := hpr
      unfold f_X11_fly
      rw [q1, ob_mk, if_pos c2]
    · unfold f_X12_fly
      rw [hL2, if_pos c2]
  · by_cases c3 : wB a3 0 1000000 = 0
    · refine hnone ?_ ?_
      · obtain ⟨x, q1⟩ := hpr
        unfold f_X11_fly
        rw [q1, ob_mk, if_neg c2, if_pos c3]
      · obtain ⟨v, q3⟩ := hfl2
        unfold f_X12_fly
        rw [hL2, if_neg c2, q3 s (fun _ => rfl), ob_mk, hL3, if_pos c3, ite_self]
    · by_cases c4 : wB a4 0 1000 = 0
      · refine hnone ?_ ?_
        · obtain ⟨x, q1⟩ := hpr
          unfold f_X11_fly
          rw [q1, ob_mk, if_neg c2, if_neg c3, if_pos c4]
        · obtain ⟨v, q3⟩ := hfl2
          unfold f_X12_fly
          rw [hL2, if_neg c2, q3 s (fun _ => rfl), ob_mk, hL3, if_neg c3, hL4, if_pos c4, ite_self]
      · rcases hfly with ⟨x, q1, q2, q3⟩ | ⟨j, f, hj, rfl, rfl, hf, c1, q1, q2, q3⟩
        · refine hnone ?_ ?_
          · unfold f_X11_fly
            rw [q1, ob_mk, if_neg c2, if_neg c3, if_neg c4, q2, ob_mk, if_pos rfl]
          · unfold f_X12_fly
            rw [hL2, if_neg c2, q3 s (fun _ => rfl), ob_mk, if_pos rfl]
        · obtain ⟨lc, -, hlc, rfl⟩ := wB_out (m := 0) (n := 1000000) (by decide) (by decide) c3
          obtain ⟨ic, -, hic, rfl⟩ := wB_out (m := 0) (n := 1000) (by decide) (by decide) c4
          have hev := every_n hC
          have hR0 : RNP K s a1 (txP P j) = RNP K s a1 (P j) := by rw [txP8 (by omega)]
          obtain ⟨s1, b1, b2, b3, b4, b5⟩ := odd_X (tx := j) (p := a1) (tot := pls (P j) + f) h0 hf (all_lt hn8) (Or.inl (by omega))
          rw [hR0] at b4
          have h220 : ∀ k, iG s1 220 k = iG s 220 k := fun k => b5.int (by unfold prpP; omega)
          obtain ⟨s2, e1, e2, e3, e4, e5⟩ := odd_M (prog := nI j) (p := a1) (ps := P j) (fl := f) b2 (Or.inl ⟨j, by omega, rfl, (b2.2.2.1.1 j (by omega)).2⟩) hf (all_lt hn8)
          rw [prp_R b5] at e4
          have hF : Fw odP s s2 := (b5.mo fun o k y => Or.inl y).tr (e5.mo fun o k y => Or.inr y)
          have hev1 := every_n b2.1
          have hev2 := every_n e2.1
          have hin : inb (nI j) 16 := (inb_n (by omega)).mpr (by omega)
          have hcl : (nI j).toNatClampNeg = j := nI_clamp (by omega)
          have hp2 : iG s2 220 j = nI (pls (P j)) := (e2.2.2.1.1 j (by omega)).2.2.2.1
          have k1 := x_lost (R := RNP K s a1 (P j)) (q := pls (P j)) b2.1 (all_lt hn8) (by omega) (fun c hc hb => Or.inr ((b4 c hc hb).le (by omega)))
          have k2 := x_ways (R := RNP K s a1 (P j)) b2.1 (all_lt hn8)
          have w1 := m_waysLeft (R := RNP K s a1 (P j)) (q := pls (P j)) (q' := pls (P j)) (T := pls (P j) + f) e2.1 (all_lt hn8) hf (by omega) (Or.inl ⟨by omega, rfl⟩) e4
          have hW := past_bd (n := n) (m := m) (w := wts s1) (P := RNP K s a1 (P j)) (pc := 2 ^ n - 1) (q := 0) hn8 (fun c hc => b2.1.m4 (by omega)) (fun c i hc hi => (b2.1.wt (by omega) hi).2.2.2)
          have hD0 : past n m (wts s1) (RNP K s a1 (P j)) (2 ^ n - 1) (pls (P j)) ≤ past n m (wts s1) (RNP K s a1 (P j)) (2 ^ n - 1) 0 := past_mo (Nat.zero_le _)
          generalize hWe : past n m (wts s1) (RNP K s a1 (P j)) (2 ^ n - 1) 0 = W at k1 k2 hW hD0
          generalize hDe : past n m (wts s1) (RNP K s a1 (P j)) (2 ^ n - 1) (pls (P j)) = D at k1 hD0
          have hDe2 : past n m (wts s2) (RNP K s a1 (P j)) (2 ^ n - 1) (pls (P j)) = D := by rw [e3, hDe]
          rw [hDe2] at w1
          have e0 : lN W - lN (W - D) = lN D := by
            rw [lN_sub (by omega)]
            congr 1
            omega
          have hXp : ∀ {q : Int32 × cS}, Ev (fun N => if (lg_cmp (lN D) (0 : Int64)) = 0 then some ((-2 : Int32), s1) else w_X5_cheapestFlights_56 N (nI (pls (P j))) (nI f) (nI lc) (nI ic) (nI (2 ^ n - 1)) (lN (W - D)) (lN D) 0 (((nI ic).toInt64 * lN D) * (nI f).toInt64) 1 s1) q → Ev (fun N => f_X11_fly N (nI j) a1 (nI f) (nI lc) (nI ic) s) q := by
            intro q hk
            have hcf : Ev (fun N => f_X5_cheapestFlights N (nI (pls (P j))) (nI f) (nI lc) (nI ic) s1) q := by
              refine Ev.cg (Ev.bnd k1 (k := fun N r2 s3 => ob (f_X5_ways N (nI (2 ^ n - 1)) s3) fun r5 s6 => if (lg_cmp (r5 - r2) (0 : Int64)) = 0 then some ((-2 : Int32), s6) else w_X5_cheapestFlights_56 N (nI (pls (P j))) (nI f) (nI lc) (nI ic) (nI (2 ^ n - 1)) r2 (r5 - r2) 0 (((nI ic).toInt64 * (r5 - r2)) * (nI f).toInt64) 1 s6) (Ev.bnd k2 ?_)) fun N => ?_
              · rw [e0]
                exact hk
              · unfold f_X5_cheapestFlights
                rw [hev1.1]
            refine Ev.cg (Ev.bnd b1 (k := fun N _ s19 => ob (f_X11_pullsOf (some (txT j)) s19) fun r21 s22 => ob (f_X5_cheapestFlights N r21 (nI f) (nI lc) (nI ic) s22) fun r24 s25 => some (r24, s25)) ?_) fun N => ?_
            · rw [pulls_of b2.2.2.1 hj]
              obtain ⟨q1, q2⟩ := q
              exact Ev.cg (Ev.bnd hcf (k := fun _ r24 s25 => some (r24, s25)) (Ev.of fun N => rfl)) fun N => rfl
            · unfold f_X11_fly
              rw [q1, ob_mk, if_neg c2, if_neg c3, if_neg c4, q2, ob_mk, if_neg (by decide), pulls_of hP hj, ob_mk, hev.1, nI_add]
          have hMp : ∀ {q : Int32 × cS}, Ev (fun N => if (lg_cmp (lN D) (0 : Int64)) = 0 then some ((-2 : Int32), s2) else w_X12_fly_100 N (nI f) (nI lc) (nI ic) (nI (pls (P j))) (lN D) 0 0 0 s2) q → Ev (fun N => f_X12_fly N (nI j) a1 (nI f) (nI lc) (nI ic) s1) q := by
            intro q hk
            refine Ev.cg (Ev.bnd e1 (k := fun N _ s13 => ob (f_X12_waysLeft N (f_X12_whole s13) (iG s13 220 j) s13) fun r17 s18 => if (lg_cmp r17 (0 : Int64)) = 0 then some ((-2 : Int32), s18) else w_X12_fly_100 N (nI f) (nI lc) (nI ic) (iG s13 220 j) r17 0 0 0 s18) ?_) fun N => ?_
            · rw [hev2.2, hp2]
              exact Ev.bnd w1 hk
            · unfold f_X12_fly
              rw [hL2, if_neg c2, q3 s1 h220, ob_mk, if_neg (by decide), hL3, if_neg c3, hL4, if_neg c4, hev1.2]
              simp only [if_pos hin, hcl]
          by_cases z : D = 0
          · have hz : (lg_cmp (lN D) (0 : Int64)) = 0 := lg_eq.mpr ((lN_z (by omega)).mpr z)
            exact ⟨-2, s1, s2, (hXp (Ev.of fun N => by rw [if_pos hz])).ex, (hMp (Ev.of fun N => by rw [if_pos hz])).ex, e2, hF⟩
          · have hz : ¬ (lg_cmp (lN D) (0 : Int64)) = 0 := fun w => z ((lN_z (by omega)).mp (lg_eq.mp w))
            have hx := x_fly_lp (R := RNP K s a1 (P j)) (g := f) (lc := lc) (ic := ic) b2.1 (all_lt hn8) hf (by omega) (by omega) b4 hWe hDe f 0 (by omega)
            have hm := m_fly_lp (R := RNP K s a1 (P j)) (g := f) (lc := lc) (ic := ic) e2.1 hf (by omega) (by omega) e4 hDe2 (f + 1) 0 (0, 0) (by omega) (Or.inl rfl)
            rw [e3] at hm
            have hc0 : flC n m (wts s1) (RNP K s a1 (P j)) (2 ^ n - 1) (pls (P j)) f lc ic 0 = ((nI ic).toInt64 * lN D) * (nI f).toInt64 := by
              unfold flC
              rw [hDe, Nat.add_zero, hDe, Nat.sub_self, Nat.mul_zero, Nat.zero_add, Nat.sub_zero, nI_l (by omega), nI_l (by omega), lN_mul, lN_mul, Nat.mul_right_comm]
            refine ⟨_, s1, s2, (hXp (Ev.cg hx.ev fun N => ?_)).ex, (hMp (Ev.cg hm.ev fun N => ?_)).ex, e2, hF⟩
            · rw [if_neg hz, ← hc0]
              rfl
            · rw [if_neg hz]
              rfl
end
