/-! likely, off -/
def GdP (n : Nat) (m : Nat → Nat) (w : Nat → Nat → Nat) (R : Nat → Nat → Nat → Bool) (pc pl th q : Nat) : Prop := th * past n m w R pc pl ≤ (past n m w R pc pl - past n m w R pc q) * 1000
def BSt (F : Nat → Nat → Nat) (G : Nat → Prop) (pl : Nat) (V : Nat → Nat → Prop) (best : Int32) : Prop := (best = -2 ∧ ∀ c i, V c i → pl < F c i → ¬ G (F c i)) ∨ ∃ d, best = nI d ∧ 1 ≤ d ∧ pl + d ≤ 2000 ∧ G (pl + d) ∧ ∀ c i, V c i → pl < F c i → G (F c i) → pl + d ≤ F c i
def LkR (G : Nat → Prop) (pl : Nat) (r : Int32) : Prop := (r = -2 ∧ ∀ q, pl ≤ q → q ≤ 2000 → ¬ G q) ∨ ∃ d, r = nI d ∧ pl + d ≤ 2000 ∧ G (pl + d) ∧ ∀ q, pl ≤ q → q < pl + d → ¬ G q
theorem BSt.mo {F : Nat → Nat → Nat} {G : Nat → Prop} {pl : Nat} {V V' : Nat → Nat → Prop} {best : Int32} (h : BSt F G pl V best) (hV : ∀ c i, V' c i → V c i) : BSt F G pl V' best := by
  rcases h with ⟨a, b⟩ | ⟨d, a, b, c, e, f⟩
  · exact Or.inl ⟨a, fun c i z => b c i (hV c i z)⟩
  · exact Or.inr ⟨d, a, b, c, e, fun c i z => f c i (hV c i z)⟩
theorem BSt.sk {F : Nat → Nat → Nat} {G : Nat → Prop} {pl c0 i0 : Nat} {V : Nat → Nat → Prop} {best : Int32} (h : BSt F G pl V best) (hs : F c0 i0 ≤ pl ∨ ¬ G (F c0 i0) ∨ (¬ best < 0 ∧ best ≤ nI (F c0 i0 - pl) ∧ F c0 i0 ≤ 2000)) : BSt F G pl (fun c i => V c i ∨ (c = c0 ∧ i = i0)) best := by
  rcases h with ⟨a, b⟩ | ⟨d, a, b, c, e, f⟩
  · refine Or.inl ⟨a, fun c i z y => ?_⟩
    rcases z with z | ⟨rfl, rfl⟩
    · exact b c i z y
    · rcases hs with hs | hs | hs
      · omega
      · exact hs
      · exfalso
        rw [a] at hs
        exact hs.1 (by decide)
  · refine Or.inr ⟨d, a, b, c, e, fun c i z y x => ?_⟩
    rcases z with z | ⟨rfl, rfl⟩
    · exact f c i z y x
    · rcases hs with hs | hs | hs
      · omega
      · exact absurd x hs
      · rw [a] at hs
        have := (nI_leI (by omega) (by omega)).mp hs.2.1
        omega
theorem BSt.up {F : Nat → Nat → Nat} {G : Nat → Prop} {pl c0 i0 : Nat} {V : Nat → Nat → Prop} {best : Int32} (h : BSt F G pl V best) (h1 : pl < F c0 i0) (h2 : F c0 i0 ≤ 2000) (hg : G (F c0 i0)) (hs : best < 0 ∨ ¬ best ≤ nI (F c0 i0 - pl)) : BSt F G pl (fun c i => V c i ∨ (c = c0 ∧ i = i0)) (nI (F c0 i0 - pl)) := by
  have e : pl + (F c0 i0 - pl) = F c0 i0 := by omega
  refine Or.inr ⟨F c0 i0 - pl, rfl, by omega, by omega, by rw [e]; exact hg, fun c i z y x => ?_⟩
  rw [e]
  rcases z with z | ⟨rfl, rfl⟩
  · rcases h with ⟨a, b⟩ | ⟨d, a, b, k, l, f⟩
    · exact absurd x (b c i z y)
    · have h3 := f c i z y x
      rcases hs with hs | hs
      · rw [a] at hs
        exact absurd hs (nI_pos (by omega))
      · rw [a] at hs
        have : ¬ d ≤ F c0 i0 - pl := fun w => hs (nI_le w (by omega))
        omega
  · exact Nat.le_refl _
/-- both say the same -/
theorem lk_same {n pl th pc : Nat} {m : Nat → Nat} {w : Nat → Nat → Nat} {R : Nat → Nat → Nat → Bool} {r r' : Int32} (hth : 1 ≤ th) (hD : past n m w R pc pl ≠ 0) (h : BSt (fun c i => fst1 (R c i) 2000) (GdP n m w R pc pl th) pl (fun c i => bit pc c ∧ i < m c ∧ c < n) r) (h' : LkR (GdP n m w R pc pl th) pl r') : r = r' := by
  have hG0 : ¬ GdP n m w R pc pl th pl := by
    unfold GdP
    rw [Nat.sub_self, Nat.zero_mul]
    have : 0 < th * past n m w R pc pl := Nat.mul_pos (by omega) (by omega)
    omega
  rcases h' with ⟨rfl, h2⟩ | ⟨d0, rfl, h2, h3, h4⟩
  · rcases h with ⟨a, -⟩ | ⟨d, a, b, c, e, f⟩
    · exact a
    · exact absurd e (h2 _ (by omega) c)
  · have hd0 : 1 ≤ d0 := by
      rcases Nat.eq_zero_or_pos d0 with z | z
      · subst z
        exact absurd h3 hG0
      · exact z
    have hch : past n m w R pc (pl + d0 - 1 + 1) ≠ past n m w R pc (pl + d0 - 1) := by
      intro z
      apply h4 (pl + d0 - 1) (by omega) (by omega)
      unfold GdP at h3 ⊢
      rw [← z, show pl + d0 - 1 + 1 = pl + d0 by omega]
      exact h3
    obtain ⟨c, i, k1, k2, k3, k4⟩ := past_ch hch
    have hF : fst1 (R c i) 2000 = pl + d0 := by
      rw [k4 2000 (by omega)]
      omega
    rcases h with ⟨-, b⟩ | ⟨d, rfl, b, l, e, f⟩
    · exfalso
      exact b c i ⟨k2, k3, k1⟩ (by show pl < fst1 (R c i) 2000; omega) (by show GdP n m w R pc pl th (fst1 (R c i) 2000); rw [hF]; exact h3)
    · have := f c i ⟨k2, k3, k1⟩ (by show pl < fst1 (R c i) 2000; omega) (by show GdP n m w R pc pl th (fst1 (R c i) 2000); rw [hF]; exact h3)
      have hle : pl + d ≤ pl + d0 := by
        have h5 : pl + d ≤ fst1 (R c i) 2000 := this
        omega
      have hge : ¬ pl + d < pl + d0 := fun z => h4 (pl + d) (Nat.le_add_right _ _) z e
      have hdd : d = d0 := Nat.add_left_cancel (Nat.le_antisymm hle (Nat.not_lt.mp hge))
      rw [hdd]
section
variable {n : Nat} {m : Nat → Nat} {R : Nat → Nat → Nat → Bool} {s : cS}
theorem kn2000 {c : Nat} (h : KnO m R 2000 c s) : ∀ i, i < m c → iG s 118 (4 * c + i) = nI (fst1 (R c i) 2000) := by
  obtain ⟨tt, a, b, d⟩ := h
  have : tt = 2000 := by omega
  subst this
  exact d
theorem x_ft_in (hC : CorN n m s) {pc pl th c W D : Nat} (hp : pc < 2 ^ 31) (hpl : pl ≤ 2000) (hth : th ≤ 1000) (hk : ∀ c, c < n → bit pc c → KnO m R 2000 c s) (hc : c < n) (hb : bit pc c) (hW : past n m (wts s) R pc 0 = W) (hD : past n m (wts s) R pc pl = D) : ∀ (d i : Nat) (best : Int32), i + d = m c → BSt (fun c i => fst1 (R c i) 2000) (GdP n m (wts s) R pc pl th) pl (fun c' i' => bit pc c' ∧ i' < m c' ∧ (c' < c ∨ c' = c ∧ i' < i)) best → ∃ best', EL (fun N (v : (Int32 × Int32) × cS) => b_X5_flightsTill_50 N (nI pc) (nI pl) (nI th) (lN (W - D)) (lN D) (nI c) v.1.1 v.1.2 v.2) ((best, nI i), s) (.inl ((best', nI (c + 1)), s)) ∧ BSt (fun c i => fst1 (R c i) 2000) (GdP n m (wts s) R pc pl th) pl (fun c' i' => bit pc c' ∧ i' < m c' ∧ c' < c + 1) best' := by
  have hn8 := hC.1
  have hm4 := hC.m4 (show c < 8 by omega)
  have h8 := (hC.2.2.2.1 c (by omega)).2.2.2.2.1
  have hl : f_X1_livesOf (nI c) s = nI (m c) := by
    unfold f_X1_livesOf
    rw [aA_n (by omega) (by omega), h8]
  have hin := x_isIn (s := s) hp (show c < 8 by omega)
  rw [if_pos hb] at hin
  have hWb := past_bd (n := n) (m := m) (w := wts s) (P := R) (pc := pc) (q := 0) hn8 (fun c hc => hC.m4 (by omega)) (fun c i hc hi => (hC.wt (by omega) hi).2.2.2)
  have hDW : past n m (wts s) R pc pl ≤ past n m (wts s) R pc 0 := past_mo (Nat.zero_le _)
  intro d
  induction d with
  | zero =>
    intro i best hd hS
    refine ⟨best, EL.en (Ev.of fun N => ?_), hS.mo fun c' i' ⟨z1, z2, z3⟩ => ⟨z1, z2, ?_⟩⟩
    · show b_X5_flightsTill_50 N (nI pc) (nI pl) (nI th) (lN (W - D)) (lN D) (nI c) best (nI i) s = _
      unfold b_X5_flightsTill_50 j_X5_flightsTill_156
      rw [hl, if_pos (nI_le (by omega) (by omega)), nI_1]
      rfl
    · by_cases y : c' = c
      · subst y
        exact Or.inr ⟨rfl, by omega⟩
      · exact Or.inl (by omega)
  | succ d ih =>
    intro i best hd hS
    have hr := kn2000 (hk c hc hb) i (by omega)
    have hle := fst1_le (R c i) 2000
    generalize hFe : fst1 (R c i) 2000 = Fv at hr hle
    have hB : ∀ N, b_X5_flightsTill_50 N (nI pc) (nI pl) (nI th) (lN (W - D)) (lN D) (nI c) best (nI i) s = if nI Fv ≤ nI pl then some (.inl ((best, nI (i + 1)), s)) else if best < 0 then j_X5_flightsTill_109 N (nI pc) (nI pl) (nI th) (lN (W - D)) (lN D) best (nI c) (nI i) (nI Fv) s else if best ≤ nI Fv - nI pl then some (.inl ((best, nI (i + 1)), s)) else j_X5_flightsTill_109 N (nI pc) (nI pl) (nI th) (lN (W - D)) (lN D) best (nI c) (nI i) (nI Fv) s := by
      intro N
      unfold b_X5_flightsTill_50 j_X5_flightsTill_113 j_X5_flightsTill_114 j_X5_flightsTill_150
      rw [hl, if_neg (nI_ge (by omega) (by omega)), hin, if_neg (by decide), ix4, aA_n (by omega) (by omega), hr, if_pos rfl, nI_1]
    have hnx : ∀ {b2 : Int32}, BSt (fun c i => fst1 (R c i) 2000) (GdP n m (wts s) R pc pl th) pl (fun c' i' => (bit pc c' ∧ i' < m c' ∧ (c' < c ∨ c' = c ∧ i' < i)) ∨ (c' = c ∧ i' = i)) b2 → Ev (fun N => b_X5_flightsTill_50 N (nI pc) (nI pl) (nI th) (lN (W - D)) (lN D) (nI c) best (nI i) s) (.inl ((b2, nI (i + 1)), s)) → ∃ best', EL (fun N (v : (Int32 × Int32) × cS) => b_X5_flightsTill_50 N (nI pc) (nI pl) (nI th) (lN (W - D)) (lN D) (nI c) v.1.1 v.1.2 v.2) ((best, nI i), s) (.inl ((best', nI (c + 1)), s)) ∧ BSt (fun c i => fst1 (R c i) 2000) (GdP n m (wts s) R pc pl th) pl (fun c' i' => bit pc c' ∧ i' < m c' ∧ c' < c + 1) best' := by
      intro b2 h2 h3
      obtain ⟨best', k1, k2⟩ := ih (i + 1) b2 (by omega) (h2.mo fun c' i' ⟨z1, z2, z3⟩ => by
        by_cases y : c' = c ∧ i' = i
        · exact Or.inr y
        · exact Or.inl ⟨z1, z2, by omega⟩)
      exact ⟨best', EL.st (v' := ((b2, nI (i + 1)), s)) h3 k1, k2⟩
    by_cases c1 : Fv ≤ pl
    · refine hnx (hS.sk (Or.inl (by show fst1 (R c i) 2000 ≤ pl; omega))) (Ev.of fun N => ?_)
      rw [hB, if_pos (nI_le c1 (by omega))]
    · have c1' : ¬ nI Fv ≤ nI pl := nI_ge (by omega) (by omega)
      have hsub : nI Fv - nI pl = nI (Fv - pl) := pk_sub (by omega)
      by_cases c2 : ¬ best < 0 ∧ best ≤ nI (Fv - pl)
      · refine hnx (hS.sk (Or.inr (Or.inr ⟨c2.1, by show best ≤ nI (fst1 (R c i) 2000 - pl); rw [hFe]; exact c2.2, by show fst1 (R c i) 2000 ≤ 2000; omega⟩))) (Ev.of fun N => ?_)
        rw [hB, if_neg c1', if_neg c2.1, hsub, if_pos c2.2]
      · have hj : ∀ N, b_X5_flightsTill_50 N (nI pc) (nI pl) (nI th) (lN (W - D)) (lN D) (nI c) best (nI i) s = j_X5_flightsTill_109 N (nI pc) (nI pl) (nI th) (lN (W - D)) (lN D) best (nI c) (nI i) (nI Fv) s := by
          intro N
          rw [hB, if_neg c1', hsub]
          by_cases y : best < 0
          · rw [if_pos y]
          · rw [if_neg y, if_neg (fun w => c2 ⟨y, w⟩)]
        have k1 := x_lost (R := R) (q := Fv) hC hp (by omega) (fun c hc hb => Or.inr ((hk c hc hb).le hle))
        have hFD : past n m (wts s) R pc Fv ≤ past n m (wts s) R pc pl := past_mo (by omega)
        have hGd : GdP n m (wts s) R pc pl th Fv ↔ th * D ≤ (D - past n m (wts s) R pc Fv) * 1000 := by
          unfold GdP
          rw [hD]
        rw [hW] at k1
        generalize past n m (wts s) R pc Fv = X at k1 hFD hGd
        have hTD : th * D ≤ 1000 * D := Nat.mul_le_mul_right _ hth
        have hcmp : (lg_cmp ((lN (W - X) - lN (W - D)) * (1000 : Int64)) ((nI th).toInt64 * lN D)) < 0 ↔ ¬ GdP n m (wts s) R pc pl th Fv := by
          rw [hGd, lN_sub (by omega), show W - X - (W - D) = D - X by omega, show (1000 : Int64) = lN 1000 from rfl, lN_mul, nI_l (by omega), lN_mul, lg_lt, lN_ltn (by omega) (by omega)]
          omega
        have hgo : ∀ {q}, Ev (fun _ => if (lg_cmp ((lN (W - X) - lN (W - D)) * (1000 : Int64)) ((nI th).toInt64 * lN D)) < 0 then some (Sum.inl ((best, nI (i + 1)), s)) else some (.inl ((nI (Fv - pl), nI (i + 1)), s))) q → Ev (fun N => b_X5_flightsTill_50 N (nI pc) (nI pl) (nI th) (lN (W - D)) (lN D) (nI c) best (nI i) s) q := by
          intro q hq
          refine Ev.cg (Ev.bnd k1 (k := fun _ r17 s18 => if (lg_cmp ((r17 - lN (W - D)) * (1000 : Int64)) ((nI th).toInt64 * lN D)) < 0 then some (Sum.inl ((best, nI (i + 1)), s18)) else some (.inl ((nI (Fv - pl), nI (i + 1)), s18))) hq) fun N => ?_
          rw [hj]
          unfold j_X5_flightsTill_109 j_X5_flightsTill_114 j_X5_flightsTill_150
          rw [if_neg (by decide), hsub, nI_1]
        by_cases c3 : GdP n m (wts s) R pc pl th Fv
        · have hu := hS.up (c0 := c) (i0 := i) (by show pl < fst1 (R c i) 2000; omega) (by show fst1 (R c i) 2000 ≤ 2000; omega) (by show GdP n m (wts s) R pc pl th (fst1 (R c i) 2000); rw [hFe]; exact c3) (by
            show best < 0 ∨ ¬ best ≤ nI (fst1 (R c i) 2000 - pl)
            rw [hFe]
            by_cases y : best < 0
            · exact Or.inl y
            · exact Or.inr fun w => c2 ⟨y, w⟩)
          have hu' : BSt (fun c i => fst1 (R c i) 2000) (GdP n m (wts s) R pc pl th) pl (fun c' i' => (bit pc c' ∧ i' < m c' ∧ (c' < c ∨ c' = c ∧ i' < i)) ∨ (c' = c ∧ i' = i)) (nI (Fv - pl)) := by
            rw [← hFe]
            exact hu
          refine hnx hu' (hgo (Ev.of fun N => ?_))
          rw [if_neg (fun w => hcmp.mp w c3)]
        · refine hnx (hS.sk (Or.inr (Or.inl (by show ¬ GdP n m (wts s) R pc pl th (fst1 (R c i) 2000); rw [hFe]; exact c3)))) (hgo (Ev.of fun N => ?_))
          rw [if_pos (hcmp.mpr c3)]
theorem x_flights (hC : CorN n m s) {pc pl th : Nat} (hp : pc < 2 ^ 31) (hpl : pl ≤ 2000) (hth : th ≤ 1000) (hk : ∀ c, c < n → bit pc c → KnO m R 2000 c s) : ∃ r, Ev (fun N => f_X5_flightsTill N (nI pc) (nI pl) (nI th) s) (r, s) ∧ ((past n m (wts s) R pc pl = 0 ∧ r = -2) ∨ (past n m (wts s) R pc pl ≠ 0 ∧ BSt (fun c i => fst1 (R c i) 2000) (GdP n m (wts s) R pc pl th) pl (fun c i => bit pc c ∧ i < m c ∧ c < n) r)) := by
  have hn8 := hC.1
  have hWb := past_bd (n := n) (m := m) (w := wts s) (P := R) (pc := pc) (q := 0) hn8 (fun c hc => hC.m4 (by omega)) (fun c i hc hi => (hC.wt (by omega) hi).2.2.2)
  have hDW : past n m (wts s) R pc pl ≤ past n m (wts s) R pc 0 := past_mo (Nat.zero_le _)
  have k1 := x_lost (R := R) (q := pl) hC hp (by omega) (fun c hc hb => Or.inr ((hk c hc hb).le hpl))
  have k2 := x_ways (R := R) hC hp
  generalize hD : past n m (wts s) R pc pl = D at *
  generalize hW : past n m (wts s) R pc 0 = W at *
  have e0 : lN W - lN (W - D) = lN D := by
    rw [lN_sub (by omega)]
    congr 1
    omega
  have hgo : ∀ {q}, Ev (fun N => if (lg_cmp (lN D) (0 : Int64)) = 0 then some ((-2 : Int32), s) else w_X5_flightsTill_35 N (nI pc) (nI pl) (nI th) (lN (W - D)) (lN D) (-2) 0 s) q → Ev (fun N => f_X5_flightsTill N (nI pc) (nI pl) (nI th) s) q := by
    intro q hq
    refine Ev.cg (Ev.bnd k1 (k := fun N r1 s2 => ob (f_X5_ways N (nI pc) s2) fun r4 s5 => if (lg_cmp (r4 - r1) (0 : Int64)) = 0 then some ((-2 : Int32), s5) else w_X5_flightsTill_35 N (nI pc) (nI pl) (nI th) r1 (r4 - r1) (-2) 0 s5) (Ev.bnd k2 ?_)) fun N => rfl
    rw [e0]
    exact hq
  by_cases z : D = 0
  · exact ⟨-2, hgo (Ev.of fun N => by rw [if_pos (lg_eq.mpr ((lN_z (by omega)).mpr z))]), Or.inl ⟨z, rfl⟩⟩
  · have hz : ¬ (lg_cmp (lN D) (0 : Int64)) = 0 := fun w => z ((lN_z (by omega)).mp (lg_eq.mp w))
    have hl : ∀ (d c : Nat) (best : Int32), c + d = n → BSt (fun c i => fst1 (R c i) 2000) (GdP n m (wts s) R pc pl th) pl (fun c' i' => bit pc c' ∧ i' < m c' ∧ c' < c) best → ∃ r, EL (fun N (v : (Int32 × Int32) × cS) => b_X5_flightsTill_35 N (nI pc) (nI pl) (nI th) (lN (W - D)) (lN D) v.1.1 v.1.2 v.2) ((best, nI c), s) (r, s) ∧ BSt (fun c i => fst1 (R c i) 2000) (GdP n m (wts s) R pc pl th) pl (fun c i => bit pc c ∧ i < m c ∧ c < n) r := by
      intro d
      induction d with
      | zero =>
        intro c best hd hS
        have hcn : c = n := by omega
        subst hcn
        refine ⟨best, EL.en (Ev.of fun N => ?_), hS⟩
        show b_X5_flightsTill_35 N (nI pc) (nI pl) (nI th) (lN (W - D)) (lN D) best (nI c) s = _
        unfold b_X5_flightsTill_35 f_X1_size
        rw [hC.2.1, if_pos (nI_le (Nat.le_refl _) (by omega))]
        rfl
      | succ d ih =>
        intro c best hd hS
        have hB : ∀ N, b_X5_flightsTill_35 N (nI pc) (nI pl) (nI th) (lN (W - D)) (lN D) best (nI c) s = itr (fun (v : (Int32 × Int32) × cS) => b_X5_flightsTill_50 N (nI pc) (nI pl) (nI th) (lN (W - D)) (lN D) (nI c) v.1.1 v.1.2 v.2) N ((best, nI 0), s) := by
          intro N
          unfold b_X5_flightsTill_35 f_X1_size
          rw [hC.2.1, if_neg (nI_ge (by omega) (by omega))]
          rfl
        have hin := x_isIn (s := s) hp (show c < 8 by omega)
        by_cases hb : bit pc c
        · obtain ⟨b2, k3, k4⟩ := x_ft_in hC hp hpl hth hk (show c < n by omega) hb hW hD (m c) 0 best (by omega) (hS.mo fun c' i' ⟨z1, z2, z3⟩ => ⟨z1, z2, by omega⟩)
          obtain ⟨r, k5, k6⟩ := ih (c + 1) b2 (by omega) k4
          exact ⟨r, EL.st (v' := ((b2, nI (c + 1)), s)) (Ev.cg k3.ev hB) k5, k6⟩
        · rw [if_neg hb] at hin
          obtain ⟨r, k5, k6⟩ := ih (c + 1) best (by omega) (hS.mo fun c' i' ⟨z1, z2, z3⟩ => ⟨z1, z2, by
            by_cases y : c' = c
            · subst y
              exact absurd z1 hb
            · omega⟩)
          have hm4 := hC.m4 (show c < 8 by omega)
          have k3 : EL (fun N (v : (Int32 × Int32) × cS) => b_X5_flightsTill_50 N (nI pc) (nI pl) (nI th) (lN (W - D)) (lN D) (nI c) v.1.1 v.1.2 v.2) ((best, nI 0), s) (.inl ((best, nI (c + 1)), s)) := by
            refine EL.en (Ev.of fun N => ?_)
            show b_X5_flightsTill_50 N (nI pc) (nI pl) (nI th) (lN (W - D)) (lN D) (nI c) best (nI 0) s = _
            unfold b_X5_flightsTill_50 j_X5_flightsTill_156
            rw [hin, nI_1]
            split
            · rfl
            · rw [if_pos rfl]
              rfl
          exact ⟨r, EL.st (v' := ((best, nI (c + 1)), s)) (Ev.cg k3.ev hB) k5, k6⟩
    obtain ⟨r, k3, k4⟩ := hl n 0 (-2) (by omega) (Or.inl ⟨rfl, fun c i ⟨_, _, w⟩ => by omega⟩)
    exact ⟨r, hgo (Ev.cg k3.ev fun N => by rw [if_neg hz]; rfl), Or.inr ⟨z, k4⟩⟩
theorem m_lk_lp (hC : CorN n m s) {pc pl th D : Nat} (hp : pc < 2 ^ 31) (hpl : pl ≤ 2000) (hth : th ≤ 1000) (hk : ∀ c, c < n → bit pc c → RnM m R 2000 c s) (hD : past n m (wts s) R pc pl = D) : ∀ (k x : Nat), x + k = 2001 - pl → (∀ q, pl ≤ q → q < pl + x → ¬ GdP n m (wts s) R pc pl th q) → ∃ r, EL (fun N (v : Int32 × cS) => b_X12_likelyOf_42 N (nI pc) (nI th) (nI pl) (lN D) v.1 v.2) (nI x, s) (r, s) ∧ LkR (GdP n m (wts s) R pc pl th) pl r := by
  have hn8 := hC.1
  have hDb := past_bd (n := n) (m := m) (w := wts s) (P := R) (pc := pc) (q := pl) hn8 (fun c hc => hC.m4 (by omega)) (fun c i hc hi => (hC.wt (by omega) hi).2.2.2)
  have hs2 : (2000 : Int32) - nI pl = nI (2000 - pl) := pk_sub (a := 2000) hpl
  intro k
  induction k with
  | zero =>
    intro x hx hno
    refine ⟨-2, EL.en (Ev.of fun N => ?_), Or.inl ⟨rfl, fun q a b => hno q a (by omega)⟩⟩
    show b_X12_likelyOf_42 N (nI pc) (nI th) (nI pl) (lN D) (nI x) s = _
    unfold b_X12_likelyOf_42
    rw [hs2, if_pos (nI_lt (by omega) (by omega))]
    rfl
  | succ k ih =>
    intro x hx hno
    have w1 := m_waysLeft (R := R) (q := pl + x) (q' := pl + x) (T := 2000) hC hp (by omega) (by omega) (Or.inl ⟨by omega, rfl⟩) hk
    have hX : past n m (wts s) R pc (pl + x) ≤ past n m (wts s) R pc pl := past_mo (by omega)
    have hGd : GdP n m (wts s) R pc pl th (pl + x) ↔ th * D ≤ (D - past n m (wts s) R pc (pl + x)) * 1000 := by
      unfold GdP
      rw [hD]
    generalize past n m (wts s) R pc (pl + x) = X at w1 hX hGd
    have hTD : th * D ≤ 1000 * D := Nat.mul_le_mul_right _ hth
    have hcmp : (lg_cmp ((lN D - lN X) * (1000 : Int64)) ((nI th).toInt64 * lN D)) < 0 ↔ ¬ GdP n m (wts s) R pc pl th (pl + x) := by
      rw [hGd, lN_sub (by omega), show (1000 : Int64) = lN 1000 from rfl, lN_mul, nI_l (by omega), lN_mul, lg_lt, lN_ltn (by omega) (by omega)]
      omega
    have hgo : ∀ {q}, Ev (fun _ => if (lg_cmp ((lN D - lN X) * (1000 : Int64)) ((nI th).toInt64 * lN D)) < 0 then some (.inl (nI (x + 1), s)) else some (Sum.inr (nI x, s))) q → Ev (fun N => b_X12_likelyOf_42 N (nI pc) (nI th) (nI pl) (lN D) (nI x) s) q := by
      intro q hq
      refine Ev.cg (Ev.bnd w1 (k := fun _ r12 s13 => if (lg_cmp ((lN D - r12) * (1000 : Int64)) ((nI th).toInt64 * lN D)) < 0 then some (.inl (nI (x + 1), s13)) else some (Sum.inr (nI x, s13))) hq) fun N => ?_
      unfold b_X12_likelyOf_42
      rw [hs2, if_neg (nI_nlt (by omega) (by omega)), nI_add, nI_1]
      rfl
    by_cases g : GdP n m (wts s) R pc pl th (pl + x)
    · refine ⟨nI x, EL.en (hgo (Ev.of fun N => ?_)), Or.inr ⟨x, rfl, by omega, g, hno⟩⟩
      rw [if_neg (fun w => hcmp.mp w g)]
    · obtain ⟨r, k1, k2⟩ := ih (x + 1) (by omega) (fun q a b => by
        by_cases z : q = pl + x
        · subst z; exact g
        · exact hno q a (by omega))
      refine ⟨r, EL.st (v' := (nI (x + 1), s)) (hgo (Ev.of fun N => ?_)) k1, k2⟩
      rw [if_pos (hcmp.mpr g)]
end
section
variable {K : List Cl} {n nt st : Nat} {m : Nat → Nat} {P : Nat → List (Nat × Nat)} {s : cS}
theorem m_likelyOf (h : AllI K n m P nt st s) {pc th : Nat} {prog p : Int32} {ps : List (Nat × Nat)} (hq : prgM prog ps s) (hp2 : pls ps ≤ 2000) (hpc : pc < 2 ^ 31) (hth : th ≤ 1000) : ∃ r s2, Ev (fun N => f_X12_likelyOf N (nI pc) prog p (nI th) s) (r, s2) ∧ AllI K n m P nt st s2 ∧ wts s2 = wts s ∧ Fw allP s s2 ∧ ((past n m (wts s) (RNP K s p ps) pc (pls ps) = 0 ∧ r = -2) ∨ (past n m (wts s) (RNP K s p ps) pc (pls ps) ≠ 0 ∧ LkR (GdP n m (wts s) (RNP K s p ps) pc (pls ps) th) (pls ps) r)) := by
  have hpi : f_X12_pullsIn prog s = some (nI (pls ps), s) := by
    unfold f_X12_pullsIn
    rcases hq with ⟨j, hj, rfl, hP⟩ | ⟨rfl, rfl⟩
    · rw [if_neg (fun z => m1_ne (c := j) (by omega) z.symm), if_pos ((inb_n (by omega)).mpr hj), nI_clamp (by omega), hP.2.2.1]
    · rw [if_pos rfl]
      rfl
  obtain ⟨s2, e1, e2, e3, e4, e5⟩ := odd_M (p := p) (fl := 2000 - pls ps) (pc := pc) h hq (by omega) hpc
  rw [show pls ps + (2000 - pls ps) = 2000 by omega] at e4
  have w1 := m_waysLeft (R := RNP K s p ps) (q := pls ps) (q' := pls ps) (T := 2000) e2.1 hpc (by omega) (by omega) (Or.inl ⟨hp2, rfl⟩) e4
  rw [e3] at w1
  have hDb := past_bd (n := n) (m := m) (w := wts s) (P := RNP K s p ps) (pc := pc) (q := pls ps) h.1.1 (fun c hc => h.1.m4 (by have := h.1.1; omega)) (fun c i hc hi => (h.1.wt (by have := h.1.1; omega) hi).2.2.2)
  have hgo : ∀ {q}, Ev (fun N => if (lg_cmp (lN (past n m (wts s) (RNP K s p ps) pc (pls ps))) (0 : Int64)) = 0 then some ((-2 : Int32), s2) else w_X12_likelyOf_42 N (nI pc) (nI th) (nI (pls ps)) (lN (past n m (wts s) (RNP K s p ps) pc (pls ps))) 0 s2) q → Ev (fun N => f_X12_likelyOf N (nI pc) prog p (nI th) s) q := by
    intro q hk
    refine Ev.cg (Ev.bnd e1 (k := fun N _ s5 => ob (f_X12_waysLeft N (nI pc) (nI (pls ps)) s5) fun r7 s8 => if (lg_cmp r7 (0 : Int64)) = 0 then some ((-2 : Int32), s8) else w_X12_likelyOf_42 N (nI pc) (nI th) (nI (pls ps)) r7 0 s8) (Ev.bnd w1 hk)) fun N => ?_
    unfold f_X12_likelyOf
    rw [hpi, ob_mk, show (2000 : Int32) - nI (pls ps) = nI (2000 - pls ps) from pk_sub (a := 2000) hp2]
  by_cases z : past n m (wts s) (RNP K s p ps) pc (pls ps) = 0
  · exact ⟨-2, s2, hgo (Ev.of fun N => by rw [if_pos (lg_eq.mpr ((lN_z (by omega)).mpr z))]), e2, e3, e5, Or.inl ⟨z, rfl⟩⟩
  · have hz : ¬ (lg_cmp (lN (past n m (wts s) (RNP K s p ps) pc (pls ps))) (0 : Int64)) = 0 := fun w => z ((lN_z (by omega)).mp (lg_eq.mp w))
    obtain ⟨r, k1, k2⟩ := m_lk_lp (R := RNP K s p ps) (pl := pls ps) (th := th) e2.1 hpc hp2 hth e4 rfl (2001 - pls ps) 0 (by omega) (fun q a b => by omega)
    rw [e3] at k1 k2
    exact ⟨r, s2, hgo (Ev.cg k1.ev fun N => by rw [if_neg hz]; rfl), e2, e3, e5, Or.inr ⟨z, k2⟩⟩
theorem has_piece (hC : CorN n m s) (a0 : Int32) : (f_X1_hasPiece a0 s = 0 ∧ ∀ t : cS, iG t 193 2 = iG s 193 2 → f_X12_isPiece a0 t = 0) ∨ ∃ pc, 1 ≤ pc ∧ pc ≤ 2 ^ n - 1 ∧ a0 = nI pc ∧ f_X1_hasPiece a0 s = 1 ∧ ∀ t : cS, iG t 193 2 = iG s 193 2 → f_X12_isPiece a0 t = 1 := by
  have hev := every_n hC
  have hlt := all_lt hC.1
  have hM : ∀ t : cS, iG t 193 2 = iG s 193 2 → f_X12_isPiece a0 t = wB a0 1 (nI (2 ^ n - 1)) := by
    intro t ht
    have : f_X12_whole t = nI (2 ^ n - 1) := by
      rw [← hev.2]
      unfold f_X12_whole
      rw [ht]
    unfold f_X12_isPiece
    rw [this]
    exact lIn_w (a' := 1) rfl l_i
  unfold f_X1_hasPiece
  rw [hev.1]
  by_cases c1 : a0 ≤ 0
  · left
    refine ⟨by rw [if_pos c1], fun t ht => ?_⟩
    rw [hM t ht]
    refine wB_0.mpr fun z => ?_
    have h1 := lei.mp c1
    have h2 := lei.mp z.1
    have h3 : (0 : Int32).toInt = 0 := rfl
    have h4 : (1 : Int32).toInt = 1 := rfl
    omega
  · obtain ⟨pc, hpc, rfl⟩ := nI_of (x := a0) (fun z => c1 (Int32.le_of_lt z))
    have hp1 : 1 ≤ pc := by
      rcases Nat.eq_zero_or_pos pc with z | z
      · subst z
        exact absurd (show nI 0 ≤ 0 by decide) c1
      · exact z
    by_cases c2 : pc ≤ 2 ^ n - 1
    · right
      refine ⟨pc, hp1, c2, rfl, by rw [if_neg c1, if_neg (nI_nlt c2 (by omega))], fun t ht => ?_⟩
      rw [hM t ht]
      exact wB_in (m := 1) hp1 c2 hlt
    · left
      refine ⟨by rw [if_neg c1, if_pos (nI_lt (by omega) hpc)], fun t ht => ?_⟩
      rw [hM t ht]
      refine wB_0.mpr fun z => c2 ((nI_leI hpc hlt).mp z.2)
theorem can_fly0 (hP : PrgI P s) (a1 a2 : Int32) : (∃ x, f_X11_programOf a1 s = some (x, s) ∧ f_X11_canFly x a2 0 s = some (0, s) ∧ ∀ t, f_X12_isProgram a1 t = 0 ∨ f_X12_isPressure a2 t = 0) ∨ ∃ j, j < 8 ∧ a1 = nI j ∧ f_X11_programOf a1 s = some (some (txT j), s) ∧ f_X11_canFly (some (txT j)) a2 0 s = some (1, s) ∧ ∀ t, ¬ f_X12_isProgram a1 t = 0 ∧ ¬ f_X12_isPressure a2 t = 0 := by
  have hL1 : ∀ t, f_X12_isProgram a1 t = wB a1 0 7 := fun t => lIn_w (a' := 0) (b' := 7) rfl rfl
  have hL2 : ∀ t, f_X12_isPressure a2 t = wB a2 0 99 := fun t => lIn_w (a' := 0) (b' := 99) rfl rfl
  rcases can_fly hP a1 a2 0 with ⟨x, q1, q2, q3⟩ | ⟨j, f, hj, rfl, hf0, hf, c1, q1, q2, q3⟩
  · refine Or.inl ⟨x, q1, q2, fun t => ?_⟩
    rw [hL1, hL2]
    by_cases c0 : wB a1 0 7 = 0
    · exact Or.inl c0
    · right
      obtain ⟨j, -, hj, rfl⟩ := wB_out (m := 0) (n := 7) (by decide) (by decide) c0
      by_cases c1 : wB a2 0 99 = 0
      · exact c1
      · exfalso
        have h3 := q3 s (fun _ => rfl)
        have hcl : (nI j).toNatClampNeg = j := nI_clamp (by omega)
        have h220 := (hP.1 j (by omega)).2.2.2.1
        have hp2 := (hP.1 j (by omega)).2.2.2.2.1
        unfold f_X12_canFly at h3
        rw [hL1, if_neg c0, hL2, if_neg c1, if_pos ((inb_n (by omega)).mpr (by omega)), hcl, h220, show (2000 : Int32) - nI (pls (P j)) = nI (2000 - pls (P j)) from pk_sub (a := 2000) hp2, show lIn (0 : Int32).toInt64 (0 : Int64) ((nI (2000 - pls (P j))).toInt64) = wB (nI 0) (nI 0) (nI (2000 - pls (P j))) from lIn_w (x := 0) (a' := 0) rfl l_i, wB_in (m := 0) (Nat.le_refl _) (Nat.zero_le _) (by omega), if_neg (by decide)] at h3
        exact absurd h3 (by simp)
  · refine Or.inr ⟨j, hj, rfl, q1, q2, fun t => ?_⟩
    rw [hL1, hL2]
    exact ⟨by rw [show wB (nI j) 0 7 = 1 from wB_in (m := 0) (n := 7) (by omega) (by omega) (by decide)]; decide, c1⟩
theorem m_likely (h : AllI K n m P nt st s) (a0 a1 a2 a3 : Int32) : ∃ r s1 s2, r_X11_likely a0 a1 a2 a3 s r s1 ∧ r_X12_likely a0 a1 a2 a3 s1 r s2 ∧ AllI K n m P nt st s2 ∧ Fw odP s s2 := by
  have h0 := h
  obtain ⟨hC, hL, hP, hO⟩ := h
  have hn8 := hC.1
  have hnone : Ev (fun N => f_X11_likely N a0 a1 a2 a3 s) (-1, s) → f_X12_likely 0 a0 a1 a2 a3 s = some (-1, s) → ∃ r s1 s2, r_X11_likely a0 a1 a2 a3 s r s1 ∧ r_X12_likely a0 a1 a2 a3 s1 r s2 ∧ AllI K n m P nt st s2 ∧ Fw odP s s2 := fun h1 h2 => ⟨-1, s, s, h1.ex, ⟨0, h2⟩, h0, Fw.rf⟩
  have hL1 : ∀ t, f_X12_isProgram a1 t = wB a1 0 7 := fun t => lIn_w (a' := 0) (b' := 7) rfl rfl
  have hL2 : ∀ t, f_X12_isPressure a2 t = wB a2 0 99 := fun t => lIn_w (a' := 0) (b' := 99) rfl rfl
  have hL3 : lIn a3.toInt64 (1 : Int64) (1000 : Int64) = wB a3 1 1000 := lIn_w (a' := 1) (b' := 1000) rfl rfl
  have hfly := can_fly0 hP a1 a2
  rcases has_piece hC a0 with ⟨p1, p2⟩ | ⟨pc, hp1, hp2, rfl, p1, p2⟩
  · refine hnone (Ev.of fun N => ?_) ?_
    · rcases hfly with ⟨x, q1, -⟩ | ⟨j, -, -, q1, -⟩
      · unfold f_X11_likely
        rw [q1, ob_mk, if_pos p1]
      · unfold f_X11_likely
        rw [q1, ob_mk, if_pos p1]
    · unfold f_X12_likely
      rw [if_pos (p2 s rfl)]
  · have p1' : ¬ f_X1_hasPiece (nI pc) s = 0 := by rw [p1]; decide
    have p2' : ∀ t : cS, iG t 193 2 = iG s 193 2 → ¬ f_X12_isPiece (nI pc) t = 0 := fun t ht => by rw [p2 t ht]; decide
    rcases hfly with ⟨x, q1, q2, q3⟩ | ⟨j, hj, rfl, q1, q2, q3⟩
    · refine hnone (Ev.of fun N => ?_) ?_
      · unfold f_X11_likely
        rw [q1, ob_mk, if_neg p1', q2, ob_mk, if_pos rfl]
      · unfold f_X12_likely
        rw [if_neg (p2' s rfl)]
        by_cases z : f_X12_isProgram a1 s = 0
        · rw [if_pos z]
        · rw [if_neg z, if_pos ((q3 s).resolve_left z)]
    · by_cases c3 : wB a3 1 1000 = 0
      · refine hnone (Ev.of fun N => ?_) ?_
        · unfold f_X11_likely
          rw [q1, ob_mk, if_neg p1', q2, ob_mk, if_neg (by decide), if_pos c3]
        · unfold f_X12_likely
          rw [if_neg (p2' s rfl), if_neg (q3 s).1, if_neg (q3 s).2, hL3, if_pos c3]
      · obtain ⟨th, ht1, ht2, rfl⟩ := wB_out (m := 1) (n := 1000) (by decide) (by decide) c3
        have hlt := all_lt hn8
        have hR0 : RNP K s a2 (txP P j) = RNP K s a2 (P j) := by rw [txP8 (by omega)]
        have hpl := (hP.1 j (by omega)).1.2.2.2.1
        obtain ⟨s1, b1, b2, b3, b4, b5⟩ := odd_X (tx := j) (p := a2) (tot := 2000) (pc := pc) h0 (by omega) (by omega) (Or.inl (by omega))
        rw [hR0] at b4
        obtain ⟨r, k1, k2⟩ := x_flights (R := RNP K s a2 (P j)) (pl := pls (P j)) (th := th) b2.1 (show pc < 2 ^ 31 by omega) hpl ht2 b4
        rw [b3] at k2
        obtain ⟨r', s2, l1, l2, l3, l4, l5⟩ := m_likelyOf (prog := nI j) (p := a2) (ps := P j) (pc := pc) (th := th) b2 (Or.inl ⟨j, by omega, rfl, (b2.2.2.1.1 j (by omega)).2⟩) hpl (by omega) ht2
        rw [b3, prp_R b5] at l5
        have hrr : r = r' := by
          rcases k2 with ⟨x1, x2⟩ | ⟨x1, x2⟩
          · rcases l5 with ⟨y1, y2⟩ | ⟨y1, y2⟩
            · rw [x2, y2]
            · exact absurd x1 y1
          · rcases l5 with ⟨y1, y2⟩ | ⟨y1, y2⟩
            · exact absurd y1 x1
            · exact lk_same ht1 x1 x2 y2
        subst hrr
        refine ⟨r, s1, s2, (Ev.cg (Ev.bnd b1 (k := fun N _ s13 => ob (f_X11_pullsOf (some (txT j)) s13) fun r15 s16 => ob (f_X5_flightsTill N (nI pc) r15 (nI th) s16) fun r18 s19 => some (r18, s19)) ?_) fun N => ?_).ex, (Ev.cg (Ev.bnd l1 (k := fun _ r9 s10 => some (r9, s10)) (Ev.of fun N => rfl)) fun N => ?_).ex, l2, (b5.mo fun o k y => Or.inl y).tr (l4.mo fun o k y => Or.inr y)⟩
        · rw [pulls_of b2.2.2.1 hj]
          exact Ev.cg (Ev.bnd k1 (k := fun _ r18 s19 => some (r18, s19)) (Ev.of fun N => rfl)) fun N => rfl
        · unfold f_X11_likely
          rw [q1, ob_mk, if_neg p1', q2, ob_mk, if_neg (by decide), if_neg c3]
          rfl
        · unfold f_X12_likely
          rw [if_neg (p2' s1 (b5.int (by unfold prpP; omega))), if_neg (q3 s1).1, if_neg (q3 s1).2, hL3, if_neg c3]
end
