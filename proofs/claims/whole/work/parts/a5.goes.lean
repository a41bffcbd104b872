/-! programs, and the row of pulls that they say -/
def pls : List (Nat × Nat) → Nat
  | [] => 0
  | y :: r => y.2 + pls r
def rowOf (p : Int32) : List (Nat × Nat) → Nat → Int32
  | [], _ => p
  | y :: r, n => if n < y.2 then nI y.1 else rowOf p r (n - y.2)
theorem pls_app : ∀ (a b : List (Nat × Nat)), pls (a ++ b) = pls a + pls b
  | [], b => by show pls b = 0 + pls b; omega
  | y :: a, b => by
    show y.2 + pls (a ++ b) = y.2 + pls a + pls b
    rw [pls_app a b]
    omega
theorem rowOf_in {p : Int32} {y : Nat × Nat} {r : List (Nat × Nat)} {j : Nat} (hj : j < y.2) : ∀ pre : List (Nat × Nat), rowOf p (pre ++ y :: r) (pls pre + j) = nI y.1
  | [] => by
    show (if 0 + j < y.2 then nI y.1 else _) = _
    rw [if_pos (by omega)]
  | z :: pre => by
    show (if z.2 + pls pre + j < z.2 then nI z.1 else rowOf p (pre ++ y :: r) (z.2 + pls pre + j - z.2)) = _
    rw [if_neg (by omega), show z.2 + pls pre + j - z.2 = pls pre + j by omega]
    exact rowOf_in hj pre
theorem rowOf_out {p : Int32} {j : Nat} : ∀ ps : List (Nat × Nat), rowOf p ps (pls ps + j) = p
  | [] => rfl
  | z :: ps => by
    show (if z.2 + pls ps + j < z.2 then nI z.1 else rowOf p ps (z.2 + pls ps + j - z.2)) = _
    rw [if_neg (by omega), show z.2 + pls ps + j - z.2 = pls ps + j by omega]
    exact rowOf_out ps
/-- the class's program at T -/
def PrX (T : Nat) (ps : List (Nat × Nat)) (s : cS) : Prop := ps.length ≤ 8 ∧ iG s T 2 = nI ps.length ∧ iG s T 3 = nI (pls ps) ∧ pls ps ≤ 2000 ∧ ∀ x y, ps[x]? = some y → iG s (T + 1) x = nI y.1 ∧ iG s (T + 2) x = nI y.2
/-- the reference's j-th -/
def PrM (j : Nat) (ps : List (Nat × Nat)) (s : cS) : Prop := ps.length ≤ 8 ∧ iG s 217 j = nI ps.length ∧ iG s 220 j = nI (pls ps) ∧ pls ps ≤ 2000 ∧ ∀ x y, ps[x]? = some y → iG s 218 (8 * j + x) = nI y.1 ∧ iG s 219 (8 * j + x) = nI y.2
theorem PrX.rd {T : Nat} {ps : List (Nat × Nat)} : Rd (fun o _ => T ≤ o ∧ o ≤ T + 2) (PrX T ps) := by
  rintro s t h - ⟨h1, h2, h3, h4, h5⟩
  refine ⟨h1, by rw [h T 2 (by omega)]; exact h2, by rw [h T 3 (by omega)]; exact h3, h4, fun x y hy => ?_⟩
  rw [h (T + 1) x (by omega), h (T + 2) x (by omega)]
  exact h5 x y hy
theorem PrM.rd {j : Nat} {ps : List (Nat × Nat)} : Rd (fun o _ => 217 ≤ o ∧ o ≤ 220) (PrM j ps) := by
  rintro s t h - ⟨h1, h2, h3, h4, h5⟩
  refine ⟨h1, by rw [h 217 j (by omega)]; exact h2, by rw [h 220 j (by omega)]; exact h3, h4, fun x y hy => ?_⟩
  rw [h 218 _ (by omega), h 219 _ (by omega)]
  exact h5 x y hy
/-! the class lays the row out -/
def x117 (o _ : Nat) : Prop := o = 117
theorem lo_in {T : Nat} {p tot : Int32} {x m0 t a : Nat} {R : Nat → Int32} (hT : T ≠ 116 ∧ T ≠ 115) (hm : m0 + t ≤ 2000) (hx : x < 8) (hR : ∀ j, j < t → R (m0 + j) = nI a) : ∀ (k j : Nat) (s : cS), j + k = t → iG s (T + 2) x = nI t → iG s (T + 1) x = nI a → (∀ i, i < m0 + j → iG s 117 i = R i) → ∃ s', EL (fun _ (v : (Int32 × Int32) × cS) => b_X6_layOut_25 T p tot (nI x) v.1.1 v.1.2 v.2) ((nI (m0 + j), nI j), s) (.inl ((nI (m0 + t), nI (x + 1)), s')) ∧ (∀ i, i < m0 + t → iG s' 117 i = R i) ∧ Fw x117 s s' := by
  intro k
  induction k with
  | zero =>
    intro j s hj h2 h1 hr
    have hj' : j = t := by omega
    subst hj'
    refine ⟨s, EL.en (Ev.of fun _ => ?_), hr, Fw.rf⟩
    show b_X6_layOut_25 T p tot (nI x) (nI (m0 + j)) (nI j) s = _
    unfold b_X6_layOut_25 j_X6_layOut_64
    rw [if_pos ((inb_n (by omega)).mpr hx), nI_clamp (by omega), h2, if_pos (nI_le (Nat.le_refl _) (by omega)), nI_1]
    rfl
  | succ k ih =>
    intro j s hj h2 h1 hr
    obtain ⟨s', e1, e2, e3⟩ := ih (j + 1) (iS s 117 (m0 + j) (nI a)) (by omega) (by rw [iG_ne (by omega)]; exact h2) (by rw [iG_ne (by omega)]; exact h1) (fun i hi => by
      by_cases z : i = m0 + j
      · subst z
        rw [iG_eq, hR j (by omega)]
      · rw [iG_nk z]
        exact hr i (by omega))
    refine ⟨s', EL.st (v' := ((nI (m0 + (j + 1)), nI (j + 1)), iS s 117 (m0 + j) (nI a))) (Ev.of fun _ => ?_) e1, e2, ((Fw.rf (P := x117)).st (show x117 117 _ from rfl)).tr e3⟩
    show b_X6_layOut_25 T p tot (nI x) (nI (m0 + j)) (nI j) s = _
    unfold b_X6_layOut_25
    have hcx : (nI x).toNatClampNeg = x := nI_clamp (by omega)
    have hcm : (nI (m0 + j)).toNatClampNeg = m0 + j := nI_clamp (by omega)
    simp only [if_pos ((inb_n (n := 8) (i := x) (by omega)).mpr hx), hcx, h2, h1, if_neg (nI_ge (a := j) (b := t) (by omega) (by omega)), if_neg (show ¬ (2000 : Int32) ≤ nI (m0 + j) from nI_ge (b := 2000) (by omega) (by omega)), if_pos ((inb_n (n := 2000) (i := m0 + j) (by omega)).mpr (by omega)), hcm, sb_mk, nI_1]
    rfl
theorem lo_end {p : Int32} {total : Nat} {R : Nat → Int32} (ht : total ≤ 2000) : ∀ (k n : Nat) (s : cS), n + k = total → (∀ i, n ≤ i → i < total → R i = p) → (∀ i, i < n → iG s 117 i = R i) → ∃ s', EL (fun _ (v : Int32 × cS) => b_X6_layOut_70 p (nI total) v.1 v.2) (nI n, s) ((), s') ∧ (∀ i, i < total → iG s' 117 i = R i) ∧ Fw x117 s s' := by
  intro k
  induction k with
  | zero =>
    intro n s hn hR hr
    have hn' : n = total := by omega
    subst hn'
    refine ⟨s, EL.en (Ev.of fun _ => ?_), hr, Fw.rf⟩
    show b_X6_layOut_70 p (nI n) (nI n) s = _
    unfold b_X6_layOut_70
    rw [if_pos (nI_le (Nat.le_refl _) (by omega))]
    rfl
  | succ k ih =>
    intro n s hn hR hr
    obtain ⟨s', e1, e2, e3⟩ := ih (n + 1) (iS s 117 n p) (by omega) (fun i a b => hR i (by omega) b) (fun i hi => by
      by_cases z : i = n
      · subst z
        rw [iG_eq, hR i (by omega) (by omega)]
      · rw [iG_nk z]
        exact hr i (by omega))
    refine ⟨s', EL.st (v' := (nI (n + 1), iS s 117 n p)) (Ev.of fun _ => ?_) e1, e2, ((Fw.rf (P := x117)).st (show x117 117 _ from rfl)).tr e3⟩
    show b_X6_layOut_70 p (nI total) (nI n) s = _
    unfold b_X6_layOut_70
    rw [if_neg (nI_ge (by omega) (by omega)), if_neg (c := (2000 : Int32) ≤ nI n) (nI_ge (b := 2000) (by omega) (by omega)), if_pos ((inb_n (by omega)).mpr (by omega)), nI_clamp (by omega), sb_mk, nI_1]
theorem lo_out {T : Nat} {p : Int32} {total : Nat} {ps : List (Nat × Nat)} (hT : T ≠ 116 ∧ T ≠ 115 ∧ T ≠ 117) (ht : total ≤ 2000) : ∀ (rest pre : List (Nat × Nat)) (s : cS), ps = pre ++ rest → PrX T ps s → (∀ i, i < pls pre → iG s 117 i = rowOf p ps i) → ∃ s', EL (fun N (v : (Int32 × Int32) × cS) => b_X6_layOut_6 N T p (nI total) v.1.1 v.1.2 v.2) ((nI (pls pre), nI pre.length), s) ((), s') ∧ (∀ i, i < pls ps ∨ i < total → iG s' 117 i = rowOf p ps i) ∧ Fw x117 s s'
  | [], pre, s, hps, h, hr => by
    have hps' : ps = pre := by rw [hps, List.append_nil]
    subst hps'
    obtain ⟨h1, h2, h3, h4, h5⟩ := h
    have hend : ∃ s', EL (fun _ (v : Int32 × cS) => b_X6_layOut_70 p (nI total) v.1 v.2) (nI (pls ps), s) ((), s') ∧ (∀ i, i < pls ps ∨ i < total → iG s' 117 i = rowOf p ps i) ∧ Fw x117 s s' := by
      by_cases z : pls ps ≤ total
      · obtain ⟨s', e1, e2, e3⟩ := lo_end (p := p) (R := rowOf p ps) ht (total - pls ps) (pls ps) s (by omega) (fun i a b => by
          have := rowOf_out (p := p) (j := i - pls ps) ps
          rw [show pls ps + (i - pls ps) = i by omega] at this
          exact this) hr
        exact ⟨s', e1, fun i hi => e2 i (by omega), e3⟩
      · refine ⟨s, EL.en (Ev.of fun _ => ?_), fun i hi => hr i (by omega), Fw.rf⟩
        show b_X6_layOut_70 p (nI total) (nI (pls ps)) s = _
        unfold b_X6_layOut_70
        rw [if_pos (nI_le (by omega) (by omega))]
        rfl
    obtain ⟨s', e1, e2, e3⟩ := hend
    refine ⟨s', EL.en (Ev.cg e1.ev.ret (fun N => ?_)), e2, e3⟩
    show b_X6_layOut_6 N T p (nI total) (nI (pls ps)) (nI ps.length) s = _
    unfold b_X6_layOut_6
    rw [h2, if_pos (nI_le (Nat.le_refl _) (by omega))]
    rfl
  | y :: rest, pre, s, hps, h, hr => by
    have hh := h
    obtain ⟨h1, h2, h3, h4, h5⟩ := h
    have hlen : ps.length = pre.length + (rest.length + 1) := by rw [hps]; simp
    have hy : ps[pre.length]? = some y := by rw [hps]; simp
    obtain ⟨q1, q2⟩ := h5 _ _ hy
    have hpl : pls ps = pls pre + (y.2 + pls rest) := by rw [hps, pls_app]; rfl
    obtain ⟨s1, e1, e2, e3⟩ := lo_in (p := p) (tot := nI total) (m0 := pls pre) (R := rowOf p ps) ⟨hT.1, hT.2.1⟩ (by omega) (by omega) (fun j hj => by rw [hps]; exact rowOf_in hj pre) y.2 0 s (by omega) q2 q1 hr
    have hp1 : (pre ++ [y]).length = pre.length + 1 := by simp
    have hp2 : pls (pre ++ [y]) = pls pre + y.2 := by rw [pls_app]; show pls pre + (y.2 + 0) = _; omega
    obtain ⟨s', k1, k2, k3⟩ := lo_out hT ht rest (pre ++ [y]) s1 (by rw [hps]; simp) (PrX.rd.fw e3 hh fun o k z => by unfold x117; omega) (by rw [hp2]; exact e2)
    rw [hp1, hp2] at k1
    refine ⟨s', EL.st (v' := ((nI (pls pre + y.2), nI (pre.length + 1)), s1)) (Ev.cg e1.ev (fun N => ?_)) k1, k2, e3.tr k3⟩
    show b_X6_layOut_6 N T p (nI total) (nI (pls pre)) (nI pre.length) s = _
    unfold b_X6_layOut_6
    rw [h2, if_neg (nI_ge (by omega) (by omega)), if_neg (c := (8 : Int32) ≤ nI pre.length) (nI_ge (b := 8) (by omega) (by omega))]
    rfl
theorem x_layOut {T : Nat} {p : Int32} {total : Nat} {ps : List (Nat × Nat)} {s : cS} (hT : T ≠ 116 ∧ T ≠ 115 ∧ T ≠ 117) (ht : total ≤ 2000) (h : PrX T ps s) : ∃ s', Ev (fun N => f_X6_layOut N T p (nI total) s) ((), s') ∧ (∀ i, i < pls ps ∨ i < total → iG s' 117 i = rowOf p ps i) ∧ Fw x117 s s' := by
  obtain ⟨s', e1, e2⟩ := lo_out (p := p) hT ht ps [] s rfl h (fun i hi => by have : i < 0 := hi; omega)
  exact ⟨s', e1.ev, e2⟩
/-! the reference goes along it -/
def GM (K : List Cl) (ce : CE) (life ρ : Int32) (row : Nat → Int32) (c n : Nat) (s : cS) : Prop := iG s 193 53 = nI (fst1 (CrkP (traj K ce life row)) n) ∧ iG s 193 54 = nI (fst1 (RunP (traj K ce life row) ρ) n) ∧ iG s 193 38 = nI c ∧ (fst1 (RunP (traj K ce life row) ρ) n = 0 → xm s = traj K ce life row n ∧ iG s 193 40 = nI n)
def mG (o k : Nat) : Prop := mR o k ∨ (o = 193 ∧ ((38 ≤ k ∧ k ≤ 44) ∨ (53 ≤ k ∧ k ≤ 54)))
theorem GM.run {K : List Cl} {ce : CE} {life ρ : Int32} {row : Nat → Int32} {c n : Nat} {s : cS} (h : GM K ce life ρ row c n s) (hz : fst1 (RunP (traj K ce life row) ρ) n ≠ 0) (k : Nat) : GM K ce life ρ row c (n + k) s := by
  obtain ⟨h1, h2, h3, h4⟩ := h
  obtain ⟨q1, q2⟩ := fst1_run (k := k) hz
  exact ⟨by rw [q2]; exact h1, by rw [q1]; exact h2, h3, fun w => by rw [q1] at w; exact absurd w hz⟩
section
variable {K : List Cl} {ce : CE} {life ρ : Int32} {row : Nat → Int32} {c : Nat}
/-- one pull of the inner loop -/
theorem m_step {n : Nat} {s : cS} {prog p fl np x tm : Int32} {y t : Nat} (hf : LwF K) (hK : LwM K s) (hc : c < 8) (hρ : 1 ≤ ρ.toInt ∧ ρ.toInt ≤ 10000) (hr : iG s 198 c = ρ) (hce : ceM s c = ce) (htm : tm = nI t) (hy : y < t) (ht : t < 2 ^ 31) (hn : n < 2 ^ 31 - 1) (h : GM K ce life ρ row c n s) (hz : fst1 (RunP (traj K ce life row) ρ) n = 0) (h39 : iG s 193 39 = row n) : ∃ s', Ev (fun N => b_X12_goes_106 N life prog p fl np x tm (nI y) s) (.inl (nI (y + 1), s')) ∧ GM K ce life ρ row c (n + 1) s' ∧ Fw mG s s' ∧ iG s' 193 39 = iG s 193 39 := by
  obtain ⟨g53, g54, g38, g0⟩ := h
  obtain ⟨k3, k40⟩ := g0 hz
  obtain ⟨b1, b2⟩ := traj_ok' hρ hz
  have e43 : iG s 193 43 = (traj K ce life row n).2.1 := congrArg (·.2.1) k3
  have h43 : 0 ≤ iG s 193 43 := by
    rw [e43, lei]
    exact b1.2.2.1
  obtain ⟨s18, q1, q2, q3⟩ := m_isPulled hf hK hc g38 h43 life
  rw [hce, h39, k40, k3] at q2
  have q2' : xm s18 = traj K ce life row (n + 1) := q2
  have f : ∀ o k, ¬ (o = 193 ∧ 41 ≤ k ∧ k ≤ 44) → o ≠ 215 → o ≠ 216 → iG s18 o k = iG s o k := fun o k a b d => q3.int (by unfold mS mR; omega)
  have hG : ∀ {o k : Nat}, mS o k → mG o k := fun z => by unfold mS at z; unfold mG; rcases z with z | z; exact Or.inl z; exact Or.inr (by omega)
  have hF18 : Fw mG s s18 := q3.mo fun _ _ z => hG z
  generalize hs20 : iS s18 193 40 (nI (n + 1)) = s20
  have g20 : ∀ o k, ¬ (o = 193 ∧ k = 40) → iG s20 o k = iG s18 o k := by
    intro o k a
    rw [← hs20, iG_if]
    by_cases z : o = 193
    · rw [if_pos z, if_neg (by omega)]
    · rw [if_neg z]
  have h2040 : iG s20 193 40 = nI (n + 1) := by rw [← hs20, iG_eq]
  have hF20 : Fw mG s s20 := by rw [← hs20]; exact hF18.st (Or.inr ⟨rfl, Or.inl ⟨by decide, by decide⟩⟩)
  have hx20 : xm s20 = traj K ce life row (n + 1) := by
    rw [← q2']
    unfold xm
    rw [g20 193 44 (by omega), g20 193 43 (by omega), g20 193 42 (by omega)]
  have h4320 : iG s20 193 43 = (traj K ce life row (n + 1)).2.1 := congrArg (·.2.1) hx20
  have hpc : CrkP (traj K ce life row) (n + 1) = true ↔ ¬ iG s20 193 43 ≤ 0 := by rw [h4320]; unfold CrkP; exact decide_eq_true_iff
  have hpr : RunP (traj K ce life row) ρ (n + 1) = true ↔ ¬ iG s20 193 43 < ρ := by
    rw [h4320]
    unfold RunP
    rw [decide_eq_true_iff]
    constructor
    · intro w z
      exact w (Or.inr z)
    · intro w z
      rcases z with z | z
      · apply w
        have a := lei.mp z
        have h0 : (0 : Int32).toInt = 0 := rfl
        exact lti.mpr (by omega)
      · exact w z
  have hr20 : iG s20 198 c = ρ := by rw [g20 198 c (by omega), f 198 c (by omega) (by omega) (by omega)]; exact hr
  have h3820 : iG s20 193 38 = nI c := by rw [g20 193 38 (by omega), f 193 38 (by omega) (by omega) (by omega)]; exact g38
  have h5320 : iG s20 193 53 = nI (fst1 (CrkP (traj K ce life row)) n) := by rw [g20 193 53 (by omega), f 193 53 (by omega) (by omega) (by omega)]; exact g53
  have h5420 : iG s20 193 54 = 0 := by rw [g20 193 54 (by omega), f 193 54 (by omega) (by omega) (by omega), g54, hz]; rfl
  -- the run
  have h157 : ∀ u : cS, (∀ o k, ¬ (o = 193 ∧ k = 53) → iG u o k = iG s20 o k) → ∃ s', j_X12_goes_157 life prog p fl np x tm (nI y) u = some (.inl (nI (y + 1), s')) ∧ (s' = u ∧ iG s20 193 43 < ρ ∨ s' = iS u 193 54 (nI (n + 1)) ∧ ¬ iG s20 193 43 < ρ) := by
    intro u hu
    unfold j_X12_goes_157 f_X12_runsNow j_X12_goes_172
    rw [hu 193 38 (by omega), h3820, hu 193 43 (by omega), if_pos ((inb_n (by omega)).mpr hc), nI_clamp (by omega), hu 198 c (by omega), hr20]
    by_cases w : iG s20 193 43 < ρ
    · rw [if_pos w, ob_mk, if_pos rfl, nI_1]
      exact ⟨u, rfl, Or.inl ⟨rfl, w⟩⟩
    · rw [if_neg w, ob_mk, if_neg (by decide), hu 193 40 (by omega), h2040, sb_mk, nI_1]
      exact ⟨_, rfl, Or.inr ⟨rfl, w⟩⟩
  -- the crack
  generalize hu : (if iG s20 193 43 ≤ 0 then s20 else if iG s20 193 53 = 0 then iS s20 193 53 (nI (n + 1)) else s20) = u
  have gu : ∀ o k, ¬ (o = 193 ∧ k = 53) → iG u o k = iG s20 o k := by
    intro o k a
    rw [← hu]
    split
    · rfl
    · split
      · rw [iG_if]
        by_cases z : o = 193
        · rw [if_pos z, if_neg (by omega)]
        · rw [if_neg z]
      · rfl
  have hFu : Fw mG s20 u := by
    rw [← hu]
    split
    · exact Fw.rf
    · split
      · exact Fw.rf.st (Or.inr ⟨rfl, Or.inr ⟨by decide, by decide⟩⟩)
      · exact Fw.rf
  have hle := fst1_le (CrkP (traj K ce life row)) n
  have h53u : iG u 193 53 = nI (fst1 (CrkP (traj K ce life row)) (n + 1)) := by
    rw [← hu, fst1_s]
    by_cases w : iG s20 193 43 ≤ 0
    · rw [if_pos w, h5320]
      by_cases z : fst1 (CrkP (traj K ce life row)) n = 0
      · rw [if_pos z, if_neg (fun a => hpc.mp a w), z]
      · rw [if_neg z]
    · rw [if_neg w, h5320]
      by_cases z : fst1 (CrkP (traj K ce life row)) n = 0
      · rw [if_pos z, z, if_pos (by rfl), iG_eq, if_pos (hpc.mpr w)]
      · rw [if_neg z, if_neg (nI_ne0 (by omega) (by omega)), h5320]
  obtain ⟨s', w1, w2⟩ := h157 u gu
  refine ⟨s', ?_, ?_, ?_, ?_⟩
  · refine Ev.cg (Ev.bnd q1 (k := fun _ _ s18 => sb (iS s18 193 40 ((iG s18 193 40) + (1 : Int32))) fun s20 => if (iG s20 193 43) ≤ 0 then j_X12_goes_157 life prog p fl np x tm (nI y) s20 else if (iG s20 193 53) = 0 then sb (iS s20 193 53 (iG s20 193 40)) fun s28 => j_X12_goes_157 life prog p fl np x tm (nI y) s28 else j_X12_goes_157 life prog p fl np x tm (nI y) s20) (Ev.of fun N => ?_)) (fun N => ?_)
    · rw [f 193 40 (by omega) (by omega) (by omega), k40, nI_1, sb_mk, hs20, h2040, ← w1, ← hu]
      by_cases w : iG s20 193 43 ≤ 0
      · rw [if_pos w, if_pos w]
      · rw [if_neg w, if_neg w]
        by_cases z : iG s20 193 53 = 0
        · rw [if_pos z, if_pos z, sb_mk]
        · rw [if_neg z, if_neg z]
    · unfold b_X12_goes_106
      rw [htm, if_neg (nI_ge hy (by omega)), g54, hz, if_pos (by rfl)]
  · have hrn : fst1 (RunP (traj K ce life row) ρ) (n + 1) = (if iG s20 193 43 < ρ then 0 else n + 1) := by
      rw [fst1_s, if_pos hz]
      by_cases w : iG s20 193 43 < ρ
      · rw [if_pos w, if_neg (fun a => hpr.mp a w)]
      · rw [if_neg w, if_pos (hpr.mpr w)]
    rcases w2 with ⟨rfl, w⟩ | ⟨rfl, w⟩
    · rw [if_pos w] at hrn
      refine ⟨h53u, by rw [gu 193 54 (by omega), h5420, hrn]; rfl, by rw [gu 193 38 (by omega)]; exact h3820, fun _ => ⟨?_, by rw [gu 193 40 (by omega), h2040]⟩⟩
      rw [← hx20]
      unfold xm
      rw [gu 193 44 (by omega), gu 193 43 (by omega), gu 193 42 (by omega)]
    · rw [if_neg w] at hrn
      refine ⟨by rw [iG_nk (by omega)]; exact h53u, by rw [iG_eq, hrn], by rw [iG_nk (by omega), gu 193 38 (by omega)]; exact h3820, fun a => by rw [hrn] at a; omega⟩
  · rcases w2 with ⟨rfl, -⟩ | ⟨rfl, -⟩
    · exact hF20.tr hFu
    · exact (hF20.tr hFu).st (Or.inr ⟨rfl, Or.inr ⟨by decide, by decide⟩⟩)
  · have e39 : iG u 193 39 = iG s 193 39 := by rw [gu 193 39 (by omega), g20 193 39 (by omega), f 193 39 (by omega) (by omega) (by omega)]
    rcases w2 with ⟨rfl, -⟩ | ⟨rfl, -⟩
    · exact e39
    · rw [iG_nk (by omega)]; exact e39
/-- the inner loop -/
theorem m_in {prog p fl np tm : Int32} {x t m0 : Nat} (hf : LwF K) (hc : c < 8) (hρ : 1 ≤ ρ.toInt ∧ ρ.toInt ≤ 10000) (htm : tm = nI t) (hm : m0 + t ≤ 2000) : ∀ (k y : Nat) (s : cS), y + k = t → LwM K s → iG s 198 c = ρ → ceM s c = ce → GM K ce life ρ row c (m0 + y) s → (∀ i, i < t → row (m0 + i) = iG s 193 39) → ∃ s', EL (fun N (v : Int32 × cS) => b_X12_goes_106 N life prog p fl np (nI x) tm v.1 v.2) (nI y, s) (.inl (nI (x + 1), s')) ∧ GM K ce life ρ row c (m0 + t) s' ∧ Fw mG s s' := by
  intro k
  induction k with
  | zero =>
    intro y s hy hK hr hce h hrow
    have hy' : y = t := by omega
    subst hy'
    refine ⟨s, EL.en (Ev.of fun N => ?_), h, Fw.rf⟩
    show b_X12_goes_106 N life prog p fl np (nI x) tm (nI y) s = _
    unfold b_X12_goes_106 j_X12_goes_178
    rw [htm, if_pos (nI_le (Nat.le_refl _) (by omega)), nI_1]
    rfl
  | succ k ih =>
    intro y s hy hK hr hce h hrow
    by_cases hz : fst1 (RunP (traj K ce life row) ρ) (m0 + y) = 0
    · obtain ⟨s1, q1, q2, q3, q4⟩ := m_step (prog := prog) (p := p) (fl := fl) (np := np) (x := nI x) (tm := tm) (y := y) (t := t) hf hK hc hρ hr hce htm (by omega) (by omega) (by omega) h hz (hrow y (by omega)).symm
      have f : ∀ o k, o ≠ 193 → o ≠ 215 → o ≠ 216 → iG s1 o k = iG s o k := fun o k a b d => q3.int (by unfold mG mR; omega)
      have hce1 : ceM s1 c = ce := by
        rw [← hce]
        unfold ceM
        rw [f 196 c (by omega) (by omega) (by omega), f 197 c (by omega) (by omega) (by omega), f 195 c (by omega) (by omega) (by omega)]
      obtain ⟨s', e1, e2, e3⟩ := ih (y + 1) s1 (by omega) (LwM.rd.fw q3 hK fun o k z => by unfold lmQ at z; unfold mG mR; omega) (by rw [f 198 c (by omega) (by omega) (by omega)]; exact hr) hce1 q2 (fun i hi => by rw [q4]; exact hrow i hi)
      exact ⟨s', EL.st q1 e1, e2, q3.tr e3⟩
    · have hle := fst1_le (RunP (traj K ce life row) ρ) (m0 + y)
      refine ⟨s, EL.en (Ev.of fun N => ?_), ?_, Fw.rf⟩
      · show b_X12_goes_106 N life prog p fl np (nI x) tm (nI y) s = _
        unfold b_X12_goes_106 j_X12_goes_178
        rw [htm, if_neg (nI_ge (by omega) (by omega)), h.2.1, if_neg (nI_ne0 (by omega) (by omega)), nI_1]
        rfl
      · have := h.run hz (k + 1)
        rw [show m0 + y + (k + 1) = m0 + t by omega] at this
        exact this
end
