/-! a hull goes on: what both come to; the class -/
theorem nI_ne1 {c : Nat} (h : c < 2 ^ 31) : nI c ≠ (-1 : Int32) := fun z => m1_ne h z.symm
theorem lostF_neg {R : Nat → Bool} : ∀ {n : Nat}, n < 2 ^ 31 → (lostF R n = -1 ↔ ∀ c, c < n → R c = false)
  | 0, _ => ⟨fun _ c hc => by omega, fun _ => rfl⟩
  | n + 1, hn => by
    have ih := lostF_neg (R := R) (n := n) (by omega)
    show (if lostF R n = -1 ∧ R n = true then nI n else lostF R n) = -1 ↔ _
    constructor
    · intro h
      by_cases z : lostF R n = -1 ∧ R n = true
      · rw [if_pos z] at h
        exact absurd h (nI_ne1 (by omega))
      · rw [if_neg z] at h
        intro c hc
        by_cases w : c = n
        · subst w
          exact Bool.eq_false_iff.mpr fun v => z ⟨h, v⟩
        · exact ih.mp h c (by omega)
    · intro h
      have h1 := ih.mpr fun c hc => h c (by omega)
      rw [if_neg (fun z => by rw [h n (by omega)] at z; exact absurd z.2 (by decide))]
      exact h1
/-- so many pulls, or until something runs -/
def hGo (K : List Cl) (n : Nat) (ce : Nat → CE) (life ρ : Nat → Int32) (p : Int32) (q : Nat) : Nat → Nat → (Nat → St3) → Nat × (Nat → St3) × Int32
  | 0, k, y => (k, y, -1)
  | d + 1, k, y => if lostF (hRun life ρ (hstp K ce life p (nI (q + k)) y)) n = -1 then hGo K n ce life ρ p q d (k + 1) (hstp K ce life p (nI (q + k)) y) else (k + 1, hstp K ce life p (nI (q + k)) y, lostF (hRun life ρ (hstp K ce life p (nI (q + k)) y)) n)
def HBd (n : Nat) (life ρ : Nat → Int32) (y : Nat → St3) : Prop := ∀ c, c < n → SB (y c) ∧ (life c ≠ 0 → (y c).2.1 < ρ c)
theorem HBd.nx {K : List Cl} {n : Nat} {ce : Nat → CE} {life ρ : Nat → Int32} {p a : Int32} {y : Nat → St3} (hn : n ≤ 8) (hρ : ∀ c, c < n → 1 ≤ (ρ c).toInt ∧ (ρ c).toInt ≤ 10000) (h : HBd n life ρ y) (hl : lostF (hRun life ρ (hstp K ce life p a y)) n = -1) : HBd n life ρ (hstp K ce life p a y) := by
  intro c hc
  obtain ⟨h1, h2⟩ := h c hc
  obtain ⟨r1, r2⟩ := hρ c hc
  have hr := (lostF_neg (by omega)).mp hl c hc
  by_cases z : life c = 0
  · have e : hstp K ce life p a y c = y c := by unfold hstp; rw [if_pos z]
    rw [e]
    exact ⟨h1, fun w => absurd z w⟩
  · have e : hstp K ce life p a y c = stpS K (ce c) (life c) p a (y c) := by unfold hstp; rw [if_neg z]
    have h3 := lti.mp (h2 z)
    refine ⟨?_, fun _ => ?_⟩
    · rw [e]
      exact stpS_bd h1 (by omega)
    · unfold hRun at hr
      have h4 := of_decide_eq_false hr
      have h5 : (hstp K ce life p a y c).2.1 ≤ 0 ∨ (hstp K ce life p a y c).2.1 < ρ c := Classical.not_not.mp fun w => h4 ⟨z, w⟩
      rcases h5 with w | w
      · rw [lti]
        have := lei.mp w
        have h0 : (0 : Int32).toInt = 0 := rfl
        omega
      · exact w
theorem HBd.ge {n c : Nat} {life ρ : Nat → Int32} {y : Nat → St3} (h : HBd n life ρ y) (hc : c < n) : 0 ≤ (y c).2.1 := by
  have := (h c hc).1.2.2.1
  rw [lei]
  have h0 : (0 : Int32).toInt = 0 := rfl
  omega
def xB (L h o k : Nat) : Prop := xA L h o k ∨ ((o = 34 ∨ o = 35) ∧ k = h)
theorem PX.fwB {K : List Cl} {L n h : Nat} {ce : Nat → CE} {ρ : Nat → Int32} {s t : cS} (hL : L = 11 ∨ L = 19) (h' : PX K L n ce ρ s) (hF : Fw (xB L h) s t) : PX K L n ce ρ t := by
  obtain ⟨h1, h2, h3, h4⟩ := h'
  refine ⟨by rw [hF.1]; exact h1, h2.fw hF fun o k z => ?_, (hF.int (by unfold xB xA; omega)).trans h3, fun c hc => ?_⟩
  · unfold lwQ at z
    unfold xB xA
    omega
  · obtain ⟨a, b⟩ := h4 c hc
    refine ⟨?_, (hF.int (by unfold xB xA; omega)).trans b⟩
    rw [← a]
    unfold ceX
    rw [hF.int (by unfold xB xA; omega), hF.int (by unfold xB xA; omega), hF.int (by unfold xB xA; omega)]
theorem x_go84 {h q k : Nat} {s : cS} (hh : h < 10) (h34 : iG s 34 h = nI q) : j_X2_goOn_84 (nI h) (nI k) s = some (nI k, iS s 34 h (nI (q + k))) := by
  unfold j_X2_goOn_84 f_X2_pulls
  rw [aA_n hh (by omega), h34, nI_add, pA_n hh (by omega), sb_mk]
abbrev hgB (h : Nat) (p a2 : Int32) (N : Nat) (v : (Int32 × Int32) × cS) : Option (((Int32 × Int32) × cS) ⊕ (Int32 × cS)) := b_X2_goOn_46 N (nI h) p a2 v.1.1 v.1.2 v.2
theorem x_go_lp {K : List Cl} {L n h q t : Nat} {ce : Nat → CE} {life ρ : Nat → Int32} {p : Int32} (hL : L = 11 ∨ L = 19) (hh : h < 10) (hn : n ≤ 8) (ht : t ≤ 2000) (hq : q ≤ 100000) (hρ : ∀ c, c < n → 1 ≤ (ρ c).toInt ∧ (ρ c).toInt ≤ 10000) : ∀ (d k : Nat) (y : Nat → St3) (s : cS), k + d = t → PX K L n ce ρ s → HBd n life ρ y → iG s 35 h = -1 → iG s 34 h = nI q → (∀ c, c < n → HC K (ce c) (q + k) 0 (life c) (y c) (sT h c) c s) → ∃ s', EL (hgB h p (nI t)) ((nI k, nI k), s) (nI (hGo K n ce life ρ p q d k y).1, s') ∧ iG s' 34 h = nI (q + (hGo K n ce life ρ p q d k y).1) ∧ iG s' 35 h = (hGo K n ce life ρ p q d k y).2.2 ∧ (∀ c, c < n → ∃ r, HC K (ce c) (q + (hGo K n ce life ρ p q d k y).1) r (life c) ((hGo K n ce life ρ p q d k y).2.1 c) (sT h c) c s' ∧ ((hGo K n ce life ρ p q d k y).2.2 = -1 → r = 0 ∧ HBd n life ρ (hGo K n ce life ρ p q d k y).2.1)) ∧ Fw (xB L h) s s' := by
  intro d
  induction d with
  | zero =>
    intro k y s hk hP hB h35 h34 hC
    have hkt : k = t := by omega
    subst hkt
    refine ⟨iS s 34 h (nI (q + k)), EL.en (Ev.of fun N => ?_), by rw [iG_eq]; rfl, (iG_ne (by decide)).trans h35, fun c hc => ⟨0, (hC c hc).fw (P := fun o _ => o = 34) (Fw.rf.st rfl) (fun _ => by unfold sT; omega), fun _ => ⟨rfl, hB⟩⟩, Fw.rf.st (Or.inr ⟨Or.inl rfl, rfl⟩)⟩
    show b_X2_goOn_46 N (nI h) p (nI k) (nI k) (nI k) s = _
    unfold b_X2_goOn_46
    rw [if_pos (nI_le (Nat.le_refl _) (by omega)), x_go84 hh h34]
    rfl
  | succ d ih =>
    intro k y s hk hP hB h35 h34 hC
    obtain ⟨s1, e1, e2, e3⟩ := x_pa_lp (K := K) (n := n) (h := h) (q := q + k) (ce := ce) (life := life) (ρ := ρ) (y := y) hL hh hn (by omega) (fun c hc => hB.ge hc) p n 0 s (by omega) hP (fun c' _ hc' => hC c' hc') (fun c' hc' => by omega)
    have hpa : Ev (fun N => f_X2_pullAll N (nI h) p s) (lostF (hRun life ρ (hstp K ce life p (nI (q + k)) y)) n, s1) := Ev.cg e1.ev (fun N => rfl)
    generalize hl : lostF (hRun life ρ (hstp K ce life p (nI (q + k)) y)) n = l at hpa
    generalize hs2 : iS s1 35 h l = s2
    have hF2 : Fw (xB L h) s s2 := by
      rw [← hs2]
      exact (e3.mo fun o k z => Or.inl z).st (Or.inr ⟨Or.inr rfl, rfl⟩)
    have g34 : iG s2 34 h = nI q := by
      rw [← hs2, iG_ne (by decide), e3.int (by unfold xA; rcases hL with rfl | rfl <;> omega)]
      exact h34
    have g35 : iG s2 35 h = l := by rw [← hs2, iG_eq]
    have e2' : ∀ c, c < n → HC K (ce c) (q + (k + 1)) (if hRun life ρ (hstp K ce life p (nI (q + k)) y) c = true then nI (q + k + 1) else 0) (life c) (hstp K ce life p (nI (q + k)) y c) (sT h c) c s2 := by
      intro c hc
      rw [← hs2]
      exact (e2 c hc).fw (P := fun o _ => o = 35) (Fw.rf.st rfl) (fun _ => by unfold sT; omega)
    have hst : Ev (fun N => hgB h p (nI t) N ((nI k, nI k), s)) (.inl ((nI (k + 1), nI (k + 1)), s2)) := by
      refine Ev.cg (Ev.bnd hpa (k := fun _ r10 s11 => sb (pA s11 35 10 (nI h) r10) fun s14 => some (.inl (((nI k + (1 : Int32)), (nI k + (1 : Int32))), s14))) (Ev.of fun N => ?_)) (fun N => ?_)
      · rw [pA_n hh (by omega), sb_mk, hs2, nI_1]
      · show b_X2_goOn_46 N (nI h) p (nI t) (nI k) (nI k) s = _
        unfold b_X2_goOn_46 f_X2_lostBy
        rw [if_neg (nI_ge (by omega) (by omega)), aA_n hh (by omega), if_pos h35]
    unfold hGo
    rw [hl]
    by_cases z : l = -1
    · rw [if_pos z]
      have hl' := hl.trans z
      have hR := (lostF_neg (R := hRun life ρ (hstp K ce life p (nI (q + k)) y)) (n := n) (by omega)).mp hl'
      obtain ⟨s', k1, k2, k3, k4, k5⟩ := ih (k + 1) (hstp K ce life p (nI (q + k)) y) s2 (by omega) (hP.fwB hL hF2) (hB.nx hn hρ hl') (by rw [g35, z]) g34 (fun c hc => by
        have := e2' c hc
        rw [hR c hc, if_neg (by decide)] at this
        exact this)
      exact ⟨s', EL.st hst k1, k2, k3, k4, hF2.tr k5⟩
    · rw [if_neg z]
      refine ⟨iS s2 34 h (nI (q + (k + 1))), EL.st hst (EL.en (Ev.of fun N => ?_)), by rw [iG_eq], (iG_ne (by decide)).trans g35, fun c hc => ⟨_, (e2' c hc).fw (P := fun o _ => o = 34) (Fw.rf.st rfl) (fun _ => by unfold sT; omega), fun w => absurd w z⟩, hF2.st (Or.inr ⟨Or.inl rfl, rfl⟩)⟩
      show b_X2_goOn_46 N (nI h) p (nI t) (nI (k + 1)) (nI (k + 1)) s2 = _
      unfold b_X2_goOn_46 f_X2_lostBy
      rw [aA_n hh (by omega), g35, if_neg z, x_go84 hh g34]
      split <;> rfl
