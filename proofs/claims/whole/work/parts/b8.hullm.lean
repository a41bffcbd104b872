/-! a hull goes on: the reference -/
def HMc (life : Nat → Int32) (y : Nat → St3) (h c : Nat) (s : cS) : Prop := iG s 230 (8 * h + c) = life c ∧ iG s 231 (8 * h + c) = (y c).1 ∧ iG s 232 (8 * h + c) = (y c).2.1 ∧ iG s 233 (8 * h + c) = (y c).2.2
def MX (K : List Cl) (n : Nat) (ce : Nat → CE) (ρ : Nat → Int32) (s : cS) : Prop := LwF K ∧ LwM K s ∧ iG s 193 2 = nI n ∧ ∀ c, c < n → ceM s c = ce c ∧ iG s 198 c = ρ c
def mHc (h c o k : Nat) : Prop := mR o k ∨ (o = 193 ∧ 38 ≤ k ∧ k ≤ 44) ∨ (o = 229 ∧ k = h) ∨ (231 ≤ o ∧ o ≤ 233 ∧ k = 8 * h + c)
def mH (h o k : Nat) : Prop := mR o k ∨ (o = 193 ∧ 38 ≤ k ∧ k ≤ 44) ∨ ((o = 228 ∨ o = 229) ∧ k = h) ∨ (231 ≤ o ∧ o ≤ 233 ∧ 8 * h ≤ k ∧ k < 8 * h + 8)
theorem mHc_h {h c o k : Nat} (hc : c < 8) (z : mHc h c o k) : mH h o k := by
  unfold mHc mR at z
  unfold mH mR
  omega
theorem MX.fw {K : List Cl} {n h : Nat} {ce : Nat → CE} {ρ : Nat → Int32} {s t : cS} (h' : MX K n ce ρ s) (hF : Fw (mH h) s t) : MX K n ce ρ t := by
  obtain ⟨h1, h2, h3, h4⟩ := h'
  refine ⟨h1, h2.fw hF fun o k z => ?_, (hF.int (by unfold mH mR; omega)).trans h3, fun c hc => ?_⟩
  · unfold lmQ at z
    unfold mH mR
    omega
  · obtain ⟨a, b⟩ := h4 c hc
    refine ⟨?_, (hF.int (by unfold mH mR; omega)).trans b⟩
    rw [← a]
    unfold ceM
    rw [hF.int (by unfold mH mR; omega), hF.int (by unfold mH mR; omega), hF.int (by unfold mH mR; omega)]
theorem m_hc {K : List Cl} {n h c q : Nat} {ce : Nat → CE} {life ρ : Nat → Int32} {y : Nat → St3} {l p : Int32} {s : cS} (hh : h < 10) (hn : n ≤ 8) (hc : c < n) (hρ : 1 ≤ (ρ c).toInt) (hP : MX K n ce ρ s) (h4 : 0 ≤ (y c).2.1) (hM : HMc life y h c s) (h228 : iG s 228 h = nI q) (h229 : iG s 229 h = l) : ∃ s', Ev (fun N => b_X12_pullsHull_2 N (nI h) p (nI c) s) (.inl (nI (c + 1), s')) ∧ HMc life (hstp K ce life p (nI q) y) h c s' ∧ iG s' 228 h = nI q ∧ iG s' 229 h = (if l = -1 ∧ hRun life ρ (hstp K ce life p (nI q) y) c = true then nI c else l) ∧ Fw (mHc h c) s s' := by
  obtain ⟨p0, p1, p2, p4⟩ := hP
  obtain ⟨g1, g2⟩ := p4 c hc
  obtain ⟨m0, m1, m2, m3⟩ := hM
  have hi : (8 : Int32) * nI h + nI c = nI (8 * h + c) := by
    show nI 8 * nI h + nI c = _
    rw [pk_mul, nI_add]
  have hin : inb (nI (8 * h + c)) 80 := (inb_n (by omega)).mpr (by omega)
  have hcl : (nI (8 * h + c)).toNatClampNeg = 8 * h + c := nI_clamp (by omega)
  have hin2 : inb (nI h) 10 := (inb_n (by omega)).mpr hh
  have hcl2 : (nI h).toNatClampNeg = h := nI_clamp (by omega)
  have hlt : ¬ nI n ≤ nI c := nI_ge hc (by omega)
  by_cases z : life c = 0
  · have hr : hRun life ρ (hstp K ce life p (nI q) y) c = false := by
      unfold hRun
      exact decide_eq_false fun w => w.1 z
    have e : hstp K ce life p (nI q) y c = y c := by unfold hstp; rw [if_pos z]
    refine ⟨s, Ev.of fun N => ?_, ⟨m0, by rw [e]; exact m1, by rw [e]; exact m2, by rw [e]; exact m3⟩, h228, ?_, Fw.rf⟩
    · unfold b_X12_pullsHull_2 j_X12_pullsHull_152
      rw [p2, if_neg hlt]
      simp only [hi, if_pos hin, hcl, m0, if_pos z, nI_1]
    · rw [hr, if_neg (fun w => absurd w.2 (by decide))]
      exact h229
  · have e : hstp K ce life p (nI q) y c = stpS K (ce c) (life c) p (nI q) (y c) := by unfold hstp; rw [if_neg z]
    generalize hs12 : iS (iS (iS (iS (iS (iS s 193 38 (nI c)) 193 39 p) 193 40 (nI q)) 193 42 (y c).2.2) 193 43 (y c).2.1) 193 44 (y c).1 = s12
    have hF12 : Fw (mHc h c) s s12 := by
      rw [← hs12]
      refine (((((Fw.rf.st ?_).st ?_).st ?_).st ?_).st ?_).st ?_ <;> (unfold mHc; omega)
    obtain ⟨y38, y39, y40, y42, y43, y44⟩ : iG s12 193 38 = nI c ∧ iG s12 193 39 = p ∧ iG s12 193 40 = nI q ∧ iG s12 193 42 = (y c).2.2 ∧ iG s12 193 43 = (y c).2.1 ∧ iG s12 193 44 = (y c).1 := by
      rw [← hs12]
      exact ⟨rfl, rfl, rfl, rfl, rfl, rfl⟩
    have hce : ceM s12 c = ce c := by
      rw [← g1]
      unfold ceM
      rw [hF12.int (by unfold mHc mR; omega), hF12.int (by unfold mHc mR; omega), hF12.int (by unfold mHc mR; omega)]
    obtain ⟨s14, e1, e2, e3⟩ := m_isPulled p0 (p1.fw hF12 fun o k w => by unfold lmQ at w; unfold mHc mR; omega) (c := c) (by omega) y38 (by rw [y43]; exact h4) (life c)
    have hxm : xm s12 = y c := by
      unfold xm
      rw [y44, y43, y42]
    rw [hce, y39, y40, hxm, ← e] at e2
    have x44 : iG s14 193 44 = (hstp K ce life p (nI q) y c).1 := by rw [← e2]; rfl
    have x43 : iG s14 193 43 = (hstp K ce life p (nI q) y c).2.1 := by rw [← e2]; rfl
    have x42 : iG s14 193 42 = (hstp K ce life p (nI q) y c).2.2 := by rw [← e2]; rfl
    have x38 : iG s14 193 38 = nI c := (e3.int (by unfold mS mR; omega)).trans y38
    have hF14 : Fw (mHc h c) s s14 := hF12.tr (e3.mo fun o k w => by unfold mS mR at w; unfold mHc mR; omega)
    generalize hs18 : iS (iS (iS s14 233 (8 * h + c) (iG s14 193 42)) 232 (8 * h + c) (iG s14 193 43)) 231 (8 * h + c) (iG s14 193 44) = s18
    have hF18 : Fw (mHc h c) s s18 := by
      rw [← hs18]
      refine ((hF14.st ?_).st ?_).st ?_ <;> (unfold mHc; omega)
    have w38 : iG s18 193 38 = nI c := by rw [← hs18]; exact x38
    have w43 : iG s18 193 43 = (hstp K ce life p (nI q) y c).2.1 := by rw [← hs18]; exact x43
    have w198 : iG s18 198 c = ρ c := (hF18.int (by unfold mHc mR; omega)).trans g2
    have hMs : HMc life (hstp K ce life p (nI q) y) h c s18 := by
      refine ⟨(hF18.int (by unfold mHc mR; omega)).trans m0, ?_, ?_, ?_⟩
      · rw [← hs18, iG_eq]; exact x44
      · rw [← hs18, iG_ne (by decide), iG_eq]; exact x43
      · rw [← hs18, iG_ne (by decide), iG_ne (by decide), iG_eq]; exact x42
    have w228 : iG s18 228 h = nI q := (hF18.int (by unfold mHc mR; omega)).trans h228
    have w229 : iG s18 229 h = l := by
      rw [← hs18, iG_ne (by decide), iG_ne (by decide), iG_ne (by decide), e3.int (by unfold mS mR; omega), ← hs12]
      exact h229
    have hrn : f_X12_runsNow s18 = some (if hRun life ρ (hstp K ce life p (nI q) y) c = true then 1 else 0, s18) := by
      unfold f_X12_runsNow
      have hcc : (nI c).toNatClampNeg = c := nI_clamp (by omega)
      rw [w38, if_pos ((inb_n (by omega)).mpr (by omega)), hcc, w43, w198]
      unfold hRun
      by_cases w : (hstp K ce life p (nI q) y c).2.1 < ρ c
      · rw [if_pos w, if_neg (by rw [decide_eq_true_eq]; exact fun v => v.2 (Or.inr w))]
      · rw [if_neg w, if_pos]
        rw [decide_eq_true_eq]
        refine ⟨z, fun v => v.elim (fun u => ?_) w⟩
        rw [lti] at w
        have := lei.mp u
        have h0 : (0 : Int32).toInt = 0 := rfl
        omega
    have hgo : ∀ {x : (Int32 × cS) ⊕ (Unit × cS)}, (ob (f_X12_runsNow s18) fun r19 s20 => if r19 = 0 then j_X12_pullsHull_152 (nI h) p (nI c) s20 else if (iG s20 229 h) = (-1 : Int32) then j_X12_pullsHull_152 (nI h) p (nI c) (iS s20 229 h (nI c)) else j_X12_pullsHull_152 (nI h) p (nI c) s20) = some x → Ev (fun N => b_X12_pullsHull_2 N (nI h) p (nI c) s) x := by
      intro x kx
      refine Ev.cg (Ev.bnd e1 (k := fun _ _ s14 => ob (f_X12_runsNow (iS (iS (iS s14 233 (8 * h + c) (iG s14 193 42)) 232 (8 * h + c) (iG s14 193 43)) 231 (8 * h + c) (iG s14 193 44))) fun r19 s20 => if r19 = 0 then j_X12_pullsHull_152 (nI h) p (nI c) s20 else if (iG s20 229 h) = (-1 : Int32) then j_X12_pullsHull_152 (nI h) p (nI c) (iS s20 229 h (nI c)) else j_X12_pullsHull_152 (nI h) p (nI c) s20) (Ev.of fun N => by rw [hs18]; exact kx)) (fun N => ?_)
      have r228 : iG (iS (iS s 193 38 (nI c)) 193 39 p) 228 h = nI q := h228
      have r233 : iG (iS (iS (iS s 193 38 (nI c)) 193 39 p) 193 40 (nI q)) 233 (8 * h + c) = (y c).2.2 := m3
      have r232 : iG (iS (iS (iS (iS s 193 38 (nI c)) 193 39 p) 193 40 (nI q)) 193 42 (y c).2.2) 232 (8 * h + c) = (y c).2.1 := m2
      have r231 : iG (iS (iS (iS (iS (iS s 193 38 (nI c)) 193 39 p) 193 40 (nI q)) 193 42 (y c).2.2) 193 43 (y c).2.1) 231 (8 * h + c) = (y c).1 := m1
      have r230 : iG s12 230 (8 * h + c) = life c := (hF12.int (by unfold mHc mR; omega)).trans m0
      unfold b_X12_pullsHull_2
      rw [p2, if_neg hlt]
      simp only [hi, if_pos hin, hcl, m0, if_neg z, sb_mk, if_pos hin2, hcl2, r228, r233, r232, r231, hs12, r230]
      rfl
    by_cases w : l = -1 ∧ hRun life ρ (hstp K ce life p (nI q) y) c = true
    · refine ⟨iS s18 229 h (nI c), hgo ?_, hMs, w228, ?_, hF18.st (by unfold mHc; omega)⟩
      · rw [hrn, ob_mk, if_pos w.2, if_neg (by decide), w229, if_pos w.1]
        unfold j_X12_pullsHull_152
        rw [nI_1]
      · rw [iG_eq, if_pos w]
    · refine ⟨s18, hgo ?_, hMs, w228, ?_, hF18⟩
      · rw [hrn, ob_mk]
        unfold j_X12_pullsHull_152
        by_cases u : hRun life ρ (hstp K ce life p (nI q) y) c = true
        · rw [if_pos u, if_neg (by decide), w229, if_neg (fun v => w ⟨v, u⟩), nI_1]
        · rw [if_neg u, if_pos rfl, nI_1]
      · rw [w229, if_neg w]
theorem HMc.fw {life : Nat → Int32} {y : Nat → St3} {h c : Nat} {P : Nat → Nat → Prop} {s t : cS} (h' : HMc life y h c s) (hF : Fw P s t) (hd : ∀ o, 230 ≤ o → o ≤ 233 → ¬ P o (8 * h + c)) : HMc life y h c t := by
  obtain ⟨a, b, d, e⟩ := h'
  exact ⟨(hF.int (hd _ (by omega) (by omega))).trans a, (hF.int (hd _ (by omega) (by omega))).trans b, (hF.int (hd _ (by omega) (by omega))).trans d, (hF.int (hd _ (by omega) (by omega))).trans e⟩
/-- all corners, one pull -/
theorem m_ph_lp {K : List Cl} {n h q : Nat} {ce : Nat → CE} {life ρ : Nat → Int32} {y : Nat → St3} {p : Int32} (hh : h < 10) (hn : n ≤ 8) (hq : q < 2 ^ 31 - 1) (hρ : ∀ c, c < n → 1 ≤ (ρ c).toInt) (h4 : ∀ c, c < n → 0 ≤ (y c).2.1) : ∀ (d c : Nat) (s : cS), c + d = n → MX K n ce ρ s → (∀ c', c ≤ c' → c' < n → HMc life y h c' s) → (∀ c', c' < c → HMc life (hstp K ce life p (nI q) y) h c' s) → iG s 228 h = nI q → iG s 229 h = lostF (hRun life ρ (hstp K ce life p (nI q) y)) c → ∃ s', EL (fun N (v : Int32 × cS) => b_X12_pullsHull_2 N (nI h) p v.1 v.2) (nI c, s) ((), s') ∧ (∀ c', c' < n → HMc life (hstp K ce life p (nI q) y) h c' s') ∧ iG s' 228 h = nI (q + 1) ∧ iG s' 229 h = lostF (hRun life ρ (hstp K ce life p (nI q) y)) n ∧ Fw (mH h) s s' := by
  intro d
  induction d with
  | zero =>
    intro c s hd hP _ h2 h228 h229
    have hcn : c = n := by omega
    subst hcn
    refine ⟨iS s 228 h (nI (q + 1)), EL.en (Ev.of fun N => ?_), fun c' hc' => (h2 c' hc').fw (P := fun o _ => o = 228) (Fw.rf.st rfl) (fun o _ _ => by omega), by rw [iG_eq], (iG_ne (by decide)).trans h229, Fw.rf.st (by unfold mH; omega)⟩
    show b_X12_pullsHull_2 N (nI h) p (nI c) s = _
    have hcl2 : (nI h).toNatClampNeg = h := nI_clamp (by omega)
    unfold b_X12_pullsHull_2
    rw [hP.2.2.1, if_pos (nI_le (Nat.le_refl _) (by omega)), if_pos ((inb_n (by omega)).mpr hh), hcl2, h228, nI_1, sb_mk]
    rfl
  | succ d ih =>
    intro c s hd hP h1 h2 h228 h229
    obtain ⟨s1, e1, e2, e3, e4, e5⟩ := m_hc (p := p) (c := c) hh hn (by omega) (hρ c (by omega)) hP (h4 c (by omega)) (h1 c (Nat.le_refl _) (by omega)) h228 h229
    have e5' : Fw (mH h) s s1 := e5.mo fun o k z => mHc_h (by omega) z
    have hdis : ∀ c', c' ≠ c → ∀ o, 230 ≤ o → o ≤ 233 → ¬ mHc h c o (8 * h + c') := by
      intro c' hne o a b z
      unfold mHc mR at z
      omega
    obtain ⟨s', k1, k2, k3, k4, k5⟩ := ih (c + 1) s1 (by omega) (hP.fw e5') (fun c' a b => (h1 c' (by omega) b).fw e5 (hdis c' (by omega))) (fun c' a => by
      by_cases z : c' = c
      · subst z; exact e2
      · exact (h2 c' (by omega)).fw e5 (hdis c' z)) e3 e4
    exact ⟨s', EL.st e1 k1, k2, k3, k4, e5'.tr k5⟩
abbrev hmB (h : Nat) (p a2 : Int32) (N : Nat) (v : Int32 × cS) : Option ((Int32 × cS) ⊕ (Int32 × cS)) := b_X12_flown_56 N (nI h) p a2 v.1 v.2
theorem m_fl_lp {K : List Cl} {n h q t : Nat} {ce : Nat → CE} {life ρ : Nat → Int32} {p : Int32} (hh : h < 10) (hn : n ≤ 8) (ht : t ≤ 2000) (hq : q ≤ 100000) (hρ : ∀ c, c < n → 1 ≤ (ρ c).toInt ∧ (ρ c).toInt ≤ 10000) : ∀ (d k : Nat) (y : Nat → St3) (s : cS), k + d = t → MX K n ce ρ s → HBd n life ρ y → iG s 229 h = -1 → iG s 228 h = nI (q + k) → (∀ c, c < n → HMc life y h c s) → ∃ s', EL (hmB h p (nI t)) (nI k, s) (nI (hGo K n ce life ρ p q d k y).1, s') ∧ iG s' 228 h = nI (q + (hGo K n ce life ρ p q d k y).1) ∧ iG s' 229 h = (hGo K n ce life ρ p q d k y).2.2 ∧ (∀ c, c < n → HMc life (hGo K n ce life ρ p q d k y).2.1 h c s') ∧ Fw (mH h) s s' := by
  have hcl2 : (nI h).toNatClampNeg = h := nI_clamp (by omega)
  have hin2 : inb (nI h) 10 := (inb_n (by omega)).mpr hh
  intro d
  induction d with
  | zero =>
    intro k y s hk hP hB h229 h228 hC
    refine ⟨s, EL.en (Ev.of fun N => ?_), h228, h229, hC, Fw.rf⟩
    show b_X12_flown_56 N (nI h) p (nI t) (nI k) s = _
    unfold b_X12_flown_56
    rw [if_pos (nI_le (by omega) (by omega))]
    rfl
  | succ d ih =>
    intro k y s hk hP hB h229 h228 hC
    obtain ⟨s1, e1, e2, e3, e4, e5⟩ := m_ph_lp (K := K) (n := n) (h := h) (q := q + k) (ce := ce) (life := life) (ρ := ρ) (y := y) (p := p) hh hn (by omega) (fun c hc => (hρ c hc).1) (fun c hc => hB.ge hc) n 0 s (by omega) hP (fun c' _ hc' => hC c' hc') (fun c' hc' => by omega) h228 h229
    have hst : Ev (fun N => hmB h p (nI t) N (nI k, s)) (.inl (nI (k + 1), s1)) := by
      have hpa : Ev (fun N => f_X12_pullsHull N (nI h) p s) ((), s1) := Ev.cg e1.ev (fun N => rfl)
      refine Ev.cg (Ev.bnd hpa (k := fun _ _ s14 => some (.inl ((nI k + (1 : Int32)), s14))) (Ev.of fun N => ?_)) (fun N => ?_)
      · rw [nI_1]
      · show b_X12_flown_56 N (nI h) p (nI t) (nI k) s = _
        unfold b_X12_flown_56
        rw [if_neg (nI_ge (by omega) (by omega)), if_pos hin2, hcl2, if_pos h229]
    unfold hGo
    by_cases z : lostF (hRun life ρ (hstp K ce life p (nI (q + k)) y)) n = -1
    · rw [if_pos z]
      obtain ⟨s', k1, k2, k3, k4, k5⟩ := ih (k + 1) (hstp K ce life p (nI (q + k)) y) s1 (by omega) (hP.fw e5) (hB.nx hn hρ z) (e4.trans z) e3 e2
      exact ⟨s', EL.st hst k1, k2, k3, k4, e5.tr k5⟩
    · rw [if_neg z]
      refine ⟨s1, EL.st hst (EL.en (Ev.of fun N => ?_)), e3, e4, e2, e5⟩
      show b_X12_flown_56 N (nI h) p (nI t) (nI (k + 1)) s1 = _
      unfold b_X12_flown_56
      rw [if_pos hin2, hcl2, e4, if_neg z]
      split <;> rfl
