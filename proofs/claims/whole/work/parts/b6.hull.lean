/-! a hull, pulled: the class -/
def lostF (R : Nat → Bool) : Nat → Int32
  | 0 => -1
  | c + 1 => if lostF R c = -1 ∧ R c = true then nI c else lostF R c
def hstp (K : List Cl) (ce : Nat → CE) (life : Nat → Int32) (p n : Int32) (y : Nat → St3) (c : Nat) : St3 := if life c = 0 then y c else stpS K (ce c) (life c) p n (y c)
def hRun (life ρ : Nat → Int32) (y : Nat → St3) (c : Nat) : Bool := decide (life c ≠ 0 ∧ ¬ ((y c).2.1 ≤ 0 ∨ (y c).2.1 < ρ c))
def sT (h c : Nat) : Nat := 36 + (8 * h + c)
theorem rG33 {s : cS} {k : Nat} (h : k < 80) : rG s 33 k = some (36 + k) := by
  have e : ∀ k, k < 80 → VR0 33 k = some (36 + k) := by decide +kernel
  exact e k h
theorem kdS {k : Nat} (h : k < 80) : kd (36 + k) 8 := by
  have e : ∀ k, k < 80 → kd (36 + k) 8 := by decide +kernel
  exact e k h
theorem x_strainOf {s : cS} {h c : Nat} (hh : h < 10) (hc : c < 8) : f_X2_strainOf (nI h) (nI c) s = some (some (sT h c), s) := by
  have e : nI h * (8 : Int32) + nI c = nI (8 * h + c) := by
    show nI h * nI 8 + nI c = _
    rw [pk_mul, nI_add]
    congr 1
    omega
  unfold f_X2_strainOf
  rw [e, if_neg (nI_pos (by omega)), if_neg (c := (80 : Int32) ≤ nI (8 * h + c)) (nI_ge (b := 80) (by omega) (by omega)), if_pos ((inb_n (by omega)).mpr (by omega)), nI_clamp (by omega), rG33 (by omega)]
  rfl
/-- a corner of a hull, in the class: what its strain keeps -/
def HC (K : List Cl) (ce : CE) (q : Nat) (r life : Int32) (y : St3) (T c : Nat) (s : cS) : Prop := iG s T 1 = nI c ∧ iG s T 2 = life ∧ x3 T s = y ∧ iG s T 8 = r ∧ (life ≠ 0 → iG s T 6 = nI q) ∧ KnI K ce T s
theorem HC.fw {K : List Cl} {ce : CE} {q : Nat} {r life : Int32} {y : St3} {T c : Nat} {P : Nat → Nat → Prop} {s t : cS} (h : HC K ce q r life y T c s) (hF : Fw P s t) (hd : ∀ k, ¬ P T k) : HC K ce q r life y T c t := by
  obtain ⟨h1, h2, h3, h4, h5, h6⟩ := h
  have e : ∀ k, iG t T k = iG s T k := fun k => hF.int (hd k)
  refine ⟨(e 1).trans h1, (e 2).trans h2, ?_, (e 8).trans h4, fun z => (e 6).trans (h5 z), ?_⟩
  · unfold x3 at h3 ⊢
    rw [e, e, e]
    exact h3
  · unfold KnI at h6 ⊢
    simp only [e]
    exact h6
def xA (L h o k : Nat) : Prop := (36 + 8 * h ≤ o ∧ o < 44 + 8 * h ∧ 3 ≤ k ∧ k ≤ 15) ∨ o = L + 6 ∨ o = L + 7 ∨ (o = L ∧ 10 ≤ k ∧ k ≤ 12)
/-- what the class's pulls look at -/
def PX (K : List Cl) (L n : Nat) (ce : Nat → CE) (ρ : Nat → Int32) (s : cS) : Prop := s.1.1 = L ∧ LwX K L s ∧ iG s 3 7 = nI n ∧ ∀ c, c < n → ceX s c = ce c ∧ iG s 7 c = ρ c
theorem PX.fw {K : List Cl} {L n h : Nat} {ce : Nat → CE} {ρ : Nat → Int32} {s t : cS} (hL : L = 11 ∨ L = 19) (h' : PX K L n ce ρ s) (hF : Fw (xA L h) s t) : PX K L n ce ρ t := by
  obtain ⟨h1, h2, h3, h4⟩ := h'
  refine ⟨by rw [hF.1]; exact h1, h2.fw hF fun o k z => ?_, (hF.int (by unfold xA; omega)).trans h3, fun c hc => ?_⟩
  · unfold lwQ at z
    unfold xA
    omega
  · obtain ⟨a, b⟩ := h4 c hc
    refine ⟨?_, (hF.int (by unfold xA; omega)).trans b⟩
    rw [← a]
    unfold ceX
    rw [hF.int (by unfold xA; omega), hF.int (by unfold xA; omega), hF.int (by unfold xA; omega)]
/-- one corner, one pull -/
theorem x_hc {K : List Cl} {L n h c q : Nat} {ce : Nat → CE} {life ρ : Nat → Int32} {y : Nat → St3} {s : cS} (hL : L = 11 ∨ L = 19) (hh : h < 10) (hn : n ≤ 8) (hc : c < n) (hq : q < 2 ^ 31 - 1) (hP : PX K L n ce ρ s) (h4 : 0 ≤ (y c).2.1) (hC : HC K (ce c) q 0 (life c) (y c) (sT h c) c s) (p : Int32) : ∃ s', Ev (fun N => f_X8_pullBy N (sT h c) p s) ((), s') ∧ HC K (ce c) (q + 1) (if hRun life ρ (hstp K ce life p (nI q) y) c = true then nI (q + 1) else 0) (life c) (hstp K ce life p (nI q) y c) (sT h c) c s' ∧ Fw (xU L (sT h c)) s s' := by
  obtain ⟨c1, c2, c3, c4, c5, c6⟩ := hC
  obtain ⟨p1, p2, p3, p4⟩ := hP
  obtain ⟨g1, g2⟩ := p4 c hc
  by_cases z : life c = 0
  · have hr : hRun life ρ (hstp K ce life p (nI q) y) c = false := by
      unfold hRun
      exact decide_eq_false fun w => w.1 z
    refine ⟨s, x_pull0 p (Or.inl (by rw [c2, z])), ⟨c1, c2, ?_, ?_, fun w => absurd z w, c6⟩, Fw.rf⟩
    · unfold hstp
      rw [if_pos z]
      exact c3
    · rw [hr, if_neg (by decide)]
      exact c4
  · have e4 : iG s (sT h c) 4 = (y c).2.1 := by rw [← c3]; rfl
    have e6 := c5 z
    obtain ⟨s', e1, e2, e3, -, e5, e7, e8⟩ := x_pullBy hL (T := sT h c) (kdS (by omega)) p1 p2 (c := c) (by omega) c1 (by rw [g1]; exact c6) (by rw [c2]; exact z) c4 (by rw [e4]; exact h4) p
    rw [g1, c2, e6, c3] at e2
    rw [g1] at e7
    rw [e6, nI_1] at e3
    rw [e6, nI_1, g2] at e5
    have hst : hstp K ce life p (nI q) y c = stpS K (ce c) (life c) p (nI q) (y c) := by unfold hstp; rw [if_neg z]
    have e2' : x3 (sT h c) s' = hstp K ce life p (nI q) y c := e2.trans hst.symm
    have e4' : iG s' (sT h c) 4 = (hstp K ce life p (nI q) y c).2.1 := by rw [← e2']; rfl
    refine ⟨s', e1, ⟨?_, ?_, e2', ?_, fun _ => e3, e7⟩, e8⟩
    · rw [e8.int (by unfold xU sT; rcases hL with rfl | rfl <;> omega)]
      exact c1
    · rw [e8.int (by unfold xU sT; rcases hL with rfl | rfl <;> omega)]
      exact c2
    · rw [e5, e4']
      unfold hRun
      by_cases w : (hstp K ce life p (nI q) y c).2.1 ≤ 0 ∨ (hstp K ce life p (nI q) y c).2.1 < ρ c
      · rw [if_pos w, if_neg (by rw [decide_eq_true_eq]; exact fun v => v.2 w)]
      · rw [if_neg w, if_pos (by rw [decide_eq_true_eq]; exact ⟨z, w⟩)]
/-- all corners, one pull -/
theorem x_pa_lp {K : List Cl} {L n h q : Nat} {ce : Nat → CE} {life ρ : Nat → Int32} {y : Nat → St3} (hL : L = 11 ∨ L = 19) (hh : h < 10) (hn : n ≤ 8) (hq : q < 2 ^ 31 - 1) (h4 : ∀ c, c < n → 0 ≤ (y c).2.1) (p : Int32) : ∀ (d c : Nat) (s : cS), c + d = n → PX K L n ce ρ s → (∀ c', c ≤ c' → c' < n → HC K (ce c') q 0 (life c') (y c') (sT h c') c' s) → (∀ c', c' < c → HC K (ce c') (q + 1) (if hRun life ρ (hstp K ce life p (nI q) y) c' = true then nI (q + 1) else 0) (life c') (hstp K ce life p (nI q) y c') (sT h c') c' s) → ∃ s', EL (fun N (v : (Int32 × Int32) × cS) => b_X2_pullAll_5 N (nI h) p v.1.1 v.1.2 v.2) ((lostF (hRun life ρ (hstp K ce life p (nI q) y)) c, nI c), s) (lostF (hRun life ρ (hstp K ce life p (nI q) y)) n, s') ∧ (∀ c', c' < n → HC K (ce c') (q + 1) (if hRun life ρ (hstp K ce life p (nI q) y) c' = true then nI (q + 1) else 0) (life c') (hstp K ce life p (nI q) y c') (sT h c') c' s') ∧ Fw (xA L h) s s' := by
  intro d
  induction d with
  | zero =>
    intro c s hd hP _ h2
    have hcn : c = n := by omega
    subst hcn
    refine ⟨s, EL.en (Ev.of fun N => ?_), h2, Fw.rf⟩
    show b_X2_pullAll_5 N (nI h) p _ (nI c) s = _
    unfold b_X2_pullAll_5 f_X1_size
    rw [hP.2.2.1, if_pos (nI_le (Nat.le_refl _) (by omega))]
    rfl
  | succ d ih =>
    intro c s hd hP h1 h2
    obtain ⟨s1, e1, e2, e3⟩ := x_hc (life := life) (y := y) (c := c) hL hh hn (by omega) hq hP (h4 c (by omega)) (h1 c (Nat.le_refl _) (by omega)) p
    have e3' : Fw (xA L h) s s1 := e3.mo fun o k z => by unfold xU sT at z; unfold xA; omega
    have hdis : ∀ c', c' < 8 → c' ≠ c → ∀ k, ¬ xU L (sT h c) (sT h c') k := by
      intro c' hc' hne k z
      unfold xU sT at z
      rcases hL with rfl | rfl <;> omega
    have hI := ih (c + 1) s1 (by omega) (hP.fw hL e3') (fun c' a b => (h1 c' (by omega) b).fw e3 (hdis c' (by omega) (by omega))) (fun c' a => by
      by_cases z : c' = c
      · subst z; exact e2
      · exact (h2 c' (by omega)).fw e3 (hdis c' (by omega) z))
    obtain ⟨s', k1, k2, k3⟩ := hI
    refine ⟨s', EL.st (Ev.cg (Ev.bnd e1 (k := fun _ _ s10 => if lostF (hRun life ρ (hstp K ce life p (nI q) y)) c = (-1 : Int32) then if (f_X8_ranBy (sT h c) s10) ≤ 0 then j_X2_pullAll_55 (nI h) p (lostF (hRun life ρ (hstp K ce life p (nI q) y)) c) (nI c) s10 else j_X2_pullAll_56 (nI h) p (nI c) (nI c) s10 else j_X2_pullAll_55 (nI h) p (lostF (hRun life ρ (hstp K ce life p (nI q) y)) c) (nI c) s10) (Ev.of fun N => ?_)) (fun N => ?_)) k1, k2, e3'.tr k3⟩
    · have e8 := e2.2.2.2.1
      unfold f_X8_ranBy j_X2_pullAll_55 j_X2_pullAll_56 j_X2_pullAll_57
      rw [e8, nI_1]
      show _ = some (Sum.inl ((if lostF (hRun life ρ (hstp K ce life p (nI q) y)) c = -1 ∧ hRun life ρ (hstp K ce life p (nI q) y) c = true then nI c else lostF (hRun life ρ (hstp K ce life p (nI q) y)) c, nI (c + 1)), s1))
      by_cases z : lostF (hRun life ρ (hstp K ce life p (nI q) y)) c = -1
      · rw [if_pos z]
        by_cases w : hRun life ρ (hstp K ce life p (nI q) y) c = true
        · rw [if_pos w, if_neg (c := nI (q + 1) ≤ (0 : Int32)) (nI_ge (b := q + 1) (a := 0) (by omega) (by omega)), if_pos ⟨z, w⟩]
        · rw [if_neg w, if_pos (by decide), if_neg (fun v => w v.2)]
      · rw [if_neg z, if_neg (fun v => z v.1)]
    · show b_X2_pullAll_5 N (nI h) p (lostF (hRun life ρ (hstp K ce life p (nI q) y)) c) (nI c) s = _
      unfold b_X2_pullAll_5 f_X1_size
      rw [hP.2.2.1, if_neg (nI_ge (by omega) (by omega)), x_strainOf hh (by omega), ob_mk, orf_mk, if_pos (c := kd (sT h c) 8) (kdS (k := 8 * h + c) (by omega))]
/-- a hull goes on: the memos are forgotten first -/
theorem KnI.f0 {K : List Cl} {ce : CE} {T : Nat} {s : cS} (h : iG s T 9 = 0) : KnI K ce T s := Or.inl h
def HC0 (q : Nat) (life : Int32) (y : St3) (T c : Nat) (s : cS) : Prop := iG s T 1 = nI c ∧ iG s T 2 = life ∧ x3 T s = y ∧ iG s T 8 = 0 ∧ (life ≠ 0 → iG s T 6 = nI q)
theorem x_forget {K : List Cl} {n h q : Nat} {ce : Nat → CE} {life : Nat → Int32} {y : Nat → St3} (hh : h < 10) (hn : n ≤ 8) {p a2 : Int32} : ∀ (d c : Nat) (s : cS), c + d = n → iG s 3 7 = nI n → (∀ c', c' < n → HC0 q (life c') (y c') (sT h c') c' s) → (∀ c', c' < c → iG s (sT h c') 9 = 0) → ∃ s', (∀ c', c' < n → HC K (ce c') q 0 (life c') (y c') (sT h c') c' s') ∧ Fw (fun o k => 36 + 8 * h ≤ o ∧ o < 44 + 8 * h ∧ k = 9) s s' ∧ (∀ v, Ev (fun N => w_X2_goOn_46 N (nI h) p a2 0 0 s') v → EL (fun N (v : Int32 × cS) => b_X2_goOn_3 N (nI h) p a2 v.1 v.2) (nI c, s) v) := by
  intro d
  induction d with
  | zero =>
    intro c s hd h37 h1 h2
    have hcn : c = n := by omega
    subst hcn
    refine ⟨s, fun c' hc' => ?_, Fw.rf, fun v hv => EL.en (Ev.cg (Ev.ret hv) fun N => ?_)⟩
    · obtain ⟨a1, a2, a3, a4, a5⟩ := h1 c' hc'
      exact ⟨a1, a2, a3, a4, a5, KnI.f0 (h2 c' hc')⟩
    · show b_X2_goOn_3 N (nI h) p a2 (nI c) s = _
      unfold b_X2_goOn_3 f_X1_size
      rw [h37, if_pos (nI_le (Nat.le_refl _) (by omega))]
  | succ d ih =>
    intro c s hd h37 h1 h2
    have hF : Fw (fun o k => 36 + 8 * h ≤ o ∧ o < 44 + 8 * h ∧ k = 9) s (iS s (sT h c) 9 0) := Fw.rf.st (by unfold sT; omega)
    obtain ⟨s', k1, k2, k3⟩ := ih (c + 1) (iS s (sT h c) 9 0) (by omega) ((hF.int (by omega)).trans h37) (fun c' hc' => by
      obtain ⟨a1, a2, a3, a4, a5⟩ := h1 c' hc'
      refine ⟨(hF.int (by omega)).trans a1, (hF.int (by omega)).trans a2, ?_, (hF.int (by omega)).trans a4, fun z => (hF.int (by omega)).trans (a5 z)⟩
      rw [← a3]
      unfold x3
      rw [hF.int (by omega), hF.int (by omega), hF.int (by omega)]) (fun c' hc' => by
      by_cases z : c' = c
      · subst z; rw [iG_eq]
      · rw [iG_ne (by unfold sT; omega)]
        exact h2 c' (by omega))
    refine ⟨s', k1, hF.tr k2, fun v hv => EL.st (v' := (nI (c + 1), iS s (sT h c) 9 0)) (Ev.of fun N => ?_) (k3 v hv)⟩
    show b_X2_goOn_3 N (nI h) p a2 (nI c) s = _
    unfold b_X2_goOn_3 f_X1_size
    rw [h37, if_neg (nI_ge (by omega) (by omega)), x_strainOf hh (by omega), ob_mk, orf_mk, if_pos (c := kd (sT h c) 8) (kdS (k := 8 * h + c) (by omega))]
    unfold f_X8_forget j_X2_goOn_34
    rw [sb_mk, tb_mk, nI_1]
