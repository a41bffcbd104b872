/-! the reference along a program and flights -/
def PV (prog : Int32) (ps : List (Nat × Nat)) (s : cS) : Prop := ∀ x y, ps[x]? = some y → inb ((8 : Int32) * prog + nI x) 128 ∧ iG s 218 ((8 : Int32) * prog + nI x).toNatClampNeg = nI y.1 ∧ iG s 219 ((8 : Int32) * prog + nI x).toNatClampNeg = nI y.2
theorem PV.of {j : Nat} {ps : List (Nat × Nat)} {s : cS} (hj : j < 16) (h : PrM j ps s) : PV (nI j) ps s := by
  obtain ⟨h1, h2, h3, h4, h5⟩ := h
  intro x y hy
  have hx := (List.getElem?_eq_some_iff.mp hy).1
  have e : (8 : Int32) * nI j + nI x = nI (8 * j + x) := by
    show nI 8 * nI j + nI x = _
    rw [pk_mul, nI_add]
  rw [e, nI_clamp (by omega)]
  exact ⟨(inb_n (by omega)).mpr (by omega), h5 x y hy⟩
theorem PV.fw {prog : Int32} {ps : List (Nat × Nat)} {s t : cS} (h : PV prog ps s) (hF : Fw mG s t) : PV prog ps t := by
  intro x y hy
  rw [hF.int (by unfold mG mR; omega), hF.int (by unfold mG mR; omega)]
  exact h x y hy
abbrev gB (life prog p fl np : Int32) (N : Nat) (v : Int32 × cS) : Option ((Int32 × cS) ⊕ (Unit × cS)) := b_X12_goes_35 N life prog p fl np v.1 v.2
theorem m_out {K : List Cl} {ce : CE} {life ρ p prog : Int32} {c fl : Nat} {ps : List (Nat × Nat)} (hf : LwF K) (hc : c < 8) (hρ : 1 ≤ ρ.toInt ∧ ρ.toInt ≤ 10000) (hps : ps.length ≤ 8) (htot : pls ps + fl ≤ 2000) : ∀ (rest pre : List (Nat × Nat)) (s : cS), ps = pre ++ rest → PV prog ps s → LwM K s → iG s 198 c = ρ → ceM s c = ce → GM K ce life ρ (rowOf p ps) c (pls pre) s → ∃ s', EL (gB life prog p (nI fl) (nI ps.length)) (nI pre.length, s) ((), s') ∧ GM K ce life ρ (rowOf p ps) c (pls ps + fl) s' ∧ Fw mG s s' := by
  have h39F : ∀ {s : cS} {v : Int32}, Fw mG s (iS s 193 39 v) := Fw.rf.st (Or.inr ⟨rfl, Or.inl ⟨by decide, by decide⟩⟩)
  have hend : ∀ (x m : Nat) (s : cS), x ≤ 9 → GM K ce life ρ (rowOf p ps) c m s → m ≤ 2000 → (ps.length < x ∨ fst1 (RunP (traj K ce life (rowOf p ps)) ρ) m ≠ 0) → EL (gB life prog p (nI fl) (nI ps.length)) (nI x, s) ((), s) := by
    intro x m s hx h hm hz
    refine EL.en (Ev.of fun N => ?_)
    show b_X12_goes_35 N life prog p (nI fl) (nI ps.length) (nI x) s = _
    unfold b_X12_goes_35
    by_cases z : ps.length < x
    · rw [if_pos (nI_lt z (by omega))]; rfl
    · have hle := fst1_le (RunP (traj K ce life (rowOf p ps)) ρ) m
      rw [if_neg (nI_nlt (by omega) (by omega)), h.2.1, if_neg (nI_ne0 (by have := hz.resolve_left z; omega) (by omega))]
      rfl
  have hg39 : ∀ {m : Nat} {s : cS} {v : Int32}, fst1 (RunP (traj K ce life (rowOf p ps)) ρ) m = 0 → GM K ce life ρ (rowOf p ps) c m s → GM K ce life ρ (rowOf p ps) c m (iS s 193 39 v) := by
    intro m s v hz h
    obtain ⟨h1, h2, h3, h4⟩ := h
    exact ⟨h1, h2, h3, h4⟩
  intro rest
  induction rest with
  | nil =>
    intro pre s hpp hpv hK hr hce h
    have hpre : ps = pre := by rw [hpp, List.append_nil]
    subst hpre
    by_cases hz : fst1 (RunP (traj K ce life (rowOf p ps)) ρ) (pls ps) = 0
    · obtain ⟨s', e1, e2, e3⟩ := m_in (x := ps.length) (prog := prog) (p := p) (fl := nI fl) (np := nI ps.length) (tm := nI fl) (t := fl) (m0 := pls ps) (row := rowOf p ps) hf hc hρ rfl htot fl 0 (iS s 193 39 p) (by omega) (LwM.rd.fw h39F hK fun o k z => by unfold lmQ at z; unfold mG mR; omega) hr hce (hg39 hz h) (fun i hi => by rw [iG_eq, rowOf_out])
      refine ⟨s', EL.st (v' := (nI (ps.length + 1), s')) (Ev.cg e1.ev (fun N => ?_)) (hend _ _ _ (by omega) e2 htot (Or.inl (by omega))), e2, h39F.tr e3⟩
      show b_X12_goes_35 N life prog p (nI fl) (nI ps.length) (nI ps.length) s = _
      unfold b_X12_goes_35 j_X12_goes_74
      rw [if_neg (nI_nlt (Nat.le_refl _) (by omega)), h.2.1, hz, if_pos (by rfl), if_pos rfl, sb_mk, if_pos rfl]
      rfl
    · exact ⟨s, hend _ _ _ (by omega) h (by omega) (Or.inr hz), h.run hz fl, Fw.rf⟩
  | cons y rest ih =>
    intro pre s hpp hpv hK hr hce h
    have hlen : ps.length = pre.length + (rest.length + 1) := by rw [hpp]; simp
    have hpl : pls ps = pls pre + (y.2 + pls rest) := by rw [hpp, pls_app]; rfl
    by_cases hz : fst1 (RunP (traj K ce life (rowOf p ps)) ρ) (pls pre) = 0
    · have hy : ps[pre.length]? = some y := by rw [hpp]; simp
      obtain ⟨i1, i2, i3⟩ := hpv _ _ hy
      obtain ⟨s1, e1, e2, e3⟩ := m_in (x := pre.length) (prog := prog) (p := p) (fl := nI fl) (np := nI ps.length) (tm := nI y.2) (t := y.2) (m0 := pls pre) (row := rowOf p ps) hf hc hρ rfl (by omega) y.2 0 (iS s 193 39 (nI y.1)) (by omega) (LwM.rd.fw h39F hK fun o k z => by unfold lmQ at z; unfold mG mR; omega) hr hce (hg39 hz h) (fun i hi => by rw [iG_eq, hpp]; exact rowOf_in hi pre)
      have hF1 : Fw mG s s1 := h39F.tr e3
      have f : ∀ o k, o ≠ 193 → o ≠ 215 → o ≠ 216 → iG s1 o k = iG s o k := fun o k a b d => hF1.int (by unfold mG mR; omega)
      have hce1 : ceM s1 c = ce := by
        rw [← hce]
        unfold ceM
        rw [f 196 c (by omega) (by omega) (by omega), f 197 c (by omega) (by omega) (by omega), f 195 c (by omega) (by omega) (by omega)]
      have hp1 : (pre ++ [y]).length = pre.length + 1 := by simp
      have hp2 : pls (pre ++ [y]) = pls pre + y.2 := by rw [pls_app]; show pls pre + (y.2 + 0) = _; omega
      obtain ⟨s', k1, k2, k3⟩ := ih (pre ++ [y]) s1 (by rw [hpp]; simp) (hpv.fw hF1) (LwM.rd.fw hF1 hK fun o k z => by unfold lmQ at z; unfold mG mR; omega) (by rw [f 198 c (by omega) (by omega) (by omega)]; exact hr) hce1 (by rw [hp2]; exact e2)
      rw [hp1] at k1
      refine ⟨s', EL.st (v' := (nI (pre.length + 1), s1)) (Ev.cg e1.ev (fun N => ?_)) k1, k2, hF1.tr k3⟩
      show b_X12_goes_35 N life prog p (nI fl) (nI ps.length) (nI pre.length) s = _
      unfold b_X12_goes_35 j_X12_goes_74
      have hne : ¬ nI pre.length = nI ps.length := fun w => by have := (nI_eq (by omega) (by omega)).mp w; omega
      have g219 : iG (iS s 193 39 (nI y.1)) 219 ((8 : Int32) * prog + nI pre.length).toNatClampNeg = nI y.2 := by rw [iG_ne (by decide)]; exact i3
      rw [if_neg (nI_nlt (by omega) (by omega)), h.2.1, hz, if_pos (by rfl), if_neg hne, if_pos i1, i2, sb_mk, if_neg hne, if_pos i1, g219]
      rfl
    · have := h.run hz (y.2 + pls rest + fl)
      rw [show pls pre + (y.2 + pls rest + fl) = pls ps + fl by omega] at this
      exact ⟨s, hend _ _ _ (by omega) h (by omega) (Or.inr hz), this, Fw.rf⟩
theorem m_goes {K : List Cl} {life ρ p prog : Int32} {c fl : Nat} {ps : List (Nat × Nat)} {s : cS} (hf : LwF K) (hK : LwM K s) (hc : c < 8) (hρ : 1 ≤ ρ.toInt ∧ ρ.toInt ≤ 10000) (hr : iG s 198 c = ρ) (htot : pls ps + fl ≤ 2000) (hp : (∃ j, j < 16 ∧ prog = nI j ∧ PrM j ps s) ∨ (prog = -1 ∧ ps = [])) : ∃ s', Ev (fun N => f_X12_goes N (nI c) life prog p (nI fl) s) ((), s') ∧ iG s' 193 53 = nI (fst1 (CrkP (traj K (ceM s c) life (rowOf p ps))) (pls ps + fl)) ∧ iG s' 193 54 = nI (fst1 (RunP (traj K (ceM s c) life (rowOf p ps)) ρ) (pls ps + fl)) ∧ Fw mG s s' := by
  generalize hs5 : iS (iS (iS (iS (iS (iS (iS s 193 38 (nI c)) 193 40 0) 193 42 0) 193 43 0) 193 44 0) 193 53 0) 193 54 0 = s5
  have hF : Fw mG s s5 := by
    rw [← hs5]
    refine ((((((Fw.rf.st ?_).st ?_).st ?_).st ?_).st ?_).st ?_).st ?_ <;> (unfold mG; omega)
  have f : ∀ o k, o ≠ 193 → iG s5 o k = iG s o k := by
    intro o k a
    rw [← hs5]
    simp [iG_if, a]
  have hce : ceM s5 c = ceM s c := by
    unfold ceM
    rw [f 196 c (by omega), f 197 c (by omega), f 195 c (by omega)]
  have hG : GM K (ceM s c) life ρ (rowOf p ps) c 0 s5 := by
    rw [← hs5]
    exact ⟨rfl, rfl, rfl, fun _ => ⟨rfl, rfl⟩⟩
  have hlen : ps.length ≤ 8 := by
    rcases hp with ⟨j, -, -, h⟩ | ⟨-, rfl⟩
    · exact h.1
    · exact Nat.zero_le _
  have hpv : PV prog ps s5 := by
    rcases hp with ⟨j, hj, rfl, h⟩ | ⟨-, rfl⟩
    · exact (PV.of hj h).fw hF
    · intro x y hy
      simp at hy
  obtain ⟨s', e1, e2, e3⟩ := m_out (prog := prog) (p := p) hf hc hρ hlen htot ps [] s5 rfl hpv (LwM.rd.fw hF hK fun o k z => by unfold lmQ at z; unfold mG mR; omega) (by rw [f 198 c (by omega)]; exact hr) hce hG
  refine ⟨s', Ev.cg e1.ev (fun N => ?_), e2.1, e2.2.1, hF.tr e3⟩
  unfold f_X12_goes f_X12_takes
  simp only [sb_mk, tb_mk, hs5]
  rcases hp with ⟨j, hj, rfl, h⟩ | ⟨rfl, rfl⟩
  · have hn : ¬ nI j = (-1 : Int32) := fun z => m1_ne (c := j) (by omega) z.symm
    have hl : iG s5 217 j = nI ps.length := by rw [f 217 j (by omega)]; exact h.2.1
    rw [if_neg hn, if_pos ((inb_n (by omega)).mpr hj), nI_clamp (by omega), hl]
    rfl
  · rw [if_pos rfl]
    rfl
