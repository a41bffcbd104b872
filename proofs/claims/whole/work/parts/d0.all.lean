/-! the reference reckons all runs -/
def allP (o k : Nat) : Prop := mG o k ∨ o = 223
def aiP (c o k : Nat) : Prop := mG o k ∨ (o = 223 ∧ 4 * c ≤ k ∧ k < 4 * c + 4)
theorem aiP_all {c o k : Nat} (h : aiP c o k) : allP o k := by
  unfold aiP at h
  unfold allP
  rcases h with h | h
  · exact Or.inl h
  · exact Or.inr h.1
theorem all_M {K : List Cl} {s t : cS} (hM : LwM K s) (hF : Fw allP s t) : LwM K t := hM.fw hF fun o k z => by
  unfold lmQ at z
  unfold allP mG mR
  omega
theorem all_C {n : Nat} {m : Nat → Nat} {s t : cS} (hC : CorN n m s) (hF : Fw allP s t) : CorN n m t := hC.fw hF fun o k z => by unfold corQ at z; unfold allP mG mR; omega
theorem all_R {K : List Cl} {s t : cS} {p : Int32} {ps : List (Nat × Nat)} (hF : Fw allP s t) : RNP K t p ps = RNP K s p ps := RNP_cg fun o k a b => hF.int (by unfold allP mG mR; omega)
def prgM (prog : Int32) (ps : List (Nat × Nat)) (s : cS) : Prop := (∃ j, j < 16 ∧ prog = nI j ∧ PrM j ps s) ∨ (prog = -1 ∧ ps = [])
theorem prgM.fw {prog : Int32} {ps : List (Nat × Nat)} {P : Nat → Nat → Prop} {s t : cS} (h : prgM prog ps s) (hF : Fw P s t) (hd : ∀ o k, 217 ≤ o → o ≤ 220 → ¬ P o k) : prgM prog ps t := by
  rcases h with ⟨j, a, b, c⟩ | h
  · exact Or.inl ⟨j, a, b, PrM.rd.fw hF c fun o k z => hd o k z.1 z.2⟩
  · exact Or.inr h
theorem m_all_in {K : List Cl} {n pc fl : Nat} {m : Nat → Nat} {ps : List (Nat × Nat)} {s : cS} {prog p : Int32} {c : Nat} (hf : LwF K) (hM : LwM K s) (hC : CorN n m s) (hP : prgM prog ps s) (hc : c < n) (htot : pls ps + fl ≤ 2000) (hpc : pc < 2 ^ 31) (hb : bit pc c) : ∀ (d i : Nat) (t : cS), i + d = m c → Fw allP s t → (∀ i', i' < i → iG t 223 (4 * c + i') = nI (fst1 (RNP K s p ps c i') (pls ps + fl))) → ∃ t', EL (fun N (v : Int32 × cS) => b_X12_all_15 N (nI pc) prog p (nI fl) (nI c) v.1 v.2) (nI i, t) (.inl (nI (c + 1), t')) ∧ (∀ i', i' < m c → iG t' 223 (4 * c + i') = nI (fst1 (RNP K s p ps c i') (pls ps + fl))) ∧ Fw (aiP c) t t' := by
  have hn8 := hC.1
  have hm4 := (hC.2.2.2.1 c (by omega)).2.2.2.2.2.2
  have hin : inb (nI c) 8 := (inb_n (by omega)).mpr (by omega)
  have hcl : (nI c).toNatClampNeg = c := nI_clamp (by omega)
  intro d
  induction d with
  | zero =>
    intro i t hd hF h2
    have hi : i = m c := by omega
    have hCt := all_C hC hF
    have h199 := (hCt.2.2.2.1 c (by omega)).2.2.2.2.2.1
    refine ⟨t, EL.en (Ev.of fun N => ?_), fun i' hi' => h2 i' (by omega), Fw.rf⟩
    show b_X12_all_15 N (nI pc) prog p (nI fl) (nI c) (nI i) t = _
    unfold b_X12_all_15 j_X12_all_80
    simp only [if_pos hin, hcl, h199, if_pos (nI_le (show m c ≤ i by omega) (by omega)), nI_1]
    rfl
  | succ d ih =>
    intro i t hd hF h2
    have hCt := all_C hC hF
    obtain ⟨-, -, -, q4, -, h199, -⟩ := hCt.2.2.2.1 c (by omega)
    have hρ := hCt.2.2.2.2.2.1 c hc
    obtain ⟨u1, -, -, -⟩ := hCt.2.2.2.2.2.2 c i (by omega) (by omega)
    have hix : inb (nI (4 * c + i)) 32 := (inb_n (by omega)).mpr (by omega)
    have hcx : (nI (4 * c + i)).toNatClampNeg = 4 * c + i := nI_clamp (by omega)
    obtain ⟨t1, k1, -, k3, k4⟩ := m_goes (K := K) (life := iG t 9 (4 * c + i)) (ρ := iG t 7 c) (p := p) (prog := prog) (c := c) (fl := fl) (ps := ps) (s := t) hf (all_M hM hF) (by omega) hρ q4.symm htot (hP.fw hF fun o k a b => by unfold allP mG mR; omega)
    have hR : iG t1 193 54 = nI (fst1 (RNP K s p ps c i) (pls ps + fl)) := by
      rw [k3, ← hCt.ce (by omega), ← all_R hF]
      rfl
    generalize ht2 : iS t1 223 (4 * c + i) (nI (fst1 (RNP K s p ps c i) (pls ps + fl))) = t2
    have hF12 : Fw (aiP c) t t2 := by
      rw [← ht2]
      exact (k4.mo fun o k z => Or.inl z).st (Or.inr ⟨rfl, by omega, by omega⟩)
    obtain ⟨t', e1, e2, e3⟩ := ih (i + 1) t2 (by omega) (hF.tr (hF12.mo fun o k z => aiP_all z)) (fun i' hi' => by
      by_cases z : i' = i
      · subst z
        rw [← ht2, iG_eq]
      · rw [← ht2, iG_nk (by omega), k4.int (by unfold mG mR; omega)]
        exact h2 i' (by omega))
    refine ⟨t', EL.st (v' := (nI (i + 1), t2)) (Ev.cg (Ev.bnd k1 (k := fun _ _ s8 => sb (iS s8 223 (4 * c + i) (iG s8 193 54)) fun s10 => some (.inl (nI (i + 1), s10))) (Ev.of fun N => ?_)) fun N => ?_) e1, e2, hF12.tr e3⟩
    · rw [hR, sb_mk, ht2]
    · show b_X12_all_15 N (nI pc) prog p (nI fl) (nI c) (nI i) t = _
      unfold b_X12_all_15
      have hh := m_isIn (s := t) hpc (show c < 8 by omega)
      rw [if_pos hb] at hh
      have hh' : ¬ f_X12_has (nI pc) (nI c) t = 0 := by rw [hh]; decide
      simp only [if_pos hin, hcl, h199, if_neg (nI_ge (show i < m c by omega) (by omega)), if_neg hh', ix4', if_pos hix, hcx, nI_1, u1]
theorem m_all_sk {n pc : Nat} {m : Nat → Nat} {t : cS} {prog p fl : Int32} {c : Nat} (hC : CorN n m t) (hc : c < n) (hpc : pc < 2 ^ 31) (hb : ¬ bit pc c) : EL (fun N (v : Int32 × cS) => b_X12_all_15 N (nI pc) prog p fl (nI c) v.1 v.2) (nI 0, t) (.inl (nI (c + 1), t)) := by
  have hn8 := hC.1
  have h199 := (hC.2.2.2.1 c (by omega)).2.2.2.2.2.1
  have hin : inb (nI c) 8 := (inb_n (by omega)).mpr (by omega)
  have hcl : (nI c).toNatClampNeg = c := nI_clamp (by omega)
  have hh := m_isIn (s := t) hpc (show c < 8 by omega)
  rw [if_neg hb] at hh
  refine EL.en (Ev.of fun N => ?_)
  show b_X12_all_15 N (nI pc) prog p fl (nI c) (nI 0) t = _
  unfold b_X12_all_15 j_X12_all_80
  simp only [if_pos hin, hcl, h199, hh, nI_1]
  split
  · rfl
  · rw [if_pos trivial]
    rfl
/-- the reference's runs of the corners of a piece -/
def RnM (m : Nat → Nat) (R : Nat → Nat → Nat → Bool) (tot c : Nat) (t : cS) : Prop := ∀ i, i < m c → iG t 223 (4 * c + i) = nI (fst1 (R c i) tot)
theorem m_all {K : List Cl} {n pc fl : Nat} {m : Nat → Nat} {ps : List (Nat × Nat)} {s : cS} {prog p : Int32} (hf : LwF K) (hM : LwM K s) (hC : CorN n m s) (hP : prgM prog ps s) (htot : pls ps + fl ≤ 2000) (hpc : pc < 2 ^ 31) : ∃ s', Ev (fun N => f_X12_all N (nI pc) prog p (nI fl) s) ((), s') ∧ (∀ c, c < n → bit pc c → RnM m (RNP K s p ps) (pls ps + fl) c s') ∧ Fw allP s s' := by
  have hn8 := hC.1
  have hm4 : ∀ c, c < 8 → m c ≤ 4 := fun c hc => (hC.2.2.2.1 c hc).2.2.2.2.2.2
  have hlp : ∀ (d c : Nat) (t : cS), c + d = n → Fw allP s t → (∀ c', c' < c → bit pc c' → RnM m (RNP K s p ps) (pls ps + fl) c' t) → ∃ t', EL (fun N (v : Int32 × cS) => b_X12_all_3 N (nI pc) prog p (nI fl) v.1 v.2) (nI c, t) ((), t') ∧ (∀ c', c' < n → bit pc c' → RnM m (RNP K s p ps) (pls ps + fl) c' t') ∧ Fw allP s t' := by
    intro d
    induction d with
    | zero =>
      intro c t hd hF h2
      have hcn : c = n := by omega
      subst hcn
      refine ⟨t, EL.en (Ev.of fun N => ?_), h2, hF⟩
      show b_X12_all_3 N (nI pc) prog p (nI fl) (nI c) t = _
      unfold b_X12_all_3
      rw [(all_C hC hF).2.2.1, if_pos (nI_le (Nat.le_refl _) (by omega))]
      rfl
    | succ d ih =>
      intro c t hd hF h2
      have hB : ∀ N, b_X12_all_3 N (nI pc) prog p (nI fl) (nI c) t = itr (fun (v : Int32 × cS) => b_X12_all_15 N (nI pc) prog p (nI fl) (nI c) v.1 v.2) N (nI 0, t) := by
        intro N
        unfold b_X12_all_3
        rw [(all_C hC hF).2.2.1, if_neg (nI_ge (by omega) (by omega))]
        rfl
      by_cases hb : bit pc c
      · obtain ⟨t1, a1, a2, a3⟩ := m_all_in (prog := prog) (p := p) hf hM hC hP (show c < n by omega) htot hpc hb (m c) 0 t (by omega) hF (fun i' hi' => by omega)
        obtain ⟨t', k1, k2, k3⟩ := ih (c + 1) t1 (by omega) (hF.tr (a3.mo fun o k z => aiP_all z)) (fun c' x1 x2 => by
          by_cases z : c' = c
          · subst z
            exact a2
          · intro i hi
            have := hm4 c' (by omega)
            rw [a3.int (by unfold aiP mG mR; omega)]
            exact h2 c' (by omega) x2 i hi)
        exact ⟨t', EL.st (v' := (nI (c + 1), t1)) (Ev.cg a1.ev hB) k1, k2, k3⟩
      · obtain ⟨t', k1, k2, k3⟩ := ih (c + 1) t (by omega) hF (fun c' x1 x2 => by
          by_cases z : c' = c
          · subst z
            exact absurd x2 hb
          · exact h2 c' (by omega) x2)
        exact ⟨t', EL.st (v' := (nI (c + 1), t)) (Ev.cg (m_all_sk (all_C hC hF) (by omega) hpc hb).ev hB) k1, k2, k3⟩
  obtain ⟨s', k1, k2, k3⟩ := hlp n 0 s (by omega) Fw.rf (fun c' a => by omega)
  exact ⟨s', Ev.cg k1.ev fun N => rfl, k2, k3⟩
