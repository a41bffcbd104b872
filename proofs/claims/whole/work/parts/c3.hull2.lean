/-! a new hull: the class adds it -/
def lfS (m : Nat → Nat) (A : Nat) (s : cS) (c : Nat) : Int32 := if dg4 A c < m c then iG s 9 (4 * c + dg4 A c) else 0
theorem x_lifeOf {n c d : Nat} {m : Nat → Nat} {s : cS} (h : CorN n m s) (hc : c < n) (hd : d < 4) : f_X1_lifeOf (nI c) (nI d) s = if d < m c then iG s 9 (4 * c + d) else 0 := by
  by_cases z : d < m c
  · rw [if_pos z]
    exact life_of h hc z
  · rw [if_neg z]
    have hn := h.1
    have hm := (h.2.2.2.1 c (by omega)).2.2.2.2.2.2
    unfold f_X1_lifeOf
    rcases has_life h hc (nI d) with ⟨a1, -⟩ | ⟨i, hi, he, -, -⟩
    · rw [if_pos a1]
    · exfalso
      have := (nI_eq (a := d) (b := i) (by omega) (by omega)).mp he
      omega
def xHn (h o k : Nat) : Prop := (36 + 8 * h ≤ o ∧ o < 44 + 8 * h ∧ 1 ≤ k ∧ k ≤ 9) ∨ ((o = 34 ∨ o = 35) ∧ k = h) ∨ (o = 32 ∧ k = 4)
theorem x_add_lp {n nh A : Nat} {m : Nat → Nat} {s : cS} (hC : CorN n m s) (hnh : nh < 10) (hA : A < 2 ^ 31) : ∀ (d c : Nat) (t : cS), c + d = n → Fw (fun o k => 36 + 8 * nh ≤ o ∧ o < 44 + 8 * nh ∧ 1 ≤ k ∧ k ≤ 9) s t → iG t 32 4 = nI nh → (∀ c', c' < c → HC0 0 (lfS m A s c') (0, 0, 0) (sT nh c') c' t) → ∃ t', EL (fun _ (v : Int32 × cS) => b_X2_add_2 (nI A) v.1 v.2) (nI c, t) (nI nh, t') ∧ (∀ c', c' < n → HC0 0 (lfS m A s c') (0, 0, 0) (sT nh c') c' t') ∧ iG t' 34 nh = 0 ∧ iG t' 35 nh = -1 ∧ iG t' 32 4 = nI (nh + 1) ∧ Fw (xHn nh) s t' := by
  have hn8 := hC.1
  intro d
  induction d with
  | zero =>
    intro c t hd hF h32 h2
    have hcn : c = n := by omega
    subst hcn
    have h37 : iG t 3 7 = nI c := (hF.int (by omega)).trans hC.2.1
    refine ⟨iS (iS (iS t 34 nh 0) 35 nh (-1)) 32 4 (nI (nh + 1)), EL.en (Ev.of fun N => ?_), fun c' hc' => ?_, ?_, ?_, by rw [iG_eq], (((hF.mo fun o k z => Or.inl z).st (by omega)).st (by omega)).st (by omega)⟩
    · show b_X2_add_2 (nI A) (nI c) t = _
      have e1 : iG (iS t 34 nh 0) 32 4 = nI nh := h32
      have e2 : iG (iS (iS t 34 nh 0) 35 nh (-1)) 32 4 = nI nh := h32
      unfold b_X2_add_2 f_X1_size
      rw [h37, if_pos (nI_le (Nat.le_refl _) (by omega)), h32, pA_n (by omega) (by omega), sb_mk, e1, pA_n (by omega) (by omega), sb_mk, e2, nI_1, sb_mk, iG_eq, show nI (nh + 1) - (1 : Int32) = nI nh from pk_sub (b := 1) (by omega)]
      rfl
    · obtain ⟨a1, a2, a3, a4, a5⟩ := h2 c' hc'
      have e : ∀ k, iG (iS (iS (iS t 34 nh 0) 35 nh (-1)) 32 4 (nI (nh + 1))) (sT nh c') k = iG t (sT nh c') k := fun k => by
        rw [iG_ne (by unfold sT; omega), iG_ne (by unfold sT; omega), iG_ne (by unfold sT; omega)]
      refine ⟨(e 1).trans a1, (e 2).trans a2, ?_, (e 8).trans a4, fun z => (e 6).trans (a5 z)⟩
      rw [← a3]
      unfold x3
      rw [e, e, e]
    · rw [iG_ne (by decide), iG_ne (by decide), iG_eq]
    · rw [iG_ne (by decide), iG_eq]
  | succ d ih =>
    intro c t hd hF h32 h2
    have h37 : iG t 3 7 = nI n := (hF.int (by omega)).trans hC.2.1
    have hCt : CorN n m t := hC.fw hF fun o k z => by unfold corQ at z; omega
    have hd4 := dg4_lt (A := A) (c := c)
    have hlf : f_X1_lifeOf (nI c) (nI (dg4 A c)) t = lfS m A s c := by
      rw [x_lifeOf hCt (by omega) hd4, hF.int (by omega)]
      rfl
    generalize ht1 : (f_X8_begin (sT nh c) (nI c) (lfS m A s c) t).2 = t1
    have hb : f_X8_begin (sT nh c) (nI c) (lfS m A s c) t = ((), t1) := by rw [← ht1]
    have hF1 : Fw (fun o k => o = sT nh c ∧ 1 ≤ k ∧ k ≤ 9) t t1 := by
      rw [← ht1]
      unfold f_X8_begin
      simp only [sb_mk]
      exact ((((((((Fw.rf.st (by omega)).st (by omega)).st (by omega)).st (by omega)).st (by omega)).st (by omega)).st (by omega)).st (by omega)).st (by omega)
    have hnew : HC0 0 (lfS m A s c) (0, 0, 0) (sT nh c) c t1 := by
      rw [← ht1]
      unfold f_X8_begin
      simp only [sb_mk]
      refine ⟨?_, ?_, ?_, ?_, fun _ => ?_⟩
      · simp [iG_if]
      · simp [iG_if]
      · unfold x3
        simp [iG_if]
      · simp [iG_if]
      · simp [iG_if]
        rfl
    obtain ⟨t', k1, k2⟩ := ih (c + 1) t1 (by omega) (hF.tr (hF1.mo fun o k z => by unfold sT at z; omega)) ((hF1.int (by unfold sT; omega)).trans h32) (fun c' a => by
      by_cases z : c' = c
      · subst z; exact hnew
      · obtain ⟨a1, a2, a3, a4, a5⟩ := h2 c' (by omega)
        have e : ∀ k, iG t1 (sT nh c') k = iG t (sT nh c') k := fun k => hF1.int (by unfold sT; omega)
        refine ⟨(e 1).trans a1, (e 2).trans a2, ?_, (e 8).trans a4, fun z => (e 6).trans (a5 z)⟩
        rw [← a3]
        unfold x3
        rw [e, e, e])
    refine ⟨t', EL.st (v' := (nI (c + 1), t1)) (Ev.of fun N => ?_) k1, k2⟩
    show b_X2_add_2 (nI A) (nI c) t = _
    unfold b_X2_add_2 f_X1_size
    rw [h37, if_neg (nI_ge (by omega) (by omega)), h32, x_strainOf hnh (by omega), ob_mk, orf_mk, if_pos (c := kd (sT nh c) 8) (kdS (k := 8 * nh + c) (by omega)), h_dig hA (by omega), hlf, hb, tb_mk]
    unfold j_X2_add_47
    rw [nI_1]
