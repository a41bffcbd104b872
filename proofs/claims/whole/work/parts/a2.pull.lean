/-! one pull on a corner with a life: wear, crack, the most it was pulled -/
abbrev St3 : Type := Int32 × Int32 × Int32
def stpS (K : List Cl) (ce : CE) (life p n : Int32) (x : St3) : St3 :=
  if x.2.1 ≤ 0 then ((if x.1 + moreF K ce p n x.2.2 x.2.1 x.1 < 1000000 then x.1 + moreF K ce p n x.2.2 x.2.1 x.1 else 1000000), (if (if x.1 + moreF K ce p n x.2.2 x.2.1 x.1 < 1000000 then x.1 + moreF K ce p n x.2.2 x.2.1 x.1 else 1000000) < life then 0 else 1), (if x.2.2 < pulledF K ce p n x.2.2 x.2.1 x.1 then pulledF K ce p n x.2.2 x.2.1 x.1 else x.2.2))
  else (x.1, x.2.1 + moreF K ce p n x.2.2 x.2.1 x.1, (if x.2.2 < pulledF K ce p n x.2.2 x.2.1 x.1 then pulledF K ce p n x.2.2 x.2.1 x.1 else x.2.2))
def SB (x : St3) : Prop := 0 ≤ x.1.toInt ∧ x.1.toInt ≤ 1000000 ∧ 0 ≤ x.2.1.toInt ∧ x.2.1.toInt ≤ 20000 ∧ 0 ≤ x.2.2.toInt ∧ x.2.2.toInt ≤ 10000
theorem pulledF_bd (K : List Cl) (ce : CE) (p n h l w : Int32) : 0 ≤ (pulledF K ce p n h l w).toInt ∧ (pulledF K ce p n h l w).toInt ≤ 10000 := by
  have := told_bd (V := vE ce p n 0 h l w) (l := 113) (most := 10000) (by decide) K
  have e : (10000 : Int32).toInt = 10000 := rfl
  rw [e] at this
  exact this
theorem moreF_bd (K : List Cl) (ce : CE) (p n h l w : Int32) : 0 ≤ (moreF K ce p n h l w).toInt ∧ (moreF K ce p n h l w).toInt ≤ 100000 ∧ (¬ l ≤ 0 → (moreF K ce p n h l w).toInt ≤ 10000) := by
  unfold moreF
  have e : (10000 : Int32).toInt = 10000 := rfl
  have e2 : (100000 : Int32).toInt = 100000 := rfl
  by_cases z : l ≤ 0
  · rw [if_pos z]
    have := told_bd (V := vE ce p n (pulledF K ce p n h l w) h l w) (l := 100) (most := 100000) (by decide) K
    rw [e2] at this
    exact ⟨this.1, this.2, fun y => absurd z y⟩
  · rw [if_neg z]
    have := told_bd (V := vE ce p n (pulledF K ce p n h l w) h l w) (l := 103) (most := 10000) (by decide) K
    rw [e] at this
    exact ⟨this.1, by omega, fun _ => this.2⟩
theorem stpS_bd {K : List Cl} {ce : CE} {life p n : Int32} {x : St3} (h : SB x) (hx : x.2.1.toInt ≤ 10000) : SB (stpS K ce life p n x) := by
  obtain ⟨h1, h2, h3, h4, h5, h6⟩ := h
  obtain ⟨q1, q2⟩ := pulledF_bd K ce p n x.2.2 x.2.1 x.1
  obtain ⟨m1, m2, m3⟩ := moreF_bd K ce p n x.2.2 x.2.1 x.1
  have hmx : 0 ≤ (if x.2.2 < pulledF K ce p n x.2.2 x.2.1 x.1 then pulledF K ce p n x.2.2 x.2.1 x.1 else x.2.2).toInt ∧ (if x.2.2 < pulledF K ce p n x.2.2 x.2.1 x.1 then pulledF K ce p n x.2.2 x.2.1 x.1 else x.2.2).toInt ≤ 10000 := by
    split
    · exact ⟨q1, q2⟩
    · exact ⟨h5, h6⟩
  have e0 : (0 : Int32).toInt = 0 := rfl
  have e1 : (1 : Int32).toInt = 1 := rfl
  have e6 : (1000000 : Int32).toInt = 1000000 := rfl
  unfold stpS
  by_cases z : x.2.1 ≤ 0
  · rw [if_pos z]
    have ha : (x.1 + moreF K ce p n x.2.2 x.2.1 x.1).toInt = x.1.toInt + (moreF K ce p n x.2.2 x.2.1 x.1).toInt := addi (by omega) (by omega)
    refine ⟨?_, ?_, ?_, ?_, hmx.1, hmx.2⟩
    · dsimp only
      split
      · omega
      · rw [e6]; omega
    · dsimp only
      split
      · rename_i y
        have := lti.mp y
        omega
      · rw [e6]; omega
    · dsimp only
      generalize (if x.1 + moreF K ce p n x.2.2 x.2.1 x.1 < 1000000 then x.1 + moreF K ce p n x.2.2 x.2.1 x.1 else 1000000) = w'
      split
      · rw [e0]; omega
      · rw [e1]; omega
    · dsimp only
      generalize (if x.1 + moreF K ce p n x.2.2 x.2.1 x.1 < 1000000 then x.1 + moreF K ce p n x.2.2 x.2.1 x.1 else 1000000) = w'
      split
      · rw [e0]; omega
      · rw [e1]; omega
  · rw [if_neg z]
    have m4 := m3 z
    have ha : (x.2.1 + moreF K ce p n x.2.2 x.2.1 x.1).toInt = x.2.1.toInt + (moreF K ce p n x.2.2 x.2.1 x.1).toInt := addi (by omega) (by omega)
    refine ⟨h1, h2, ?_, ?_, hmx.1, hmx.2⟩
    · dsimp only; omega
    · dsimp only; omega
/-! the class -/
def x3 (T : Nat) (s : cS) : St3 := (iG s T 3, iG s T 4, iG s T 5)
def xU (L T o k : Nat) : Prop := (o = T ∧ 3 ≤ k ∧ k ≤ 15) ∨ o = L + 6 ∨ o = L + 7 ∨ (o = L ∧ 10 ≤ k ∧ k ≤ 12)
theorem pull28 {L T c : Nat} {s : cS} {life q m : Int32} (hT1 : iG s T 1 = nI c) (hc : c < 8) (hT : 36 ≤ T) (hl : iG s T 2 = life) (h8 : iG s T 8 = 0) (hq : iG s T 14 = q) (hm : iG s T 15 = m) (h4 : 0 ≤ iG s T 4) : ∃ s', j_X8_pullBy_28 T s = some ((), s') ∧ iG s' T 5 = (if iG s T 5 < q then q else iG s T 5) ∧ iG s' T 3 = (if iG s T 4 ≤ 0 then (if iG s T 3 + m < 1000000 then iG s T 3 + m else 1000000) else iG s T 3) ∧ iG s' T 4 = (if iG s T 4 ≤ 0 then (if (if iG s T 3 + m < 1000000 then iG s T 3 + m else 1000000) < life then 0 else 1) else iG s T 4 + m) ∧ iG s' T 6 = iG s T 6 + 1 ∧ iG s' T 7 = (if iG s T 4 ≤ 0 ∧ ¬ (if iG s T 3 + m < 1000000 then iG s T 3 + m else 1000000) < life then iG s T 6 + 1 else iG s T 7) ∧ iG s' T 8 = (if iG s' T 4 ≤ 0 ∨ iG s' T 4 < iG s 7 c then 0 else iG s T 6 + 1) ∧ Fw (fun o k => o = T ∧ 3 ≤ k ∧ k ≤ 8) s s' := by
  have hp : ∀ k, 3 ≤ k → k ≤ 8 → (fun o k => o = T ∧ 3 ≤ k ∧ k ≤ 8) T k := fun k a b => ⟨rfl, a, b⟩
  have h118 : ∀ t : cS, iG t T 1 = nI c → iG t T 8 = 0 → (∀ k, iG t 7 k = iG s 7 k) → ∃ s', j_X8_pullBy_118 T t = some ((), s') ∧ (s' = t ∧ (iG t T 4 ≤ 0 ∨ iG t T 4 < iG s 7 c) ∨ s' = iS t T 8 (iG t T 6) ∧ ¬ (iG t T 4 ≤ 0 ∨ iG t T 4 < iG s 7 c)) := by
    intro t t1 t8 t7
    unfold j_X8_pullBy_118 f_X1_reachOf
    rw [t1, aA_n hc (by omega), t7 c]
    by_cases z : iG t T 4 ≤ 0
    · rw [if_pos z]
      exact ⟨t, rfl, Or.inl ⟨rfl, Or.inl z⟩⟩
    · rw [if_neg z]
      by_cases y : iG t T 4 < iG s 7 c
      · rw [if_pos y]
        exact ⟨t, rfl, Or.inl ⟨rfl, Or.inr y⟩⟩
      · rw [if_neg y, sb_mk]
        exact ⟨_, rfl, Or.inr ⟨rfl, fun w => w.elim z y⟩⟩
  unfold j_X8_pullBy_28
  simp only [sb_mk]
  have r1 : iG (iS s T 6 (iG s T 6 + 1)) T 5 = iG s T 5 := iG_nk (by omega)
  have r2 : iG (iS s T 6 (iG s T 6 + 1)) T 14 = q := by rw [iG_nk (by omega), hq]
  rw [r1, r2]
  generalize hmx : (if iG s T 5 < q then q else iG s T 5) = mx
  generalize hs8 : iS (iS s T 6 (iG s T 6 + 1)) T 5 mx = s8
  have g : ∀ o k, ¬ (o = T ∧ (k = 5 ∨ k = 6)) → iG s8 o k = iG s o k := by
    intro o k h
    rw [← hs8, iG_if]
    by_cases z : o = T
    · rw [if_pos z, if_neg (by omega)]
      rw [iG_if, if_pos z, if_neg (by omega)]
    · rw [if_neg z, iG_ne z]
  have g5 : iG s8 T 5 = mx := by rw [← hs8, iG_eq]
  have g6 : iG s8 T 6 = iG s T 6 + 1 := by rw [← hs8, iG_nk (by omega), iG_eq]
  have hF8 : Fw (fun o k => o = T ∧ 3 ≤ k ∧ k ≤ 8) s s8 := by
    rw [← hs8]
    exact (Fw.rf.st (hp 6 (by decide) (by decide))).st (hp 5 (by decide) (by decide))
  rw [g T 4 (by omega)]
  by_cases z4 : iG s T 4 ≤ 0
  · simp only [if_pos z4, g T 3 (by omega), g T 15 (by omega), hm]
    generalize hw : (if iG s T 3 + m < 1000000 then iG s T 3 + m else 1000000) = w'
    have e3 : iG (iS s8 T 3 w') T 3 = w' := iG_eq
    have e2 : iG (iS s8 T 3 w') T 2 = life := by rw [iG_nk (by omega), g T 2 (by omega), hl]
    have e6 : iG (iS s8 T 3 w') T 6 = iG s T 6 + 1 := by rw [iG_nk (by omega), g6]
    have e40 : iG s T 4 = 0 := by
      have a := lei.mp z4
      have b := lei.mp h4
      exact eqi.mpr (by omega)
    by_cases zl : w' < life
    · obtain ⟨s', k1, k2⟩ := h118 (iS s8 T 3 w') (by rw [iG_nk (by omega), g T 1 (by omega), hT1]) (by rw [iG_nk (by omega), g T 8 (by omega), h8]) (fun k => by rw [iG_ne (by omega), g 7 k (by omega)])
      have t4 : iG (iS s8 T 3 w') T 4 = 0 := by rw [iG_nk (by omega), g T 4 (by omega), e40]
      have hs' : s' = iS s8 T 3 w' := by
        rcases k2 with ⟨a, -⟩ | ⟨-, b⟩
        · exact a
        · exact absurd (Or.inl (by rw [t4]; decide)) b
      subst hs'
      refine ⟨iS s8 T 3 w', by rw [e3, e2, if_pos zl, k1], by rw [iG_nk (by omega), g5], e3, by rw [t4, if_pos zl], e6, ?_, ?_, hF8.st (hp 3 (by decide) (by decide))⟩
      · rw [iG_nk (by omega), g T 7 (by omega), if_neg (fun y => y.2 zl)]
      · rw [iG_nk (by omega), g T 8 (by omega), h8, t4, if_pos (Or.inl (by decide))]
    · have e7 : iG (iS (iS s8 T 3 w') T 4 1) T 6 = iG s T 6 + 1 := by rw [iG_nk (by omega), e6]
      have t4 : iG (iS (iS (iS s8 T 3 w') T 4 1) T 7 (iG s T 6 + 1)) T 4 = 1 := by rw [iG_nk (by omega), iG_eq]
      have t6 : iG (iS (iS (iS s8 T 3 w') T 4 1) T 7 (iG s T 6 + 1)) T 6 = iG s T 6 + 1 := by rw [iG_nk (by omega), e7]
      obtain ⟨s', k1, k2⟩ := h118 (iS (iS (iS s8 T 3 w') T 4 1) T 7 (iG s T 6 + 1)) (by rw [iG_nk (by omega), iG_nk (by omega), iG_nk (by omega), g T 1 (by omega), hT1]) (by rw [iG_nk (by omega), iG_nk (by omega), iG_nk (by omega), g T 8 (by omega), h8]) (fun k => by rw [iG_ne (by omega), iG_ne (by omega), iG_ne (by omega), g 7 k (by omega)])
      rw [t4, t6] at k2
      have hF7 := ((hF8.st (v := w') (hp 3 (by decide) (by decide))).st (v := 1) (hp 4 (by decide) (by decide))).st (v := iG s T 6 + 1) (hp 7 (by decide) (by decide))
      have hrun : (if iG (iS s8 T 3 w') T 3 < iG (iS s8 T 3 w') T 2 then j_X8_pullBy_118 T (iS s8 T 3 w') else j_X8_pullBy_118 T (iS (iS (iS s8 T 3 w') T 4 1) T 7 (iG (iS (iS s8 T 3 w') T 4 1) T 6))) = some ((), s') := by
        rw [e3, e2, if_neg zl, e7, k1]
      rcases k2 with ⟨rfl, b⟩ | ⟨rfl, b⟩
      · refine ⟨_, hrun, by rw [iG_nk (by omega), iG_nk (by omega), iG_nk (by omega), g5], by rw [iG_nk (by omega), iG_nk (by omega), e3], by rw [t4, if_neg zl], t6, by rw [iG_eq, if_pos ⟨z4, zl⟩], ?_, hF7⟩
        rw [iG_nk (by omega), iG_nk (by omega), iG_nk (by omega), g T 8 (by omega), h8, t4, if_pos b]
      · refine ⟨_, hrun, by rw [iG_nk (by omega), iG_nk (by omega), iG_nk (by omega), iG_nk (by omega), g5], by rw [iG_nk (by omega), iG_nk (by omega), iG_nk (by omega), e3], by rw [iG_nk (by omega), t4, if_neg zl], by rw [iG_nk (by omega), t6], by rw [iG_nk (by omega), iG_eq, if_pos ⟨z4, zl⟩], ?_, hF7.st (hp 8 (by decide) (by decide))⟩
        rw [iG_eq, iG_nk (by omega), t4, if_neg b]
  · simp only [if_neg z4]
    rw [g T 15 (by omega), hm]
    have t4 : iG (iS s8 T 4 (iG s T 4 + m)) T 4 = iG s T 4 + m := iG_eq
    have t6 : iG (iS s8 T 4 (iG s T 4 + m)) T 6 = iG s T 6 + 1 := by rw [iG_nk (by omega), g6]
    obtain ⟨s', k1, k2⟩ := h118 (iS s8 T 4 (iG s T 4 + m)) (by rw [iG_nk (by omega), g T 1 (by omega), hT1]) (by rw [iG_nk (by omega), g T 8 (by omega), h8]) (fun k => by rw [iG_ne (by omega), g 7 k (by omega)])
    rw [t4, t6] at k2
    have hF4 := hF8.st (v := iG s T 4 + m) (hp 4 (by decide) (by decide))
    rcases k2 with ⟨rfl, b⟩ | ⟨rfl, b⟩
    · refine ⟨_, k1, by rw [iG_nk (by omega), g5], by rw [iG_nk (by omega), g T 3 (by omega)], t4, t6, by rw [iG_nk (by omega), g T 7 (by omega), if_neg (fun y => z4 y.1)], ?_, hF4⟩
      rw [iG_nk (by omega), g T 8 (by omega), h8, t4, if_pos b]
    · refine ⟨_, k1, by rw [iG_nk (by omega), iG_nk (by omega), g5], by rw [iG_nk (by omega), iG_nk (by omega), g T 3 (by omega)], by rw [iG_nk (by omega), t4], by rw [iG_nk (by omega), t6], by rw [iG_nk (by omega), iG_nk (by omega), g T 7 (by omega), if_neg (fun y => z4 y.1)], ?_, hF4.st (hp 8 (by decide) (by decide))⟩
      rw [iG_eq, iG_nk (by omega), t4, if_neg b]
theorem x_pull0 {T : Nat} {s : cS} (p : Int32) (h : iG s T 2 = 0 ∨ ¬ iG s T 8 ≤ 0) : Ev (fun N => f_X8_pullBy N T p s) ((), s) := by
  refine Ev.of fun N => ?_
  unfold f_X8_pullBy
  by_cases z : iG s T 2 = 0
  · rw [if_pos z]
  · rw [if_neg z, if_neg (h.resolve_left z)]
theorem x_pullBy {K : List Cl} {L T c : Nat} {s : cS} (hL : L = 11 ∨ L = 19) (hT : kd T 8) (h1 : s.1.1 = L) (hK : LwX K L s) (hc : c < 8) (hT1 : iG s T 1 = nI c) (hkn : KnI K (ceX s c) T s) (hl : iG s T 2 ≠ 0) (h8 : iG s T 8 = 0) (h4 : 0 ≤ iG s T 4) (p : Int32) : ∃ s', Ev (fun N => f_X8_pullBy N T p s) ((), s') ∧ x3 T s' = stpS K (ceX s c) (iG s T 2) p (iG s T 6) (x3 T s) ∧ iG s' T 6 = iG s T 6 + 1 ∧ iG s' T 7 = (if iG s T 4 ≤ 0 ∧ ¬ iG s' T 4 ≤ 0 then iG s T 6 + 1 else iG s T 7) ∧ iG s' T 8 = (if iG s' T 4 ≤ 0 ∨ iG s' T 4 < iG s 7 c then 0 else iG s T 6 + 1) ∧ KnI K (ceX s c) T s' ∧ Fw (xU L T) s s' := by
  have hT' := (kd8 T hT).1
  obtain ⟨r, q1, q2⟩ := x_like hL h1 hK hkn p
  -- the state in which both are known
  have hmid : ∃ s4, Ev (fun N => if r = 0 then ob (f_X8_reckon N T p s) fun _ s20 => j_X8_pullBy_28 T s20 else j_X8_pullBy_28 T s) (match j_X8_pullBy_28 T s4 with | some y => y | none => ((), s)) ∧ (∃ y, j_X8_pullBy_28 T s4 = some y) ∧ iG s4 T 14 = pulledF K (ceX s c) p (iG s T 6) (iG s T 5) (iG s T 4) (iG s T 3) ∧ iG s4 T 15 = moreF K (ceX s c) p (iG s T 6) (iG s T 5) (iG s T 4) (iG s T 3) ∧ KnI K (ceX s c) T s4 ∧ Fw (xS L T) s s4 := by
    rcases q2 with z | ⟨z, k1, k2⟩
    · obtain ⟨s4, e1, e2, e3, e4, e5, e6, e7, e8, e9⟩ := x_reckon hL hT h1 hK hc hT1 p
      have f8 : iG s4 T 8 = 0 := by rw [e9.int (by unfold xS; omega), h8]
      have f4 : 0 ≤ iG s4 T 4 := by rw [e9.int (by unfold xS; omega)]; exact h4
      obtain ⟨s', w1, -⟩ := pull28 (L := L) (s := s4) (by rw [e9.int (by unfold xS; omega)]; exact hT1) hc hT' rfl f8 rfl rfl f4
      refine ⟨s4, ?_, ⟨_, w1⟩, e2, e3, Or.inr ⟨iG s T 6, ?_, ?_⟩, e9⟩
      · rw [w1]
        dsimp only
        refine Ev.cg (Ev.bnd e1 (k := fun _ _ s20 => j_X8_pullBy_28 T s20) (Ev.of fun N => w1)) (fun N => ?_)
        rw [if_pos z]
      · rw [e2, e5, e6, e7, e8]
      · rw [e3, e5, e6, e7, e8]
    · obtain ⟨s', w1, -⟩ := pull28 (L := L) (s := s) hT1 hc hT' rfl h8 rfl rfl h4
      refine ⟨s, ?_, ⟨_, w1⟩, k1, k2, hkn, Fw.rf⟩
      rw [w1]
      dsimp only
      refine Ev.of fun N => ?_
      rw [if_neg (by rw [z]; decide)]
  obtain ⟨s4, m1, ⟨y, m2⟩, m3, m4, m5, m6⟩ := hmid
  have f : ∀ k, k < 9 → iG s4 T k = iG s T k := fun k hk => m6.int (by unfold xS; omega)
  have f7 : iG s4 7 c = iG s 7 c := m6.int (by unfold xS; omega)
  obtain ⟨s', w1, w2, w3, w4, w5, w6, w7, w8⟩ := pull28 (L := L) (s := s4) (life := iG s T 2) (q := pulledF K (ceX s c) p (iG s T 6) (iG s T 5) (iG s T 4) (iG s T 3)) (m := moreF K (ceX s c) p (iG s T 6) (iG s T 5) (iG s T 4) (iG s T 3)) (by rw [f 1 (by omega)]; exact hT1) hc hT' (f 2 (by omega)) (by rw [f 8 (by omega)]; exact h8) m3 m4 (by rw [f 4 (by omega)]; exact h4)
  rw [f 5 (by omega)] at w2
  rw [f 4 (by omega), f 3 (by omega)] at w3 w4
  rw [f 6 (by omega)] at w5
  rw [f 4 (by omega), f 3 (by omega), f 6 (by omega), f 7 (by omega)] at w6
  rw [f7, f 6 (by omega)] at w7
  rw [w1] at m1
  have hm1 : Ev (fun N => f_X8_pullBy N T p s) ((), s') := by
    refine Ev.cg m1 (fun N => ?_)
    unfold f_X8_pullBy
    rw [if_neg hl, h8, if_pos (by decide), ob_some q1]
  refine ⟨s', hm1, ?_, w5, ?_, w7, ?_, ?_⟩
  · unfold x3 stpS
    rw [w2, w3, w4]
    by_cases z : iG s T 4 ≤ 0
    · simp only [if_pos z]
    · simp only [if_neg z]
  · rw [w6, w4]
    by_cases z : iG s T 4 ≤ 0
    · simp only [if_pos z]
      by_cases y : (if iG s T 3 + moreF K (ceX s c) p (iG s T 6) (iG s T 5) (iG s T 4) (iG s T 3) < 1000000 then iG s T 3 + moreF K (ceX s c) p (iG s T 6) (iG s T 5) (iG s T 4) (iG s T 3) else 1000000) < iG s T 2
      · rw [if_neg (fun w => w.2 y), if_pos y, if_neg (fun w => w.2 (by decide))]
      · rw [if_pos ⟨z, y⟩, if_neg y, if_pos ⟨z, by decide⟩]
    · rw [if_neg (fun w => z w.1), if_neg (fun w => z w.1)]
  · rcases m5 with z | ⟨n0, k1, k2⟩
    · left
      rw [w8.int (by omega)]; exact z
    · right
      refine ⟨n0, ?_, ?_⟩
      · rw [w8.int (by omega), w8.int (by omega), w8.int (by omega), w8.int (by omega), w8.int (by omega)]; exact k1
      · rw [w8.int (by omega), w8.int (by omega), w8.int (by omega), w8.int (by omega), w8.int (by omega)]; exact k2
  · refine (m6.mo fun o k z => ?_).tr (w8.mo fun o k z => ?_)
    · unfold xS at z; unfold xU; omega
    · unfold xU; omega
