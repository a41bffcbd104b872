/-! the reference's pull -/
def ceM (s : cS) (c : Nat) : CE := (iG s 196 c, iG s 197 c, iG s 195 c, nI c)
def xm (s : cS) : St3 := (iG s 193 44, iG s 193 43, iG s 193 42)
def mS (o k : Nat) : Prop := mR o k ∨ (o = 193 ∧ 41 ≤ k ∧ k ≤ 44)
theorem VM_mk {s : cS} {c : Nat} (hc : c < 8) (h38 : iG s 193 38 = nI c) : VM (vE (ceM s c) (iG s 193 39) (iG s 193 40) (iG s 193 41) (iG s 193 42) (iG s 193 43) (iG s 193 44)) s := by
  intro x hx
  unfold lets at hx
  simp only [List.mem_cons, List.not_mem_nil, or_false] at hx
  rcases hx with rfl | rfl | rfl | rfl | rfl | rfl | rfl | rfl | rfl | rfl
  · unfold f_X12_valueOf
    rw [if_neg (c := nI 112 = 99) (by decide), if_neg (c := nI 112 = 104) (by decide), if_neg (c := nI 112 = 107) (by decide), if_neg (c := nI 112 = 108) (by decide), if_neg (c := nI 112 = 110) (by decide), if_pos (c := nI 112 = 112) rfl]
    rfl
  · unfold f_X12_valueOf
    rw [if_neg (c := nI 114 = 99) (by decide), if_neg (c := nI 114 = 104) (by decide), if_neg (c := nI 114 = 107) (by decide), if_neg (c := nI 114 = 108) (by decide), if_neg (c := nI 114 = 110) (by decide), if_neg (c := nI 114 = 112) (by decide), if_neg (c := nI 114 = 113) (by decide), if_pos (c := nI 114 = 114) rfl]
    rw [h38, if_pos ((inb_n (by omega)).mpr hc), nI_clamp (by omega)]
    rfl
  · unfold f_X12_valueOf
    rw [if_neg (c := nI 116 = 99) (by decide), if_neg (c := nI 116 = 104) (by decide), if_neg (c := nI 116 = 107) (by decide), if_neg (c := nI 116 = 108) (by decide), if_neg (c := nI 116 = 110) (by decide), if_neg (c := nI 116 = 112) (by decide), if_neg (c := nI 116 = 113) (by decide), if_neg (c := nI 116 = 114) (by decide), if_pos (c := nI 116 = 116) rfl]
    rw [h38, if_pos ((inb_n (by omega)).mpr hc), nI_clamp (by omega)]
    rfl
  · unfold f_X12_valueOf
    rw [if_neg (c := nI 107 = 99) (by decide), if_neg (c := nI 107 = 104) (by decide), if_pos (c := nI 107 = 107) rfl]
    rw [h38, if_pos ((inb_n (by omega)).mpr hc), nI_clamp (by omega)]
    rfl
  · unfold f_X12_valueOf
    rw [if_pos (c := nI 99 = 99) rfl]
    rw [h38]
    rfl
  · unfold f_X12_valueOf
    rw [if_neg (c := nI 110 = 99) (by decide), if_neg (c := nI 110 = 104) (by decide), if_neg (c := nI 110 = 107) (by decide), if_neg (c := nI 110 = 108) (by decide), if_pos (c := nI 110 = 110) rfl]
    rfl
  · unfold f_X12_valueOf
    rw [if_neg (c := nI 113 = 99) (by decide), if_neg (c := nI 113 = 104) (by decide), if_neg (c := nI 113 = 107) (by decide), if_neg (c := nI 113 = 108) (by decide), if_neg (c := nI 113 = 110) (by decide), if_neg (c := nI 113 = 112) (by decide), if_pos (c := nI 113 = 113) rfl]
    rfl
  · unfold f_X12_valueOf
    rw [if_neg (c := nI 104 = 99) (by decide), if_pos (c := nI 104 = 104) rfl]
    rfl
  · unfold f_X12_valueOf
    rw [if_neg (c := nI 108 = 99) (by decide), if_neg (c := nI 108 = 104) (by decide), if_neg (c := nI 108 = 107) (by decide), if_pos (c := nI 108 = 108) rfl]
    rfl
  · unfold f_X12_valueOf
    rw [if_neg (c := nI 119 = 99) (by decide), if_neg (c := nI 119 = 104) (by decide), if_neg (c := nI 119 = 107) (by decide), if_neg (c := nI 119 = 108) (by decide), if_neg (c := nI 119 = 110) (by decide), if_neg (c := nI 119 = 112) (by decide), if_neg (c := nI 119 = 113) (by decide), if_neg (c := nI 119 = 114) (by decide), if_neg (c := nI 119 = 116) (by decide)]
    rfl
def ipK (N : Nat) (a0 r2 : Int32) (s3 : cS) : Option (Unit × cS) := sb (iS s3 193 41 r2) fun s5 => if (iG s5 193 43) = 0 then ob (f_X12_toldBy N (100 : Int32) (100000 : Int32) s5) fun r14 s15 => if ((iG s5 193 44) + r14) ≤ (1000000 : Int32) then j_X12_isPulled_57 a0 r2 ((iG s5 193 44) + r14) s15 else j_X12_isPulled_57 a0 r2 (1000000 : Int32) s15 else ob (f_X12_toldBy N (103 : Int32) (10000 : Int32) s5) fun r7 s8 => sb (iS s8 193 43 ((iG s5 193 43) + r7)) fun s10 => j_X12_isPulled_98 r2 s10
theorem m_isPulled {K : List Cl} {c : Nat} {s : cS} (hf : LwF K) (hK : LwM K s) (hc : c < 8) (h38 : iG s 193 38 = nI c) (h43 : 0 ≤ iG s 193 43) (life : Int32) : ∃ s', Ev (fun N => f_X12_isPulled N life s) ((), s') ∧ xm s' = stpS K (ceM s c) life (iG s 193 39) (iG s 193 40) (xm s) ∧ Fw mS s s' := by
  generalize hs1 : iS s 193 41 0 = s1
  have hF1 : Fw mS s s1 := by rw [← hs1]; exact Fw.rf.st (Or.inr ⟨rfl, by decide, by decide⟩)
  have g1 : ∀ o k, ¬ (o = 193 ∧ k = 41) → iG s1 o k = iG s o k := by
    intro o k h
    rw [← hs1, iG_if]
    by_cases z : o = 193
    · rw [if_pos z, if_neg (by omega)]
    · rw [if_neg z]
  have hce1 : ceM s1 c = ceM s c := by
    unfold ceM
    rw [g1 196 c (by omega), g1 197 c (by omega), g1 195 c (by omega)]
  have hV1 := VM_mk (s := s1) hc (by rw [g1 193 38 (by omega)]; exact h38)
  rw [hce1, g1 193 39 (by omega), g1 193 40 (by omega), g1 193 42 (by omega), g1 193 43 (by omega), g1 193 44 (by omega), show iG s1 193 41 = 0 by rw [← hs1, iG_eq]] at hV1
  have hK1 : LwM K s1 := LwM.rd.fw hF1 hK fun o k z => by unfold lmQ at z; unfold mS mR; omega
  obtain ⟨s3, e1, f1⟩ := m_told hf (l := 113) (most := 10000) (by decide) hK1 hV1
  have e1' : Ev (fun N => f_X12_toldBy N 113 10000 s1) (pulledF K (ceM s c) (iG s 193 39) (iG s 193 40) (iG s 193 42) (iG s 193 43) (iG s 193 44), s3) := e1
  generalize hq : pulledF K (ceM s c) (iG s 193 39) (iG s 193 40) (iG s 193 42) (iG s 193 43) (iG s 193 44) = q at e1'
  generalize hs5 : iS s3 193 41 q = s5
  have hmr : ∀ {o k : Nat}, mR o k → mS o k := fun z => Or.inl z
  have hF5 : Fw mS s s5 := by
    rw [← hs5]
    exact (hF1.tr (f1.mo fun _ _ z => hmr z)).st (Or.inr ⟨rfl, by decide, by decide⟩)
  have g5 : ∀ o k, ¬ (o = 193 ∧ k = 41) → o ≠ 215 → o ≠ 216 → iG s5 o k = iG s o k := by
    intro o k h a b
    rw [← hs5, iG_if, ← g1 o k h, ← f1.int (o := o) (k := k) (by unfold mR; omega)]
    by_cases z : o = 193
    · rw [if_pos z, if_neg (by omega)]
    · rw [if_neg z]
  have hce5 : ceM s5 c = ceM s c := by
    unfold ceM
    rw [g5 196 c (by omega) (by omega) (by omega), g5 197 c (by omega) (by omega) (by omega), g5 195 c (by omega) (by omega) (by omega)]
  have hV5 := VM_mk (s := s5) hc (by rw [g5 193 38 (by omega) (by omega) (by omega)]; exact h38)
  rw [hce5, g5 193 39 (by omega) (by omega) (by omega), g5 193 40 (by omega) (by omega) (by omega), g5 193 42 (by omega) (by omega) (by omega), g5 193 43 (by omega) (by omega) (by omega), g5 193 44 (by omega) (by omega) (by omega), show iG s5 193 41 = q by rw [← hs5, iG_eq]] at hV5
  have hK5 : LwM K s5 := LwM.rd.fw hF5 hK fun o k z => by unfold lmQ at z; unfold mS mR; omega
  have h0 : (0 : Int32).toInt = 0 := rfl
  have hmx : ∀ h : Int32, (if q ≤ h then h else q) = (if h < q then q else h) := by
    intro h
    by_cases z : q ≤ h
    · rw [if_pos z, if_neg (Int32.not_lt.mpr z)]
    · rw [if_neg z, if_pos (Int32.not_le.mp z)]
  have h98 : ∀ t : cS, j_X12_isPulled_98 q t = some ((), iS t 193 42 (if iG t 193 42 < q then q else iG t 193 42)) := by
    intro t
    unfold j_X12_isPulled_98
    rw [← hmx]
    by_cases z : q ≤ iG t 193 42
    · rw [if_pos z, if_pos z, sb_mk]
    · rw [if_neg z, if_neg z, sb_mk]
  by_cases z : iG s 193 43 = 0
  · obtain ⟨s15, w1, w2⟩ := m_told hf (l := 100) (most := 100000) (by decide) hK5 hV5
    have zl : iG s 193 43 ≤ 0 := by rw [z]; decide
    have hm : moreF K (ceM s c) (iG s 193 39) (iG s 193 40) (iG s 193 42) (iG s 193 43) (iG s 193 44) = told (vE (ceM s c) (iG s 193 39) (iG s 193 40) q (iG s 193 42) (iG s 193 43) (iG s 193 44)) 100 100000 K := by
      unfold moreF
      rw [if_pos zl, hq]
    rw [← hm] at w1
    generalize hmm : moreF K (ceM s c) (iG s 193 39) (iG s 193 40) (iG s 193 42) (iG s 193 43) (iG s 193 44) = m at w1
    have g15 : ∀ o k, ¬ (o = 193 ∧ k = 41) → o ≠ 215 → o ≠ 216 → iG s15 o k = iG s o k := fun o k h a b => (w2.int (by unfold mR; omega)).trans (g5 o k h a b)
    have hF15 : Fw mS s s15 := hF5.tr (w2.mo fun _ _ y => hmr y)
    have hw' : (if iG s 193 44 + m ≤ 1000000 then iG s 193 44 + m else 1000000) = (if iG s 193 44 + m < 1000000 then iG s 193 44 + m else 1000000) := by
      by_cases y : iG s 193 44 + m < 1000000
      · rw [if_pos y, if_pos (Int32.le_of_lt y)]
      · rw [if_neg y]
        by_cases y2 : iG s 193 44 + m ≤ 1000000
        · rw [if_pos y2]
          have a := lei.mp y2
          have b : ¬ (iG s 193 44 + m).toInt < (1000000 : Int32).toInt := fun x => y (lti.mpr x)
          exact eqi.mpr (by omega)
        · rw [if_neg y2]
    generalize hW : (if iG s 193 44 + m < 1000000 then iG s 193 44 + m else 1000000) = W at hw'
    have h57 : j_X12_isPulled_57 life q W s15 = some ((), iS (iS (iS s15 193 44 W) 193 43 (if W < life then 0 else 1)) 193 42 (if iG s 193 42 < q then q else iG s 193 42)) := by
      unfold j_X12_isPulled_57 j_X12_isPulled_74
      rw [sb_mk, iG_eq]
      have e42 : ∀ v, iG (iS (iS s15 193 44 W) 193 43 v) 193 42 = iG s 193 42 := fun v => by rw [iG_nk (by omega), iG_nk (by omega), g15 193 42 (by omega) (by omega) (by omega)]
      by_cases y : W < life
      · rw [if_pos y, if_pos y, sb_mk, h98, e42]
      · rw [if_neg y, if_neg y, sb_mk, h98, e42]
    refine ⟨iS (iS (iS s15 193 44 W) 193 43 (if W < life then 0 else 1)) 193 42 (if iG s 193 42 < q then q else iG s 193 42), Ev.bnd (k := fun N r2 s3 => ipK N life r2 s3) (f := fun N => f_X12_toldBy N 113 10000 s1) e1' (Ev.cg (Ev.bnd w1 (k := fun _ r14 s15 => if ((iG s5 193 44) + r14) ≤ (1000000 : Int32) then j_X12_isPulled_57 life q ((iG s5 193 44) + r14) s15 else j_X12_isPulled_57 life q (1000000 : Int32) s15) (Ev.of fun N => ?_)) (fun N => ?_)) |>.cg (fun N => ?_), ?_, ((hF15.st (Or.inr ⟨rfl, by decide, by decide⟩)).st (Or.inr ⟨rfl, by decide, by decide⟩)).st (Or.inr ⟨rfl, by decide, by decide⟩)⟩
    · rw [g5 193 44 (by omega) (by omega) (by omega), ← h57, ← hw']
      by_cases y : iG s 193 44 + m ≤ 1000000
      · rw [if_pos y, if_pos y]
      · rw [if_neg y, if_neg y]
    · unfold ipK
      rw [sb_mk, hs5, g5 193 43 (by omega) (by omega) (by omega), if_pos z]
    · unfold f_X12_isPulled
      rw [sb_mk, hs1]
      rfl
    · unfold xm stpS
      dsimp only
      rw [if_pos zl, hmm, hq, hW]
      simp only [iG_eq]
      rw [iG_nk (by omega), iG_nk (by omega), iG_eq, iG_nk (by omega), iG_eq]
  · obtain ⟨s8, w1, w2⟩ := m_told hf (l := 103) (most := 10000) (by decide) hK5 hV5
    have zl : ¬ iG s 193 43 ≤ 0 := by
      intro y
      have a := lei.mp y
      have b := lei.mp h43
      exact z (eqi.mpr (by omega))
    have hm : moreF K (ceM s c) (iG s 193 39) (iG s 193 40) (iG s 193 42) (iG s 193 43) (iG s 193 44) = told (vE (ceM s c) (iG s 193 39) (iG s 193 40) q (iG s 193 42) (iG s 193 43) (iG s 193 44)) 103 10000 K := by
      unfold moreF
      rw [if_neg zl, hq]
    rw [← hm] at w1
    generalize hmm : moreF K (ceM s c) (iG s 193 39) (iG s 193 40) (iG s 193 42) (iG s 193 43) (iG s 193 44) = m at w1
    have g8 : ∀ o k, ¬ (o = 193 ∧ k = 41) → o ≠ 215 → o ≠ 216 → iG s8 o k = iG s o k := fun o k h a b => (w2.int (by unfold mR; omega)).trans (g5 o k h a b)
    have hF8 : Fw mS s s8 := hF5.tr (w2.mo fun _ _ y => hmr y)
    refine ⟨iS (iS s8 193 43 (iG s 193 43 + m)) 193 42 (if iG s 193 42 < q then q else iG s 193 42), Ev.bnd (k := fun N r2 s3 => ipK N life r2 s3) (f := fun N => f_X12_toldBy N 113 10000 s1) e1' (Ev.cg (Ev.bnd w1 (k := fun _ r7 s8 => sb (iS s8 193 43 ((iG s5 193 43) + r7)) fun s10 => j_X12_isPulled_98 q s10) (Ev.of fun N => ?_)) (fun N => ?_)) |>.cg (fun N => ?_), ?_, (hF8.st (Or.inr ⟨rfl, by decide, by decide⟩)).st (Or.inr ⟨rfl, by decide, by decide⟩)⟩
    · rw [sb_mk, h98, g5 193 43 (by omega) (by omega) (by omega), iG_nk (by omega), g8 193 42 (by omega) (by omega) (by omega)]
    · unfold ipK
      rw [sb_mk, hs5, g5 193 43 (by omega) (by omega) (by omega), if_neg z]
    · unfold f_X12_isPulled
      rw [sb_mk, hs1]
      rfl
    · unfold xm stpS
      dsimp only
      rw [if_neg zl, hmm, hq]
      simp only [iG_eq]
      rw [iG_nk (by omega), iG_nk (by omega), g8 193 44 (by omega) (by omega) (by omega), iG_nk (by omega), iG_eq]
