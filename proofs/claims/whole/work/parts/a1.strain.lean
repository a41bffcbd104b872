/-! a pull on a corner: of both -/
def vOf (p r t k c n q h l w : Int32) : Nat → Int32 := fun x => if x = 112 then p else if x = 114 then r else if x = 116 then t else if x = 107 then k else if x = 99 then c else if x = 110 then n else if x = 113 then q else if x = 104 then h else if x = 108 then l else if x = 119 then w else 0
abbrev CE : Type := Int32 × Int32 × Int32 × Int32
def vE (ce : CE) (p n q h l w : Int32) : Nat → Int32 := vOf p ce.1 ce.2.1 ce.2.2.1 ce.2.2.2 n q h l w
def pulledF (K : List Cl) (ce : CE) (p n h l w : Int32) : Int32 := told (vE ce p n 0 h l w) 113 10000 K
def moreF (K : List Cl) (ce : CE) (p n h l w : Int32) : Int32 := if l ≤ 0 then told (vE ce p n (pulledF K ce p n h l w) h l w) 100 100000 K else told (vE ce p n (pulledF K ce p n h l w) h l w) 103 10000 K
theorem cl_bd {most y : Int32} (hm : 0 ≤ most) : 0 ≤ (cl most y).toInt ∧ (cl most y).toInt ≤ most.toInt := by
  have h0 : (0 : Int32).toInt = 0 := rfl
  have hm' := lei.mp hm
  unfold cl
  by_cases c1 : y < 0
  · rw [if_pos c1, h0]
    omega
  · rw [if_neg c1]
    have c1' : ¬ y.toInt < (0 : Int32).toInt := fun z => c1 (lti.mpr z)
    by_cases c2 : most < y
    · rw [if_pos c2]
      omega
    · rw [if_neg c2]
      have c2' : ¬ most.toInt < y.toInt := fun z => c2 (lti.mpr z)
      omega
theorem told_bd {V : Nat → Int32} {l most : Int32} (hm : 0 ≤ most) : ∀ K, 0 ≤ (told V l most K).toInt ∧ (told V l most K).toInt ≤ most.toInt
  | [] => ⟨by show 0 ≤ (0 : Int32).toInt; decide, lei.mp hm⟩
  | c :: r => by
    unfold told
    split
    · split
      · exact cl_bd hm
      · exact ⟨by decide, lei.mp hm⟩
    · exact told_bd hm r
theorem evV_cg {V V' : Nat → Int32} : ∀ (L : Cd) (st : List (Option Int32)), (∀ x ∈ L, x.1 = 1 → V x.2 = V' x.2) → evV V L st = evV V' L st
  | [], _, _ => rfl
  | x :: L, st, h => by
    show evV V L (opV V x st) = evV V' L (opV V' x st)
    have e : opV V x st = opV V' x st := by
      unfold opV
      by_cases c0 : x.1 = 0
      · rw [if_pos c0, if_pos c0]
      · rw [if_neg c0, if_neg c0]
        by_cases c1 : x.1 = 1
        · rw [if_pos c1, if_pos c1, h x List.mem_cons_self c1]
        · rw [if_neg c1, if_neg c1]
    rw [e]
    exact evV_cg L _ fun y hy => h y (List.mem_cons_of_mem _ hy)
theorem val_cg {V V' : Nat → Int32} {L : Cd} (h : ∀ x ∈ L, x.1 = 1 → V x.2 = V' x.2) : val V L = val V' L := by
  unfold val
  rw [evV_cg L [] h]
theorem told_cg {V V' : Nat → Int32} {l most : Int32} : ∀ {K : List Cl}, (∀ x ∈ cds K, x.1 = 1 → V x.2 = V' x.2) → told V l most K = told V' l most K
  | [], _ => rfl
  | c :: r, h => by
    have hc : ∀ x, x ∈ c.2.1 ++ c.2.2 → x.1 = 1 → V x.2 = V' x.2 := fun x hx => h x (by
      unfold cds
      exact List.mem_flatMap.mpr ⟨c, List.mem_cons_self, hx⟩)
    have hr : ∀ x ∈ cds r, x.1 = 1 → V x.2 = V' x.2 := fun x hx => h x (by
      unfold cds at hx ⊢
      obtain ⟨y, hy, hy2⟩ := List.mem_flatMap.mp hx
      exact List.mem_flatMap.mpr ⟨y, List.mem_cons_of_mem _ hy, hy2⟩)
    unfold told
    rw [val_cg (L := c.2.2) (fun x hx => hc x (List.mem_append_right _ hx)), val_cg (L := c.2.1) (fun x hx => hc x (List.mem_append_left _ hx)), told_cg hr]
theorem vE_0 (ce : CE) (p n q h l w : Int32) : vE ce p n q h l w 0 = 0 := rfl
/-! the class -/
def xS (L T o k : Nat) : Prop := (o = T ∧ 9 ≤ k ∧ k ≤ 15) ∨ o = L + 6 ∨ o = L + 7 ∨ (o = L ∧ 10 ≤ k ∧ k ≤ 12)
def ceX (s : cS) (c : Nat) : CE := (iG s 5 c, iG s 6 c, iG s 4 c, nI c)
theorem kd8 : ∀ T, kd T 8 → 36 ≤ T ∧ T < 166 := by
  intro T h
  have : ∀ T, T < 242 → kd T 8 → 36 ≤ T ∧ T < 166 := by decide +kernel
  exact this T (kd_lt h) h
/-- the values' row is what it should be -/
def VX (L : Nat) (V : Nat → Int32) (s : cS) : Prop := ∀ j, j < 10 → iG s (L + 6) j = V (lets.getD j 0)
theorem x_reckon {K : List Cl} {L T c : Nat} {s : cS} (hL : L = 11 ∨ L = 19) (hT : kd T 8) (h1 : s.1.1 = L) (hK : LwX K L s) (hc : c < 8) (hT1 : iG s T 1 = nI c) (p : Int32) : ∃ s', Ev (fun N => f_X8_reckon N T p s) ((), s') ∧ iG s' T 14 = pulledF K (ceX s c) p (iG s T 6) (iG s T 5) (iG s T 4) (iG s T 3) ∧ iG s' T 15 = moreF K (ceX s c) p (iG s T 6) (iG s T 5) (iG s T 4) (iG s T 3) ∧ iG s' T 9 = 1 ∧ iG s' T 10 = p ∧ iG s' T 11 = iG s T 3 ∧ iG s' T 12 = iG s T 4 ∧ iG s' T 13 = iG s T 5 ∧ Fw (xS L T) s s' := by
  have hT' := kd8 T hT
  have hkd : kd L 3 := kdT hL
  -- the values
  generalize hs7 : iS (iS (iS (iS (iS (iS (iS (iS (iS (iS s (L + 6) 1 (iG s 5 c)) (L + 6) 2 (iG s 6 c)) (L + 6) 3 (iG s 4 c)) (L + 6) 4 (nI c)) (L + 6) 0 p) (L + 6) 5 (iG s T 6)) (L + 6) 6 0) (L + 6) 7 (iG s T 5)) (L + 6) 8 (iG s T 4)) (L + 6) 9 (iG s T 3) = s7
  have hF7 : Fw (xS L T) s s7 := by
    rw [← hs7]
    have hp : ∀ k, xS L T (L + 6) k := fun k => Or.inr (Or.inl rfl)
    exact (((((((((Fw.rf.st (hp _)).st (hp _)).st (hp _)).st (hp _)).st (hp _)).st (hp _)).st (hp _)).st (hp _)).st (hp _)).st (hp _)
  have hV7 : VX L (vE (ceX s c) p (iG s T 6) 0 (iG s T 5) (iG s T 4) (iG s T 3)) s7 := by
    intro j hj
    rw [← hs7]
    simp only [iG_if]
    have : j = 0 ∨ j = 1 ∨ j = 2 ∨ j = 3 ∨ j = 4 ∨ j = 5 ∨ j = 6 ∨ j = 7 ∨ j = 8 ∨ j = 9 := by omega
    rcases this with rfl | rfl | rfl | rfl | rfl | rfl | rfl | rfl | rfl | rfl <;> rfl
  have hK7 : LwX K L s7 := LwX.rd.fw hF7 hK fun o k z => by unfold lwQ at z; unfold xS; omega
  obtain ⟨s10, e1, f1⟩ := x_told (V := vE (ceX s c) p (iG s T 6) 0 (iG s T 5) (iG s T 4) (iG s T 3)) (vE_0 _ _ _ _ _ _ _) (l := 113) (most := 10000) (by decide) hK7 hV7
  have e1' : Ev (fun N => f_X3_amount N L 113 10000 s7) (pulledF K (ceX s c) p (iG s T 6) (iG s T 5) (iG s T 4) (iG s T 3), s10) := e1
  generalize hq : pulledF K (ceX s c) p (iG s T 6) (iG s T 5) (iG s T 4) (iG s T 3) = q at e1'
  generalize hs14 : iS (iS s10 T 14 q) (L + 6) 6 q = s14
  have hFr : ∀ {o k : Nat}, xR L o k → xS L T o k := fun z => by unfold xR at z; unfold xS; omega
  have hF10 : Fw (xS L T) s s10 := hF7.tr (f1.mo fun o k z => hFr z)
  have hF14 : Fw (xS L T) s10 s14 := by
    rw [← hs14]
    exact (Fw.rf.st (Or.inl ⟨rfl, by decide, by decide⟩)).st (Or.inr (Or.inl rfl))
  have hV14 : VX L (vE (ceX s c) p (iG s T 6) q (iG s T 5) (iG s T 4) (iG s T 3)) s14 := by
    intro j hj
    rw [← hs14]
    by_cases z : j = 6
    · subst z
      rw [iG_eq]
      rfl
    · rw [iG_nk z, iG_ne (by omega), f1.int (by unfold xR; omega), hV7 j hj]
      have : j = 0 ∨ j = 1 ∨ j = 2 ∨ j = 3 ∨ j = 4 ∨ j = 5 ∨ j = 7 ∨ j = 8 ∨ j = 9 := by omega
      rcases this with rfl | rfl | rfl | rfl | rfl | rfl | rfl | rfl | rfl <;> rfl
  have hK14 : LwX K L s14 := LwX.rd.fw (hF10.tr hF14) hK fun o k z => by unfold lwQ at z; unfold xS; omega
  have h4 : iG s14 T 4 = iG s T 4 := (hF10.tr hF14).int (by unfold xS; omega)
  have hmo : ∃ s18, Ev (fun N => if (iG s14 T 4) ≤ 0 then f_X3_amount N L 100 100000 s14 else f_X3_amount N L 103 10000 s14) (moreF K (ceX s c) p (iG s T 6) (iG s T 5) (iG s T 4) (iG s T 3), s18) ∧ Fw (xR L) s14 s18 := by
    unfold moreF
    rw [h4, hq]
    by_cases z : iG s T 4 ≤ 0
    · obtain ⟨s18, w1, w2⟩ := x_told (V := vE (ceX s c) p (iG s T 6) q (iG s T 5) (iG s T 4) (iG s T 3)) (vE_0 _ _ _ _ _ _ _) (l := 100) (most := 100000) (by decide) hK14 hV14
      simp only [if_pos z]
      exact ⟨s18, w1, w2⟩
    · obtain ⟨s18, w1, w2⟩ := x_told (V := vE (ceX s c) p (iG s T 6) q (iG s T 5) (iG s T 4) (iG s T 3)) (vE_0 _ _ _ _ _ _ _) (l := 103) (most := 10000) (by decide) hK14 hV14
      simp only [if_neg z]
      exact ⟨s18, w1, w2⟩
  obtain ⟨s18, w1, w2⟩ := hmo
  generalize hm : moreF K (ceX s c) p (iG s T 6) (iG s T 5) (iG s T 4) (iG s T 3) = m at w1
  have hF18 : Fw (xS L T) s s18 := (hF10.tr hF14).tr (w2.mo fun o k z => hFr z)
  have k3 : iG s18 T 3 = iG s T 3 := hF18.int (by unfold xS; omega)
  have k4 : iG s18 T 4 = iG s T 4 := hF18.int (by unfold xS; omega)
  have k5 : iG s18 T 5 = iG s T 5 := hF18.int (by unfold xS; omega)
  have h14 : iG s18 T 14 = q := by
    rw [w2.int (by unfold xR; omega), ← hs14, iG_ne (by omega), iG_eq]
  have hxt : ∀ k, 9 ≤ k → k ≤ 15 → xS L T T k := fun k a b => Or.inl ⟨rfl, a, b⟩
  refine ⟨iS (iS (iS (iS (iS (iS s18 T 15 m) T 9 1) T 10 p) T 11 (iG s T 3)) T 12 (iG s T 4)) T 13 (iG s T 5), ?_, ?_, ?_, ?_, ?_, ?_, ?_, ?_, ?_⟩
  · have hj : ∀ y : Int32, j_X8_reckon_89 T p T y s18 = some ((), iS (iS (iS (iS (iS (iS s18 T 15 y) T 9 1) T 10 p) T 11 (iG s T 3)) T 12 (iG s T 4)) T 13 (iG s T 5)) := by
      intro y
      unfold j_X8_reckon_89
      simp only [sb_mk]
      rw [show iG (iS (iS (iS s18 T 15 y) T 9 1) T 10 p) T 3 = iG s T 3 by rw [iG_nk (by omega), iG_nk (by omega), iG_nk (by omega), k3]]
      rw [show iG (iS (iS (iS (iS s18 T 15 y) T 9 1) T 10 p) T 11 (iG s T 3)) T 4 = iG s T 4 by rw [iG_nk (by omega), iG_nk (by omega), iG_nk (by omega), iG_nk (by omega), k4]]
      rw [show iG (iS (iS (iS (iS (iS s18 T 15 y) T 9 1) T 10 p) T 11 (iG s T 3)) T 12 (iG s T 4)) T 5 = iG s T 5 by rw [iG_nk (by omega), iG_nk (by omega), iG_nk (by omega), iG_nk (by omega), iG_nk (by omega), k5]]
    refine Ev.cg (g := fun N => ob (f_X3_amount N L 113 10000 s7) fun r9 s10 => ob (if (iG (iS (iS s10 T 14 r9) (L + 6) 6 r9) T 4) ≤ 0 then f_X3_amount N L 100 100000 (iS (iS s10 T 14 r9) (L + 6) 6 r9) else f_X3_amount N L 103 10000 (iS (iS s10 T 14 r9) (L + 6) 6 r9)) fun r17 s18 => j_X8_reckon_89 T p T r17 s18) (Ev.bnd e1' ?_) (fun N => ?_)
    · rw [hs14]
      exact Ev.bnd w1 (Ev.of fun N => hj m)
    · unfold f_X8_reckon f_X1_tellLaw
      rw [h1, if_pos hkd, hT1, aA_n hc (by omega), aA_n hc (by omega), aA_n hc (by omega)]
      unfold f_X3_setCorner
      simp only [sb_mk, tb_mk, ob_mk]
      have e : ∀ k, iG (iS (iS (iS (iS s (L + 6) 1 (iG s 5 c)) (L + 6) 2 (iG s 6 c)) (L + 6) 3 (iG s 4 c)) (L + 6) 4 (nI c)) T k = iG s T k := fun k => by rw [iG_ne (by omega), iG_ne (by omega), iG_ne (by omega), iG_ne (by omega)]
      unfold f_X3_setState
      simp only [if_pos hkd, e, sb_mk, tb_mk, hs7]
      rcases f_X3_amount N L 113 10000 s7 with _ | ⟨r9, s10⟩
      · rfl
      · simp only [ob_mk]
        unfold f_X3_setPulled
        have e3 : iG (iS s10 T 14 r9) T 14 = r9 := iG_eq
        simp only [sb_mk, tb_mk, e3]
        by_cases z : iG (iS (iS s10 T 14 r9) (L + 6) 6 r9) T 4 ≤ 0
        · rw [if_pos z, if_pos z]
        · rw [if_neg z, if_neg z]
  · rw [iG_nk (by omega), iG_nk (by omega), iG_nk (by omega), iG_nk (by omega), iG_nk (by omega), iG_nk (by omega), h14]
  · rw [iG_nk (by omega), iG_nk (by omega), iG_nk (by omega), iG_nk (by omega), iG_nk (by omega), iG_eq]
  · rw [iG_nk (by omega), iG_nk (by omega), iG_nk (by omega), iG_nk (by omega), iG_eq]
  · rw [iG_nk (by omega), iG_nk (by omega), iG_nk (by omega), iG_eq]
  · rw [iG_nk (by omega), iG_nk (by omega), iG_eq]
  · rw [iG_nk (by omega), iG_eq]
  · rw [iG_eq]
  · exact (((((hF18.st (hxt _ (by decide) (by decide))).st (hxt _ (by decide) (by decide))).st (hxt _ (by decide) (by decide))).st (hxt _ (by decide) (by decide))).st (hxt _ (by decide) (by decide))).st (hxt _ (by decide) (by decide))
/-- what is known of the pull before -/
def KnI (K : List Cl) (ce : CE) (T : Nat) (s : cS) : Prop := iG s T 9 = 0 ∨ ∃ n0, iG s T 14 = pulledF K ce (iG s T 10) n0 (iG s T 13) (iG s T 12) (iG s T 11) ∧ iG s T 15 = moreF K ce (iG s T 10) n0 (iG s T 13) (iG s T 12) (iG s T 11)
theorem uses_0 {L u j : Nat} {s : cS} (hu : iG s L 9 = nI u) (hu2 : u < 1024) (hj : j < 10) : f_X3_uses L (nI j) s = if u.testBit j = true then 1 else 0 := by
  unfold f_X3_uses
  rw [hu]
  by_cases c : u.testBit j = true
  · rw [if_pos ((bit_us hu2 hj).mpr c), if_pos c]
  · rw [if_neg (fun z => c ((bit_us hu2 hj).mp z)), if_neg c]
theorem x_like {K : List Cl} {L T : Nat} {ce : CE} {s : cS} (hL : L = 11 ∨ L = 19) (h1 : s.1.1 = L) (hK : LwX K L s) (hkn : KnI K ce T s) (p : Int32) : ∃ r, f_X8_isLikeBefore T p s = some (r, s) ∧ (r = 0 ∨ (r = 1 ∧ iG s T 14 = pulledF K ce p (iG s T 6) (iG s T 5) (iG s T 4) (iG s T 3) ∧ iG s T 15 = moreF K ce p (iG s T 6) (iG s T 5) (iG s T 4) (iG s T 3))) := by
  obtain ⟨W, u, -, -, -, -, h5, h6, h7, -, -⟩ := hK
  have hkd : kd L 3 := kdT hL
  have u5 : f_X3_uses L 5 s = if u.testBit 5 = true then 1 else 0 := uses_0 (j := 5) h6 h7 (by decide)
  have u7 : f_X3_uses L 7 s = if u.testBit 7 = true then 1 else 0 := uses_0 (j := 7) h6 h7 (by decide)
  have u8 : f_X3_uses L 8 s = if u.testBit 8 = true then 1 else 0 := uses_0 (j := 8) h6 h7 (by decide)
  have u9 : f_X3_uses L 9 s = if u.testBit 9 = true then 1 else 0 := uses_0 (j := 9) h6 h7 (by decide)
  unfold f_X8_isLikeBefore
  by_cases c9 : iG s T 9 = 0
  · rw [if_pos c9]
    exact ⟨0, rfl, Or.inl rfl⟩
  rw [if_neg c9]
  by_cases cp' : ¬ p = iG s T 10
  · rw [if_neg cp']
    exact ⟨0, rfl, Or.inl rfl⟩
  have cp : p = iG s T 10 := Classical.not_not.mp cp'
  rw [if_pos cp, h1]
  have hfin : (iG s T 4 ≤ 0 ↔ iG s T 12 ≤ 0) → u.testBit 5 = false → (iG s T 5 = iG s T 13 ∨ u.testBit 7 = false) → (iG s T 4 = iG s T 12 ∨ u.testBit 8 = false) → (iG s T 3 = iG s T 11 ∨ u.testBit 9 = false) → iG s T 14 = pulledF K ce p (iG s T 6) (iG s T 5) (iG s T 4) (iG s T 3) ∧ iG s T 15 = moreF K ce p (iG s T 6) (iG s T 5) (iG s T 4) (iG s T 3) := by
    intro g1 g2 g3 g4 g5
    obtain ⟨n0, k1, k2⟩ := hkn.resolve_left c9
    have hcg : ∀ (q : Int32), ∀ x ∈ cds K, x.1 = 1 → vE ce (iG s T 10) n0 q (iG s T 13) (iG s T 12) (iG s T 11) x.2 = vE ce p (iG s T 6) q (iG s T 5) (iG s T 4) (iG s T 3) x.2 := by
      intro q x hx hx1
      obtain ⟨j, hj, hj2, hj3⟩ := h5 x hx hx1
      rw [← hj2, cp]
      have : j = 0 ∨ j = 1 ∨ j = 2 ∨ j = 3 ∨ j = 4 ∨ j = 5 ∨ j = 6 ∨ j = 7 ∨ j = 8 ∨ j = 9 := by omega
      rcases this with rfl | rfl | rfl | rfl | rfl | rfl | rfl | rfl | rfl | rfl
      · rfl
      · rfl
      · rfl
      · rfl
      · rfl
      · rw [g2] at hj3; cases hj3
      · rfl
      · show iG s T 13 = iG s T 5
        rcases g3 with z | z
        · exact z.symm
        · rw [z] at hj3; cases hj3
      · show iG s T 12 = iG s T 4
        rcases g4 with z | z
        · exact z.symm
        · rw [z] at hj3; cases hj3
      · show iG s T 11 = iG s T 3
        rcases g5 with z | z
        · exact z.symm
        · rw [z] at hj3; cases hj3
    have e1 : pulledF K ce (iG s T 10) n0 (iG s T 13) (iG s T 12) (iG s T 11) = pulledF K ce p (iG s T 6) (iG s T 5) (iG s T 4) (iG s T 3) := told_cg (hcg 0)
    refine ⟨k1.trans e1, k2.trans ?_⟩
    unfold moreF
    rw [e1]
    by_cases z : iG s T 4 ≤ 0
    · rw [if_pos z, if_pos (g1.mp z)]
      exact told_cg (hcg _)
    · rw [if_neg z, if_neg (fun y => z (g1.mpr y))]
      exact told_cg (hcg _)
  have tb0 : ∀ {j : Nat}, ¬ u.testBit j = true → u.testBit j = false := fun h => by
    cases hb : u.testBit _ with
    | true => exact absurd hb h
    | false => rfl
  have k98 : (iG s T 4 ≤ 0 ↔ iG s T 12 ≤ 0) → u.testBit 5 = false → (iG s T 5 = iG s T 13 ∨ u.testBit 7 = false) → (iG s T 4 = iG s T 12 ∨ u.testBit 8 = false) → ∃ r, j_X8_isLikeBefore_98 T L s = some (r, s) ∧ (r = 0 ∨ (r = 1 ∧ iG s T 14 = pulledF K ce p (iG s T 6) (iG s T 5) (iG s T 4) (iG s T 3) ∧ iG s T 15 = moreF K ce p (iG s T 6) (iG s T 5) (iG s T 4) (iG s T 3))) := by
    intro g1 g2 g3 g4
    unfold j_X8_isLikeBefore_98
    by_cases z : iG s T 3 = iG s T 11
    · rw [if_pos z]
      exact ⟨1, rfl, Or.inr ⟨rfl, hfin g1 g2 g3 g4 (Or.inl z)⟩⟩
    · rw [if_neg z, if_pos hkd, u9]
      by_cases y : u.testBit 9 = true
      · rw [if_pos y, if_neg (by decide)]
        exact ⟨0, rfl, Or.inl rfl⟩
      · rw [if_neg y, if_pos rfl]
        exact ⟨1, rfl, Or.inr ⟨rfl, hfin g1 g2 g3 g4 (Or.inr (tb0 y))⟩⟩
  have k78 : (iG s T 4 ≤ 0 ↔ iG s T 12 ≤ 0) → u.testBit 5 = false → (iG s T 5 = iG s T 13 ∨ u.testBit 7 = false) → ∃ r, j_X8_isLikeBefore_78 T L s = some (r, s) ∧ (r = 0 ∨ (r = 1 ∧ iG s T 14 = pulledF K ce p (iG s T 6) (iG s T 5) (iG s T 4) (iG s T 3) ∧ iG s T 15 = moreF K ce p (iG s T 6) (iG s T 5) (iG s T 4) (iG s T 3))) := by
    intro g1 g2 g3
    unfold j_X8_isLikeBefore_78
    by_cases z : iG s T 4 = iG s T 12
    · rw [if_pos z]
      exact k98 g1 g2 g3 (Or.inl z)
    · rw [if_neg z, if_pos hkd, u8]
      by_cases y : u.testBit 8 = true
      · rw [if_pos y, if_neg (by decide)]
        exact ⟨0, rfl, Or.inl rfl⟩
      · rw [if_neg y, if_pos rfl]
        exact k98 g1 g2 g3 (Or.inr (tb0 y))
  have k47 : (iG s T 4 ≤ 0 ↔ iG s T 12 ≤ 0) → ∀ y : Int32, ∃ r, j_X8_isLikeBefore_47 T L y y s = some (r, s) ∧ (r = 0 ∨ (r = 1 ∧ iG s T 14 = pulledF K ce p (iG s T 6) (iG s T 5) (iG s T 4) (iG s T 3) ∧ iG s T 15 = moreF K ce p (iG s T 6) (iG s T 5) (iG s T 4) (iG s T 3))) := by
    intro g1 y
    unfold j_X8_isLikeBefore_47
    rw [if_pos rfl, if_pos hkd, u5]
    by_cases z5 : u.testBit 5 = true
    · rw [if_pos z5, if_neg (by decide)]
      exact ⟨0, rfl, Or.inl rfl⟩
    · rw [if_neg z5, if_pos rfl]
      by_cases z : iG s T 5 = iG s T 13
      · rw [if_pos z]
        exact k78 g1 (tb0 z5) (Or.inl z)
      · rw [if_neg z, u7]
        by_cases y : u.testBit 7 = true
        · rw [if_pos y, if_neg (by decide)]
          exact ⟨0, rfl, Or.inl rfl⟩
        · rw [if_neg y, if_pos rfl]
          exact k78 g1 (tb0 z5) (Or.inr (tb0 y))
  have k470 : ∀ y y' : Int32, y ≠ y' → j_X8_isLikeBefore_47 T L y y' s = some (0, s) := by
    intro y y' h
    unfold j_X8_isLikeBefore_47
    rw [if_neg h]
  unfold j_X8_isLikeBefore_35
  by_cases z1 : iG s T 4 ≤ 0
  · rw [if_pos z1]
    by_cases z2 : iG s T 12 ≤ 0
    · rw [if_pos z2]
      exact k47 ⟨fun _ => z2, fun _ => z1⟩ 0
    · rw [if_neg z2, k470 0 1 (by decide)]
      exact ⟨0, rfl, Or.inl rfl⟩
  · rw [if_neg z1]
    by_cases z2 : iG s T 12 ≤ 0
    · rw [if_pos z2, k470 1 0 (by decide)]
      exact ⟨0, rfl, Or.inl rfl⟩
    · rw [if_neg z2]
      exact k47 ⟨fun z => absurd z z1, fun z => absurd z z2⟩ 1
