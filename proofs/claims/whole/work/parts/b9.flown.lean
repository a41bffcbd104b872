/-! flown -/
def HulH (n h : Nat) (s : cS) : Prop := n ≤ 8 ∧ ∃ q life y, q ≤ 100000 ∧ iG s 34 h = nI q ∧ iG s 228 h = nI q ∧ iG s 35 h = iG s 229 h ∧ (∀ c, c < n → iG s (sT h c) 1 = nI c ∧ iG s (sT h c) 2 = life c ∧ x3 (sT h c) s = y c ∧ HMc life y h c s) ∧ (iG s 35 h = -1 → (∀ c, c < n → iG s (sT h c) 8 = 0 ∧ (life c ≠ 0 → iG s (sT h c) 6 = nI q)) ∧ HBd n life (fun c => iG s 7 c) y)
def hulHQ (h o k : Nat) : Prop := ((o = 34 ∨ o = 35 ∨ o = 228 ∨ o = 229) ∧ k = h) ∨ (36 + 8 * h ≤ o ∧ o < 44 + 8 * h ∧ 1 ≤ k ∧ k ≤ 8) ∨ (230 ≤ o ∧ o ≤ 233 ∧ 8 * h ≤ k ∧ k < 8 * h + 8) ∨ o = 7
theorem HulH.rd {n h : Nat} : Rd (hulHQ h) (HulH n h) := by
  rintro s t e - ⟨hn, q, life, y, h1, h2, h3, h4, h5, h6⟩
  refine ⟨hn, q, life, y, h1, by rw [e _ _ (by unfold hulHQ; omega)]; exact h2, by rw [e _ _ (by unfold hulHQ; omega)]; exact h3, by rw [e _ _ (by unfold hulHQ; omega), e _ _ (by unfold hulHQ; omega)]; exact h4, fun c hc => ?_, fun z => ?_⟩
  · obtain ⟨a1, a2, a3, b1, b2, b3, b4⟩ := h5 c hc
    refine ⟨by rw [e _ _ (by unfold hulHQ sT; omega)]; exact a1, by rw [e _ _ (by unfold hulHQ sT; omega)]; exact a2, ?_, by rw [e _ _ (by unfold hulHQ; omega)]; exact b1, by rw [e _ _ (by unfold hulHQ; omega)]; exact b2, by rw [e _ _ (by unfold hulHQ; omega)]; exact b3, by rw [e _ _ (by unfold hulHQ; omega)]; exact b4⟩
    unfold x3 at a3 ⊢
    rw [e _ _ (by unfold hulHQ sT; omega), e _ _ (by unfold hulHQ sT; omega), e _ _ (by unfold hulHQ sT; omega)]
    exact a3
  · rw [e _ _ (by unfold hulHQ; omega)] at z
    obtain ⟨a1, a2⟩ := h6 z
    refine ⟨fun c hc => ?_, fun c hc => ?_⟩
    · obtain ⟨b1, b2⟩ := a1 c hc
      exact ⟨by rw [e _ _ (by unfold hulHQ sT; omega)]; exact b1, fun w => by rw [e _ _ (by unfold hulHQ sT; omega)]; exact b2 w⟩
    · obtain ⟨b1, b2⟩ := a2 c hc
      refine ⟨b1, fun w => ?_⟩
      show _ < iG t 7 c
      rw [e _ _ (by unfold hulHQ; omega)]
      exact b2 w
def HulI (n nh : Nat) (s : cS) : Prop := nh ≤ 10 ∧ iG s 32 4 = nI nh ∧ iG s 193 3 = nI nh ∧ ∀ h, h < nh → HulH n h s
def hulQ (o k : Nat) : Prop := (o = 32 ∧ k = 4) ∨ (o = 193 ∧ k = 3) ∨ o = 34 ∨ o = 35 ∨ (36 ≤ o ∧ o ≤ 115 ∧ 1 ≤ k ∧ k ≤ 8) ∨ (228 ≤ o ∧ o ≤ 233) ∨ o = 7
theorem HulI.rd {n nh : Nat} : Rd hulQ (HulI n nh) := by
  rintro s t e e' ⟨h1, h2, h3, h4⟩
  refine ⟨h1, by rw [e _ _ (by unfold hulQ; omega)]; exact h2, by rw [e _ _ (by unfold hulQ; omega)]; exact h3, fun h hh => HulH.rd s t (fun o k z => e o k ?_) (fun o k z => e' o k ?_) (h4 h hh)⟩
  all_goals (unfold hulHQ at z; unfold hulQ; omega)
theorem hGo_le {K : List Cl} {n : Nat} {ce : Nat → CE} {life ρ : Nat → Int32} {p : Int32} {q : Nat} : ∀ (d k : Nat) (y : Nat → St3), (hGo K n ce life ρ p q d k y).1 ≤ k + d
  | 0, k, y => Nat.le_refl _
  | d + 1, k, y => by
    unfold hGo
    split
    · have := hGo_le (K := K) (n := n) (ce := ce) (life := life) (ρ := ρ) (p := p) (q := q) d (k + 1) (hstp K ce life p (nI (q + k)) y)
      omega
    · show k + 1 ≤ _
      omega
/-- a hull's number, or none -/
theorem has_hull {nh : Nat} {s : cS} (h1 : iG s 32 4 = nI nh) (h2 : iG s 193 3 = nI nh) (hn : nh ≤ 10) (a : Int32) : (f_X2_has a s = 0 ∧ f_X12_isHull a s = 0) ∨ ∃ h, h < nh ∧ a = nI h ∧ f_X2_has a s = 1 ∧ f_X12_isHull a s = 1 := by
  unfold f_X2_has f_X12_isHull
  rw [h1, h2]
  rcases has_c a nh (by omega) with ⟨x1, x2, -⟩ | ⟨h, a1, a2, a3, a4⟩
  · exact Or.inl ⟨x1, x2⟩
  · exact Or.inr ⟨h, a1, a2, a3, a4⟩
def flnP (o k : Nat) : Prop := o = 17 ∨ o = 18 ∨ o = 25 ∨ o = 26 ∨ ((o = 11 ∨ o = 19) ∧ 10 ≤ k ∧ k ≤ 12) ∨ o = 34 ∨ o = 35 ∨ (36 ≤ o ∧ o ≤ 115 ∧ 3 ≤ k ∧ k ≤ 15) ∨ o = 215 ∨ o = 216 ∨ (o = 193 ∧ 38 ≤ k ∧ k ≤ 44) ∨ o = 228 ∨ o = 229 ∨ (231 ≤ o ∧ o ≤ 233)
theorem m_flown {n nh : Nat} {m : Nat → Nat} {K : List Cl} {s : cS} (hC : CorN n m s) (hL : LawK K s) (hH : HulI n nh s) (a0 a1 a2 : Int32) : ∃ r s1 s2, r_X11_flown a0 a1 a2 s r s1 ∧ r_X12_flown a0 a1 a2 s1 r s2 ∧ HulI n nh s2 ∧ Fw flnP s s2 := by
  have hH0 := hH
  obtain ⟨i1, i2, i3, i4⟩ := hH
  have hnone : f_X11_flown 0 a0 a1 a2 s = some (-1, s) → f_X12_flown 0 a0 a1 a2 s = some (-1, s) → ∃ r s1 s2, r_X11_flown a0 a1 a2 s r s1 ∧ r_X12_flown a0 a1 a2 s1 r s2 ∧ HulI n nh s2 ∧ Fw flnP s s2 := fun h1 h2 => ⟨-1, s, s, ⟨0, h1⟩, ⟨0, h2⟩, hH0, Fw.rf⟩
  have hL2 : ∀ s, f_X12_isPressure a1 s = wB a1 0 99 := fun s => lIn_w (a' := 0) (b' := 99) rfl rfl
  have hL3 : lIn a2.toInt64 (1 : Int64) (2000 : Int64) = wB a2 1 2000 := lIn_w (a' := 1) (b' := 2000) rfl rfl
  rcases has_hull i2 i3 i1 a0 with ⟨b1, b2⟩ | ⟨h, hh, rfl, b1, b2⟩
  · refine hnone ?_ ?_
    · unfold f_X11_flown
      rw [if_pos b1]
    · unfold f_X12_flown
      rw [if_pos b2]
  · have b1' : ¬ f_X2_has (nI h) s = 0 := by rw [b1]; decide
    have b2' : ¬ f_X12_isHull (nI h) s = 0 := by rw [b2]; decide
    obtain ⟨hn8, q, life, y, u1, u2, u3, u4, u5, u6⟩ := i4 h hh
    have hcl2 : (nI h).toNatClampNeg = h := nI_clamp (by omega)
    have hin2 : inb (nI h) 10 := (inb_n (by omega)).mpr (by omega)
    have hlb : f_X2_lostBy (nI h) s = iG s 35 h := aA_n (by omega) (by omega)
    have hpl : f_X2_pulls (nI h) s = nI q := by unfold f_X2_pulls; rw [aA_n (by omega) (by omega)]; exact u2
    by_cases hl : iG s 35 h = -1
    · have hl' : iG s 229 h = -1 := u4.symm.trans hl
      by_cases c1 : wB a1 0 99 = 0
      · refine hnone ?_ ?_
        · unfold f_X11_flown
          rw [if_neg b1', if_pos c1]
        · unfold f_X12_flown
          rw [if_neg b2', if_pos hin2, hcl2, if_pos hl', hL2, if_pos c1]
      · by_cases c2 : wB a2 1 2000 = 0
        · refine hnone ?_ ?_
          · unfold f_X11_flown
            rw [if_neg b1', if_neg c1, if_pos c2]
          · unfold f_X12_flown
            rw [if_neg b2', if_pos hin2, hcl2, if_pos hl', hL2, if_neg c1, hL3, if_pos c2]
        · obtain ⟨t, ht1, ht2, rfl⟩ := wB_out (m := 1) (n := 2000) (by decide) (by decide) c2
          have hsum : nI q + nI t ≤ (100000 : Int32) ↔ q + t ≤ 100000 := by
            rw [nI_add]
            exact nI_leI (b := 100000) (by omega) (by decide)
          by_cases c3 : q + t ≤ 100000
          · obtain ⟨L, hL', hs1, hX, hM, hF⟩ := hL.L
            have hρ : ∀ c, c < n → 1 ≤ (iG s 7 c).toInt ∧ (iG s 7 c).toInt ≤ 10000 := hC.2.2.2.2.2.1
            obtain ⟨v1, v2⟩ := u6 hl
            -- the class
            obtain ⟨s0, f1, f2, f3⟩ := x_forget (K := K) (n := n) (h := h) (q := q) (ce := fun c => ceX s c) (life := life) (y := y) (p := a1) (a2 := nI t) (by omega) hn8 n 0 s (by omega) hC.2.1 (fun c hc => ⟨(u5 c hc).1, (u5 c hc).2.1, (u5 c hc).2.2.1, (v1 c hc).1, (v1 c hc).2⟩) (fun c hc => by omega)
            have hX0 : PX K L n (fun c => ceX s c) (fun c => iG s 7 c) s0 := by
              refine ⟨by rw [f2.1]; exact hs1, hX.fw f2 fun o k z => by unfold lwQ at z; omega, (f2.int (by omega)).trans hC.2.1, fun c hc => ⟨?_, f2.int (by omega)⟩⟩
              show ceX s0 c = ceX s c
              unfold ceX
              rw [f2.int (by omega), f2.int (by omega), f2.int (by omega)]
            obtain ⟨t1, g1, g2, g3, g4, g5⟩ := x_go_lp (K := K) (n := n) (h := h) (q := q) (t := t) (ce := fun c => ceX s c) (life := life) (ρ := fun c => iG s 7 c) (p := a1) hL' (by omega) hn8 ht2 u1 hρ t 0 y s0 (by omega) hX0 v2 ((f2.int (by omega)).trans hl) ((f2.int (by omega)).trans u2) f1
            have hle := hGo_le (K := K) (n := n) (ce := fun c => ceX s c) (life := life) (ρ := fun c => iG s 7 c) (p := a1) (q := q) t 0 y
            generalize hG : hGo K n (fun c => ceX s c) life (fun c => iG s 7 c) a1 q t 0 y = G at g1 g2 g3 g4 hle
            have hF1 : Fw (fun o k => xB L h o k ∨ (36 + 8 * h ≤ o ∧ o < 44 + 8 * h ∧ k = 9)) s t1 := (f2.mo fun o k z => Or.inr z).tr (g5.mo fun o k z => Or.inl z)
            have hgoX : Ev (fun N => f_X11_flown N (nI h) a1 (nI t) s) (nI G.1, t1) := by
              have := f3 (nI G.1, t1) (Ev.cg g1.ev fun N => rfl)
              refine Ev.cg (Ev.bnd (Ev.cg this.ev (g := fun N => f_X2_goOn N (nI h) a1 (nI t) s) fun N => rfl) (k := fun _ r11 s12 => some ((r11, s12))) (Ev.of fun N => rfl)) (fun N => ?_)
              unfold f_X11_flown
              rw [if_neg b1', if_neg c1, if_neg c2, hlb, if_pos hl, hpl, if_pos (hsum.mpr c3)]
            -- the reference
            have hce : ∀ c, c < n → ceM t1 c = ceX s c := by
              intro c hc
              rw [hC.ce (by omega)]
              unfold ceM
              rw [hF1.int (by unfold xB xA; rcases hL' with rfl | rfl <;> omega), hF1.int (by unfold xB xA; rcases hL' with rfl | rfl <;> omega), hF1.int (by unfold xB xA; rcases hL' with rfl | rfl <;> omega)]
            have hMX : MX K n (fun c => ceX s c) (fun c => iG s 7 c) t1 := by
              refine ⟨hF, hM.fw hF1 fun o k z => ?_, (hF1.int (by unfold xB xA; rcases hL' with rfl | rfl <;> omega)).trans hC.2.2.1, fun c hc => ⟨hce c hc, ?_⟩⟩
              · unfold lmQ at z
                unfold xB xA
                rcases hL' with rfl | rfl <;> omega
              · rw [hF1.int (by unfold xB xA; rcases hL' with rfl | rfl <;> omega)]
                exact (hC.2.2.2.1 c (by omega)).2.2.2.1.symm
            obtain ⟨t2, k1, k2, k3, k4, k5⟩ := m_fl_lp (K := K) (n := n) (h := h) (q := q) (t := t) (ce := fun c => ceX s c) (life := life) (ρ := fun c => iG s 7 c) (p := a1) (by omega) hn8 ht2 u1 hρ t 0 y t1 (by omega) hMX v2 ((hF1.int (by unfold xB xA; rcases hL' with rfl | rfl <;> omega)).trans hl') ((hF1.int (by unfold xB xA; rcases hL' with rfl | rfl <;> omega)).trans u3) (fun c hc => (u5 c hc).2.2.2.fw hF1 fun o a b => by unfold xB xA; rcases hL' with rfl | rfl <;> omega)
            rw [hG] at k1 k2 k3 k4
            have e193 : ∀ k, k < 38 → iG t1 193 k = iG s 193 k := fun k hk => hF1.int (by unfold xB xA; rcases hL' with rfl | rfl <;> omega)
            have e228 : ∀ o k, 228 ≤ o → o ≤ 233 → iG t1 o k = iG s o k := fun o k a b => hF1.int (by unfold xB xA; rcases hL' with rfl | rfl <;> omega)
            have hgoM : Ev (fun N => f_X12_flown N (nI h) a1 (nI t) t1) (nI G.1, t2) := by
              refine Ev.cg k1.ev (fun N => ?_)
              have b3 : f_X12_isHull (nI h) t1 = f_X12_isHull (nI h) s := by
                unfold f_X12_isHull
                rw [e193 3 (by decide)]
              unfold f_X12_flown
              rw [b3, if_neg b2', if_pos hin2, hcl2, e228 229 h (by decide) (by decide), if_pos hl', hL2, if_neg c1, hL3, if_neg c2, e228 228 h (by decide) (by decide), u3, if_pos (hsum.mpr c3)]
              rfl
            have hF2 : Fw (fun o k => (xB L h o k ∨ (36 + 8 * h ≤ o ∧ o < 44 + 8 * h ∧ k = 9)) ∨ mH h o k) s t2 := (hF1.mo fun o k z => Or.inl z).tr (k5.mo fun o k z => Or.inr z)
            refine ⟨_, t1, t2, hgoX.ex, hgoM.ex, ⟨i1, (hF2.int ?_).trans i2, (hF2.int ?_).trans i3, fun h' hh' => ?_⟩, hF2.mo fun o k z => ?_⟩
            · unfold xB xA mH mR; rcases hL' with rfl | rfl <;> omega
            · unfold xB xA mH mR; rcases hL' with rfl | rfl <;> omega
            · by_cases z : h' = h
              · subst z
                have d0 : ∀ c k, iG t2 (sT h' c) k = iG t1 (sT h' c) k ∨ 8 ≤ c := by
                  intro c k
                  by_cases w : 8 ≤ c
                  · exact Or.inr w
                  · exact Or.inl (k5.int (by unfold mH mR sT; omega))
                have d1 : ∀ c, c < n → ∀ k, iG t2 (sT h' c) k = iG t1 (sT h' c) k := fun c hc k => (d0 c k).resolve_right (by omega)
                have e35 : iG t2 35 h' = G.2.2 := (k5.int (by unfold mH mR; omega)).trans g3
                refine ⟨hn8, q + G.1, life, G.2.1, by omega, (k5.int (by unfold mH mR; omega)).trans g2, k2, e35.trans k3.symm, fun c hc => ?_, fun w => ?_⟩
                · obtain ⟨r, ⟨a1, a2, a3, a4, a5, a6⟩, -⟩ := g4 c hc
                  refine ⟨(d1 c hc 1).trans a1, (d1 c hc 2).trans a2, ?_, k4 c hc⟩
                  rw [← a3]
                  unfold x3
                  rw [d1 c hc, d1 c hc, d1 c hc]
                · rw [e35] at w
                  refine ⟨fun c hc => ?_, ?_⟩
                  · obtain ⟨r, ⟨a1, a2, a3, a4, a5, a6⟩, hz⟩ := g4 c hc
                    obtain ⟨r0, -⟩ := hz w
                    exact ⟨(d1 c hc 8).trans (a4.trans r0), fun v => (d1 c hc 6).trans (a5 v)⟩
                  · intro c hc
                    obtain ⟨r, -, hz⟩ := g4 c hc
                    obtain ⟨-, hB⟩ := hz w
                    obtain ⟨x1, x2⟩ := hB c hc
                    refine ⟨x1, fun v => ?_⟩
                    show _ < iG t2 7 c
                    rw [hF2.int (by unfold xB xA mH mR; rcases hL' with rfl | rfl <;> omega)]
                    exact x2 v
              · refine HulH.rd.fw hF2 (i4 h' hh') fun o k w => ?_
                unfold hulHQ at w
                unfold xB xA mH mR
                rcases hL' with rfl | rfl <;> omega
            · unfold xB xA mH mR at z
              unfold flnP
              rcases hL' with rfl | rfl <;> omega
          · refine hnone ?_ ?_
            · unfold f_X11_flown
              rw [if_neg b1', if_neg c1, if_neg c2, hlb, if_pos hl, hpl, if_neg (fun z => c3 (hsum.mp z))]
            · unfold f_X12_flown
              rw [if_neg b2', if_pos hin2, hcl2, if_pos hl', hL2, if_neg c1, hL3, if_neg c2, u3, if_neg (fun z => c3 (hsum.mp z))]
    · have hl' : ¬ iG s 229 h = -1 := fun z => hl (u4.trans z)
      refine hnone ?_ ?_
      · unfold f_X11_flown
        rw [if_neg b1', hlb, if_neg hl]
        split
        · rfl
        · split <;> rfl
      · unfold f_X12_flown
        rw [if_neg b2', if_pos hin2, hcl2, if_neg hl']
