/-! odds, left -/
def oddQ (o k : Nat) : Prop := (o = 3 ∧ k = 8) ∨ (4 ≤ o ∧ o ≤ 10) ∨ (118 ≤ o ∧ o ≤ 122)
theorem OddI.cg {K : List Cl} {n nt st : Nat} {m : Nat → Nat} {P : Nat → List (Nat × Nat)} {s t : cS} (h : OddI K n m P nt st s) (e : ∀ o k, oddQ o k → iG t o k = iG s o k) : OddI K n m P nt st t := by
  obtain ⟨o1, o2, o3, o4, o5⟩ := h
  refine ⟨(e 3 8 (by unfold oddQ; omega)).trans o1, o2, o3, fun c hc => ?_, fun c hc => ?_⟩
  · obtain ⟨a, a1, a2⟩ := o4 c hc
    exact ⟨a, a1, (e 119 c (by unfold oddQ; omega)).trans a2⟩
  · have h5 := o5 c hc
    unfold MmO at h5 ⊢
    rw [e 119 c (by unfold oddQ; omega), e 3 8 (by unfold oddQ; omega), e 120 c (by unfold oddQ; omega), e 121 c (by unfold oddQ; omega), e 122 c (by unfold oddQ; omega)]
    intro z
    obtain ⟨tx', p', tot', b1, b2, b3, b4, b5, b6⟩ := h5 z
    refine ⟨tx', p', tot', b1, b2, b3, b4, b5, fun i hi => ?_⟩
    rw [e 118 _ (by unfold oddQ; omega), RNP_cg (t := t) (s := s) fun o k a b => e o k (by unfold oddQ; omega)]
    exact b6 i hi
theorem OddI.fw {K : List Cl} {n nt st : Nat} {m : Nat → Nat} {P : Nat → List (Nat × Nat)} {Q : Nat → Nat → Prop} {s t : cS} (h : OddI K n m P nt st s) (hF : Fw Q s t) (hd : ∀ o k, oddQ o k → ¬ Q o k) : OddI K n m P nt st t := h.cg fun o k z => hF.int (hd o k z)
def odP (o k : Nat) : Prop := prpP o k ∨ allP o k
def AllI (K : List Cl) (n : Nat) (m : Nat → Nat) (P : Nat → List (Nat × Nat)) (nt st : Nat) (s : cS) : Prop := CorN n m s ∧ LawK K s ∧ PrgI P s ∧ OddI K n m P nt st s
section
variable {K : List Cl} {n nt st : Nat} {m : Nat → Nat} {P : Nat → List (Nat × Nat)} {s : cS}
theorem odd_X (h : AllI K n m P nt st s) {tx tot pc : Nat} {p : Int32} (ht : tot ≤ 2000) (hpc : pc < 2 ^ 31) (htx : tx < 8 + nt ∨ tx = 16) : ∃ s1, Ev (fun N => f_X5_prepare N (nI pc) (nI tx) (some (txT tx)) p (nI tot) s) ((), s1) ∧ AllI K n m P nt st s1 ∧ wts s1 = wts s ∧ (∀ c, c < n → bit pc c → KnO m (RNP K s p (txP P tx)) tot c s1) ∧ Fw prpP s s1 := by
  obtain ⟨hC, hL, hP, hO⟩ := h
  obtain ⟨s1, k1, k2, k3, k4⟩ := x_prepare (p := p) hC hL hP hO ht hpc htx
  refine ⟨s1, k1, ⟨prp_C hC k4, hL.fx (by rw [k4.1]) (by rw [k4.1]) k4.x fun o k z => ?_, prp_P hP k4, k2⟩, wts_cg fun k => k4.int (by unfold prpP; omega), k3, k4⟩
  unfold lawQ lmQ at z
  unfold prpP
  omega
theorem odd_M (h : AllI K n m P nt st s) {pc fl : Nat} {prog p : Int32} {ps : List (Nat × Nat)} (hq : prgM prog ps s) (ht : pls ps + fl ≤ 2000) (hpc : pc < 2 ^ 31) : ∃ s1, Ev (fun N => f_X12_all N (nI pc) prog p (nI fl) s) ((), s1) ∧ AllI K n m P nt st s1 ∧ wts s1 = wts s ∧ (∀ c, c < n → bit pc c → RnM m (RNP K s p ps) (pls ps + fl) c s1) ∧ Fw allP s s1 := by
  obtain ⟨hC, hL, hP, hO⟩ := h
  obtain ⟨L, hL', hs1, hX, hM, hF⟩ := hL.L
  obtain ⟨s1, k1, k3, k4⟩ := m_all (p := p) hF hM hC hq ht hpc
  refine ⟨s1, k1, ⟨all_C hC k4, hL.fx (by rw [k4.1]) (by rw [k4.1]) k4.x fun o k z => ?_, PrgI.rd.fw k4 hP fun o k z => ?_, hO.fw k4 fun o k z => ?_⟩, wts_cg fun k => k4.int (by unfold allP mG mR; omega), k3, k4⟩
  · unfold lawQ lmQ at z
    unfold allP mG mR
    omega
  · unfold prgQ at z
    unfold allP mG mR
    omega
  · unfold oddQ at z
    unfold allP mG mR
    omega
theorem prT8 {j : Nat} (hj : j < 8) : txT j = 169 + 3 * j := by
  unfold txT prT
  rw [if_neg (by omega), if_pos hj]
theorem txP8 {P : Nat → List (Nat × Nat)} {j : Nat} (hj : j < 16) : txP P j = P j := by
  unfold txP
  rw [if_neg (by omega)]
theorem every_n (hC : CorN n m s) : f_X1_every s = nI (2 ^ n - 1) ∧ f_X12_whole s = nI (2 ^ n - 1) := by
  have : ∀ n, n ≤ 8 → ((1 : Int32) <<< (nI n &&& 31)) - (1 : Int32) = nI (2 ^ n - 1) := by decide +kernel
  unfold f_X1_every f_X12_whole
  rw [hC.2.1, hC.2.2.1]
  exact ⟨this n hC.1, this n hC.1⟩
theorem bit_all {n c : Nat} (hn : n ≤ 8) (hc : c < n) : bit (2 ^ n - 1) c := by
  have : ∀ n, n ≤ 8 → ∀ c, c < n → bit (2 ^ n - 1) c := by decide +kernel
  exact this n hn c hc
theorem all_lt {n : Nat} (hn : n ≤ 8) : 2 ^ n - 1 < 2 ^ 31 := by
  have : ∀ n, n ≤ 8 → 2 ^ n - 1 < 2 ^ 31 := by decide +kernel
  exact this n hn
/-- a program that can be flown on -/
theorem can_fly (hP : PrgI P s) (a0 a1 a2 : Int32) : (∃ x, f_X11_programOf a0 s = some (x, s) ∧ f_X11_canFly x a1 a2 s = some (0, s) ∧ ∀ t : cS, (∀ k, iG t 220 k = iG s 220 k) → f_X12_canFly a0 a1 a2 t = some (0, t)) ∨ ∃ j f, j < 8 ∧ a0 = nI j ∧ a2 = nI f ∧ pls (P j) + f ≤ 2000 ∧ wB a1 0 99 ≠ 0 ∧ f_X11_programOf a0 s = some (some (txT j), s) ∧ f_X11_canFly (some (txT j)) a1 a2 s = some (1, s) ∧ ∀ t : cS, (∀ k, iG t 220 k = iG s 220 k) → f_X12_canFly a0 a1 a2 t = some (1, t) := by
  have hL1 : ∀ t, f_X12_isProgram a0 t = wB a0 0 7 := fun t => lIn_w (a' := 0) (b' := 7) rfl rfl
  have hL2 : ∀ t, f_X12_isPressure a1 t = wB a1 0 99 := fun t => lIn_w (a' := 0) (b' := 99) rfl rfl
  by_cases c0 : wB a0 0 7 = 0
  · left
    refine ⟨none, x_programN c0, rfl, fun t _ => ?_⟩
    unfold f_X12_canFly
    rw [hL1, if_pos c0]
  · obtain ⟨j, -, hj, rfl⟩ := wB_out (m := 0) (n := 7) (by decide) (by decide) c0
    have hj8 : j < 8 := by omega
    have hpr : f_X11_programOf (nI j) s = some (some (txT j), s) := by
      rw [prT8 hj8]
      exact x_programOf hj8
    have hin : inb (nI j) 16 := (inb_n (by omega)).mpr (by omega)
    have hcl : (nI j).toNatClampNeg = j := nI_clamp (by omega)
    have hk : kd (txT j) 6 := kd_tx j (by omega)
    obtain ⟨g1, g2⟩ := hP.1 j (by omega)
    have hT : txT j = prT j := by unfold txT; rw [if_neg (by omega)]
    have hpl : f_X6_pulls (txT j) s = nI (pls (P j)) := by
      unfold f_X6_pulls
      rw [hT]
      exact g1.2.2.1
    have h220 : iG s 220 j = nI (pls (P j)) := g2.2.2.1
    have hp2 := g1.2.2.2.1
    have hL3 : lIn a2.toInt64 (0 : Int64) (((2000 : Int32) - nI (pls (P j))).toInt64) = wB a2 0 (nI (2000 - pls (P j))) := by
      rw [show (2000 : Int32) - nI (pls (P j)) = nI (2000 - pls (P j)) from pk_sub (a := 2000) hp2]
      exact lIn_w (a' := 0) rfl l_i
    have hX : f_X11_canFly (some (txT j)) a1 a2 s = if wB a1 0 99 = 0 then some (0, s) else if wB a2 0 2000 = 0 then some (0, s) else if (2000 : Int32) < nI (pls (P j)) + a2 then some (0, s) else some (1, s) := by
      unfold f_X11_canFly
      rw [orf_mk, hpl]
      simp only [if_pos hk]
    have hM : ∀ t : cS, (∀ k, iG t 220 k = iG s 220 k) → f_X12_canFly (nI j) a1 a2 t = if wB a1 0 99 = 0 then some (0, t) else if wB a2 0 (nI (2000 - pls (P j))) = 0 then some (0, t) else some (1, t) := by
      intro t ht
      unfold f_X12_canFly
      rw [hL1, if_neg c0, hL2]
      simp only [if_pos hin, hcl, ht, h220, hL3]
    by_cases c1 : wB a1 0 99 = 0
    · left
      refine ⟨_, hpr, ?_, fun t ht => ?_⟩
      · rw [hX, if_pos c1]
      · rw [hM t ht, if_pos c1]
    · by_cases c2 : wB a2 0 (nI (2000 - pls (P j))) = 0
      · left
        refine ⟨_, hpr, ?_, fun t ht => ?_⟩
        · rw [hX, if_neg c1]
          by_cases c3 : wB a2 0 2000 = 0
          · rw [if_pos c3]
          · obtain ⟨f, -, hf, rfl⟩ := wB_out (m := 0) (n := 2000) (by decide) (by decide) c3
            rw [if_neg c3, nI_add]
            by_cases c4 : pls (P j) + f ≤ 2000
            · exfalso
              rw [show wB (nI f) 0 (nI (2000 - pls (P j))) = 1 from wB_in (m := 0) (by omega) (by omega) (by omega)] at c2
              exact absurd c2 (by decide)
            · rw [if_pos (c := (2000 : Int32) < nI (pls (P j) + f)) (nI_lt (a := 2000) (by omega) (by omega))]
        · rw [hM t ht, if_neg c1, if_pos c2]
      · obtain ⟨f, -, hf, rfl⟩ := wB_out (m := 0) (n := 2000 - pls (P j)) (by decide) (by omega) c2
        right
        refine ⟨j, f, hj8, rfl, rfl, by omega, c1, hpr, ?_, fun t ht => ?_⟩
        · rw [hX, if_neg c1, show wB (nI f) 0 2000 = 1 from wB_in (m := 0) (n := 2000) (by omega) (by omega) (by decide), if_neg (by decide), nI_add, if_neg (c := (2000 : Int32) < nI (pls (P j) + f)) (nI_nlt (a := 2000) (by omega) (by omega))]
        · rw [hM t ht, if_neg c1, if_neg c2]
theorem pulls_of (hP : PrgI P s) {j : Nat} (hj : j < 8) : f_X11_pullsOf (some (txT j)) s = some (nI (pls (P j)), s) := by
  have hT : txT j = prT j := by unfold txT; rw [if_neg (by omega)]
  unfold f_X11_pullsOf f_X6_pulls
  rw [orf_mk, if_pos (kd_tx j (by omega)), hT, (hP.1 j (by omega)).1.2.2.1]
theorem m_odds (h : AllI K n m P nt st s) (a0 a1 a2 a3 : Int32) : ∃ r s1 s2, r_X11_odds a0 a1 a2 a3 s r s1 ∧ r_X12_odds a0 a1 a2 a3 s1 r s2 ∧ AllI K n m P nt st s2 ∧ Fw odP s s2 := by
  have h0 := h
  obtain ⟨hC, hL, hP, hO⟩ := h
  have hn8 := hC.1
  have hnone : f_X11_odds 0 a0 a1 a2 a3 s = some (-1, s) → f_X12_odds 0 a0 a1 a2 a3 s = some (-1, s) → ∃ r s1 s2, r_X11_odds a0 a1 a2 a3 s r s1 ∧ r_X12_odds a0 a1 a2 a3 s1 r s2 ∧ AllI K n m P nt st s2 ∧ Fw odP s s2 := fun h1 h2 => ⟨-1, s, s, ⟨0, h1⟩, ⟨0, h2⟩, h0, Fw.rf⟩
  rcases can_fly hP a0 a1 a2 with ⟨x, q1, q2, q3⟩ | ⟨j, f, hj, rfl, rfl, hf, c1, q1, q2, q3⟩
  · refine hnone ?_ ?_
    · unfold f_X11_odds
      rw [q1, ob_mk, q2, ob_mk, if_pos rfl]
    · unfold f_X12_odds
      rw [q3 s (fun _ => rfl), ob_mk, if_pos rfl]
  · have hwh : a3 = (-1 : Int32) ∨ a3 = (8 : Int32) ∨ (¬ a3 = (-1 : Int32) ∧ ¬ a3 = (8 : Int32)) := by
      by_cases z : a3 = (-1 : Int32)
      · exact Or.inl z
      · by_cases y : a3 = (8 : Int32)
        · exact Or.inr (Or.inl y)
        · exact Or.inr (Or.inr ⟨z, y⟩)
    have hbad : ¬ a3 = (-1 : Int32) → ¬ a3 = (8 : Int32) → f_X1_has a3 s = 0 → f_X12_isCorner a3 s = 0 → ∃ r s1 s2, r_X11_odds (nI j) a1 (nI f) a3 s r s1 ∧ r_X12_odds (nI j) a1 (nI f) a3 s1 r s2 ∧ AllI K n m P nt st s2 ∧ Fw odP s s2 := by
      intro z y b1 b2
      refine hnone ?_ ?_
      · unfold f_X11_odds
        rw [q1, ob_mk, q2, ob_mk, if_neg (by decide), if_neg z, if_neg y, if_pos b1]
      · unfold f_X12_odds
        rw [q3 s (fun _ => rfl), ob_mk, if_neg (by decide), if_neg z, if_neg y, if_pos b2]
    -- what both go on to
    have hX : (a3 = (-1 : Int32) ∨ a3 = (8 : Int32) ∨ f_X1_has a3 s = 1) → ∀ N, f_X11_odds N (nI j) a1 (nI f) a3 s = j_X11_odds_46 N (nI j) a1 (nI f) a3 (some (txT j)) s := by
      intro hc N
      unfold f_X11_odds
      rw [q1, ob_mk, q2, ob_mk, if_neg (by decide)]
      rcases hc with z | z | z
      · rw [if_pos z]
      · rw [if_pos z, if_neg (by rw [z]; decide)]
      · rw [if_neg (c := f_X1_has a3 s = 0) (by rw [z]; decide), ite_self, ite_self]
    have hM : ∀ t : cS, (∀ k, iG t 220 k = iG s 220 k) → (a3 = (-1 : Int32) ∨ a3 = (8 : Int32) ∨ f_X12_isCorner a3 t = 1) → ∀ N, f_X12_odds N (nI j) a1 (nI f) a3 t = j_X12_odds_36 N (nI j) a1 (nI f) a3 t := by
      intro t ht hc N
      unfold f_X12_odds
      rw [q3 t ht, ob_mk, if_neg (by decide)]
      rcases hc with z | z | z
      · rw [if_pos z]
      · rw [if_pos z, if_neg (by rw [z]; decide)]
      · rw [if_neg (c := f_X12_isCorner a3 t = 0) (by rw [z]; decide), ite_self, ite_self]
    have hev := every_n hC
    have hR0 : RNP K s a1 (txP P j) = RNP K s a1 (P j) := by rw [txP8 (by omega)]
    by_cases z : a3 = (-1 : Int32)
    · -- all ways
      have k1 := x_ways (R := RNP K s a1 (P j)) hC (all_lt hn8)
      have hgo : Ev (fun N => f_X11_odds N (nI j) a1 (nI f) a3 s) (lN (past n m (wts s) (RNP K s a1 (P j)) (2 ^ n - 1) 0), s) := by
        refine Ev.cg (Ev.bnd k1 (k := fun _ r24 s25 => some (r24, s25)) (Ev.of fun N => rfl)) fun N => ?_
        rw [hX (Or.inl z)]
        unfold j_X11_odds_46
        rw [if_pos z, hev.1]
      obtain ⟨s2, e1, e2, e3, e4, e5⟩ := odd_M (prog := nI j) (p := a1) (ps := P j) (fl := f) h0 (Or.inl ⟨j, by omega, rfl, (hP.1 j (by omega)).2⟩) hf (all_lt hn8)
      have hw := m_waysOf (R := RNP K s a1 (P j)) e2.1 (all_lt hn8)
      rw [e3] at hw
      refine ⟨_, s, s2, hgo.ex, (Ev.cg (Ev.bnd e1 (k := fun N _ s8 => ob (f_X12_waysOf N (f_X12_whole s8) s8) fun r24 s25 => some (r24, s25)) (Ev.cg (Ev.bnd hw (k := fun _ r24 s25 => some (r24, s25)) (Ev.of fun N => rfl)) fun N => ?_)) fun N => ?_).ex, e2, e5.mo fun o k y => Or.inr y⟩
      · rw [(every_n e2.1).2]
      · rw [hM s (fun _ => rfl) (Or.inl z)]
        unfold j_X12_odds_36
        rw [hev.2]
        simp only [if_pos z]
    · obtain ⟨s1, b1, b2, b3, b4, b5⟩ := odd_X (tx := j) (p := a1) (tot := pls (P j) + f) h0 hf (all_lt hn8) (Or.inl (by omega))
      rw [hR0] at b4
      have h220 : ∀ k, iG s1 220 k = iG s 220 k := fun k => b5.int (by unfold prpP; omega)
      obtain ⟨s2, e1, e2, e3, e4, e5⟩ := odd_M (prog := nI j) (p := a1) (ps := P j) (fl := f) b2 (Or.inl ⟨j, by omega, rfl, (b2.2.2.1.1 j (by omega)).2⟩) hf (all_lt hn8)
      rw [prp_R b5] at e4
      rw [b3] at e3
      have hF : Fw odP s s2 := (b5.mo fun o k y => Or.inl y).tr (e5.mo fun o k y => Or.inr y)
      have hbX : ∀ c, c < n → KnO m (RNP K s a1 (P j)) (pls (P j) + f) c s1 := fun c hc => b4 c hc (bit_all hn8 hc)
      have hbM : ∀ c, c < n → RnM m (RNP K s a1 (P j)) (pls (P j) + f) c s2 := fun c hc => e4 c hc (bit_all hn8 hc)
      have hev1 := every_n b2.1
      have hev2 := every_n e2.1
      have hXp : ∀ {q : Int64 × cS}, (a3 = (-1 : Int32) ∨ a3 = (8 : Int32) ∨ f_X1_has a3 s = 1) → Ev (fun N => if a3 = (8 : Int32) then ob (f_X5_lost N (nI (2 ^ n - 1)) (nI (pls (P j) + f)) s1) fun r21 s22 => some (r21, s22) else ob (f_X5_first N a3 (nI (pls (P j) + f)) s1) fun r18 s19 => some (r18, s19)) q → Ev (fun N => f_X11_odds N (nI j) a1 (nI f) a3 s) q := by
        intro q hx hk
        refine Ev.cg (Ev.bnd b1 (k := fun N _ s15 => if a3 = (8 : Int32) then ob (f_X5_lost N (nI (2 ^ n - 1)) (nI (pls (P j) + f)) s15) fun r21 s22 => some (r21, s22) else ob (f_X5_first N a3 (nI (pls (P j) + f)) s15) fun r18 s19 => some (r18, s19)) hk) fun N => ?_
        rw [hX hx]
        unfold j_X11_odds_46
        rw [if_neg z, pulls_of hP hj, ob_mk, hev.1, nI_add]
      have hMp : ∀ {q : Int64 × cS}, (a3 = (-1 : Int32) ∨ a3 = (8 : Int32) ∨ f_X12_isCorner a3 s1 = 1) → Ev (fun N => if a3 = (8 : Int32) then ob (f_X12_waysOf N (f_X12_whole s2) s2) fun r16 s17 => ob (f_X12_waysLeft N (f_X12_whole s17) (2000 : Int32) s17) fun r20 s21 => some (r16 - r20, s21) else ob (f_X12_first N a3 s2) fun r12 s13 => some (r12, s13)) q → Ev (fun N => f_X12_odds N (nI j) a1 (nI f) a3 s1) q := by
        intro q hx hk
        refine Ev.cg (Ev.bnd e1 (k := fun N _ s8 => if a3 = (8 : Int32) then ob (f_X12_waysOf N (f_X12_whole s8) s8) fun r16 s17 => ob (f_X12_waysLeft N (f_X12_whole s17) (2000 : Int32) s17) fun r20 s21 => some (r16 - r20, s21) else ob (f_X12_first N a3 s8) fun r12 s13 => some (r12, s13)) hk) fun N => ?_
        rw [hM s1 h220 hx]
        unfold j_X12_odds_36
        rw [hev1.2]
        simp only [if_neg z]
      by_cases y : a3 = (8 : Int32)
      · -- lost
        have k1 := x_lost (R := RNP K s a1 (P j)) (q := pls (P j) + f) b2.1 (all_lt hn8) (by omega) (fun c hc _ => Or.inr (hbX c hc))
        rw [b3] at k1
        have w1 := m_waysOf (R := RNP K s a1 (P j)) e2.1 (all_lt hn8)
        have w2 := m_waysLeft (R := RNP K s a1 (P j)) (q := 2000) (q' := pls (P j) + f) (T := pls (P j) + f) e2.1 (all_lt hn8) hf (by decide) (Or.inr ⟨hf, rfl⟩) (fun c hc _ => hbM c hc)
        rw [e3] at w1 w2
        refine ⟨_, s1, s2, (hXp (Or.inr (Or.inl y)) (Ev.cg (Ev.bnd k1 (k := fun _ r21 s22 => some (r21, s22)) (Ev.of fun N => rfl)) fun N => by rw [if_pos y])).ex, (hMp (Or.inr (Or.inl y)) (Ev.cg (Ev.bnd w1 (k := fun N r16 s17 => ob (f_X12_waysLeft N (f_X12_whole s17) (2000 : Int32) s17) fun r20 s21 => some (r16 - r20, s21)) (Ev.cg (Ev.bnd w2 (k := fun _ r20 s21 => some (lN (past n m (wts s) (RNP K s a1 (P j)) (2 ^ n - 1) 0) - r20, s21)) (Ev.of fun N => ?_)) fun N => ?_)) fun N => ?_)).ex, e2, hF⟩
        · rw [lN_sub (past_mo (Nat.zero_le _))]
        · rw [hev2.2]
          rfl
        · rw [if_pos y, hev2.2]
      · -- which first
        rcases has_cor hC.2.1 hC.2.2.1 hn8 a3 with ⟨d1, d2, -⟩ | ⟨c, hc, rfl, d1, d2⟩
        · exact hbad z y d1 d2
        · have d3 : f_X12_isCorner (nI c) s1 = 1 := by
            rw [← d2]
            unfold f_X12_isCorner
            rw [b5.int (by unfold prpP; omega)]
          have k1 := x_first (R := RNP K s a1 (P j)) b2.1 hc hf hbX
          rw [b3] at k1
          have w1 := m_first (R := RNP K s a1 (P j)) e2.1 hc hf hbM
          rw [e3] at w1
          exact ⟨_, s1, s2, (hXp (Or.inr (Or.inr d1)) (Ev.cg (Ev.bnd k1 (k := fun _ r18 s19 => some (r18, s19)) (Ev.of fun N => rfl)) fun N => by rw [if_neg y])).ex, (hMp (Or.inr (Or.inr d3)) (Ev.cg (Ev.bnd w1 (k := fun _ r12 s13 => some (r12, s13)) (Ev.of fun N => rfl)) fun N => by rw [if_neg y])).ex, e2, hF⟩
theorem m_left (h : AllI K n m P nt st s) (a0 a1 a2 a3 : Int32) : ∃ r s1 s2, r_X11_left a0 a1 a2 a3 s r s1 ∧ r_X12_left a0 a1 a2 a3 s1 r s2 ∧ AllI K n m P nt st s2 ∧ Fw odP s s2 := by
  have h0 := h
  obtain ⟨hC, hL, hP, hO⟩ := h
  have hn8 := hC.1
  have hnone : f_X11_left 0 a0 a1 a2 a3 s = some (-1, s) → f_X12_left 0 a0 a1 a2 a3 s = some (-1, s) → ∃ r s1 s2, r_X11_left a0 a1 a2 a3 s r s1 ∧ r_X12_left a0 a1 a2 a3 s1 r s2 ∧ AllI K n m P nt st s2 ∧ Fw odP s s2 := fun h1 h2 => ⟨-1, s, s, ⟨0, h1⟩, ⟨0, h2⟩, h0, Fw.rf⟩
  have hL3 : lIn a3.toInt64 (0 : Int64) (1 : Int64) = wB a3 0 1 := lIn_w (a' := 0) (b' := 1) rfl rfl
  rcases can_fly hP a0 a1 a2 with ⟨x, q1, q2, q3⟩ | ⟨j, f, hj, rfl, rfl, hf, c1, q1, q2, q3⟩
  · refine hnone ?_ ?_
    · unfold f_X11_left
      rw [q1, ob_mk, q2, ob_mk, if_pos rfl]
    · unfold f_X12_left
      rw [q3 s (fun _ => rfl), ob_mk, if_pos rfl]
  · by_cases c3 : wB a3 0 1 = 0
    · refine hnone ?_ ?_
      · unfold f_X11_left
        rw [q1, ob_mk, q2, ob_mk, if_neg (by decide), if_pos c3]
      · unfold f_X12_left
        rw [q3 s (fun _ => rfl), ob_mk, if_neg (by decide), hL3, if_pos c3]
    · have hev := every_n hC
      have hR0 : RNP K s a1 (txP P j) = RNP K s a1 (P j) := by rw [txP8 (by omega)]
      obtain ⟨s1, b1, b2, b3, b4, b5⟩ := odd_X (tx := j) (p := a1) (tot := pls (P j) + f) h0 hf (all_lt hn8) (Or.inl (by omega))
      rw [hR0] at b4
      have h220 : ∀ k, iG s1 220 k = iG s 220 k := fun k => b5.int (by unfold prpP; omega)
      obtain ⟨s2, e1, e2, e3, e4, e5⟩ := odd_M (prog := nI j) (p := a1) (ps := P j) (fl := f) b2 (Or.inl ⟨j, by omega, rfl, (b2.2.2.1.1 j (by omega)).2⟩) hf (all_lt hn8)
      rw [prp_R b5] at e4
      rw [b3] at e3
      have hF : Fw odP s s2 := (b5.mo fun o k y => Or.inl y).tr (e5.mo fun o k y => Or.inr y)
      have hbX : ∀ c, c < n → KnO m (RNP K s a1 (P j)) (pls (P j) + f) c s1 := fun c hc => b4 c hc (bit_all hn8 hc)
      have hbM : ∀ c, c < n → RnM m (RNP K s a1 (P j)) (pls (P j) + f) c s2 := fun c hc => e4 c hc (bit_all hn8 hc)
      have hev1 := every_n b2.1
      have hev2 := every_n e2.1
      have hin : inb (nI j) 16 := (inb_n (by omega)).mpr (by omega)
      have hcl : (nI j).toNatClampNeg = j := nI_clamp (by omega)
      have hp2 : iG s2 220 j = nI (pls (P j)) := (e2.2.2.1.1 j (by omega)).2.2.2.1
      -- numbers
      have k1 := x_lost (R := RNP K s a1 (P j)) (q := pls (P j)) b2.1 (all_lt hn8) (by omega) (fun c hc _ => Or.inr ((hbX c hc).le (by omega)))
      have k2 := x_ways (R := RNP K s a1 (P j)) b2.1 (all_lt hn8)
      have k3 := x_lost (R := RNP K s a1 (P j)) (q := pls (P j) + f) b2.1 (all_lt hn8) (by omega) (fun c hc _ => Or.inr (hbX c hc))
      rw [b3] at k1 k2 k3
      have w1 := m_waysLeft (R := RNP K s a1 (P j)) (q := pls (P j)) (q' := pls (P j)) (T := pls (P j) + f) e2.1 (all_lt hn8) hf (by omega) (Or.inl ⟨by omega, rfl⟩) (fun c hc _ => hbM c hc)
      have w2 := m_waysLeft (R := RNP K s a1 (P j)) (q := 2000) (q' := pls (P j) + f) (T := pls (P j) + f) e2.1 (all_lt hn8) hf (by decide) (Or.inr ⟨hf, rfl⟩) (fun c hc _ => hbM c hc)
      rw [e3] at w1 w2
      have hW := past_bd (n := n) (m := m) (w := wts s) (P := RNP K s a1 (P j)) (pc := 2 ^ n - 1) (q := 0) hn8 (fun c hc => hC.m4 (by omega)) (fun c i hc hi => (hC.wt (by omega) hi).2.2.2)
      have hD0 : past n m (wts s) (RNP K s a1 (P j)) (2 ^ n - 1) (pls (P j)) ≤ past n m (wts s) (RNP K s a1 (P j)) (2 ^ n - 1) 0 := past_mo (Nat.zero_le _)
      have hT0 : past n m (wts s) (RNP K s a1 (P j)) (2 ^ n - 1) (pls (P j) + f) ≤ past n m (wts s) (RNP K s a1 (P j)) (2 ^ n - 1) (pls (P j)) := past_mo (by omega)
      generalize past n m (wts s) (RNP K s a1 (P j)) (2 ^ n - 1) 0 = W at k1 k2 k3 hW hD0
      generalize past n m (wts s) (RNP K s a1 (P j)) (2 ^ n - 1) (pls (P j)) = D at k1 w1 hD0 hT0
      generalize past n m (wts s) (RNP K s a1 (P j)) (2 ^ n - 1) (pls (P j) + f) = T at k3 w2 hT0
      have hXp : ∀ {q : Int64 × cS}, Ev (fun N => if (lg_cmp (lN D) (0 : Int64)) = 0 then some ((-2 : Int64), s1) else ob (f_X11_shortened N (lN (D - T)) (lN D) a3 s1) fun r27 s28 => some (r27, s28)) q → Ev (fun N => f_X11_left N (nI j) a1 (nI f) a3 s) q := by
        intro q hk
        have e0 : lN W - lN (W - D) = lN D := by
          rw [lN_sub (by omega)]
          congr 1
          omega
        have e1 : lN (W - T) - lN (W - D) = lN (D - T) := by
          rw [lN_sub (by omega)]
          congr 1
          omega
        refine Ev.cg (Ev.bnd b1 (k := fun N _ s15 => ob (f_X5_lost N (nI (2 ^ n - 1)) (nI (pls (P j))) s15) fun r17 s18 => ob (f_X5_ways N (nI (2 ^ n - 1)) s18) fun r20 s21 => if (lg_cmp (r20 - r17) (0 : Int64)) = 0 then some ((-2 : Int64), s21) else ob (f_X5_lost N (nI (2 ^ n - 1)) (nI (pls (P j) + f)) s21) fun r24 s25 => ob (f_X11_shortened N (r24 - r17) (r20 - r17) a3 s25) fun r27 s28 => some (r27, s28)) (Ev.bnd k1 (Ev.bnd k2 ?_))) fun N => ?_
        · rw [e0]
          by_cases z : (lg_cmp (lN D) (0 : Int64)) = 0
          · simp only [if_pos z] at hk ⊢
            exact hk
          · simp only [if_neg z] at hk ⊢
            refine Ev.bnd k3 ?_
            rw [e1]
            exact hk
        · unfold f_X11_left
          rw [q1, ob_mk, q2, ob_mk, if_neg (by decide), if_neg c3, pulls_of hP hj, ob_mk, hev.1, nI_add]
      have hMp : ∀ {q : Int64 × cS}, Ev (fun N => if (lg_cmp (lN D) (0 : Int64)) = 0 then some ((-2 : Int64), s2) else ob (f_X12_divisor N (lN (D - T)) (lN D) s2) fun r21 s22 => if a3 = 0 then if r21 = 0 then none else some (lN (D - T) / r21, s22) else if r21 = 0 then none else some (lN D / r21, s22)) q → Ev (fun N => f_X12_left N (nI j) a1 (nI f) a3 s1) q := by
        intro q hk
        refine Ev.cg (Ev.bnd e1 (k := fun N _ s9 => ob (f_X12_waysLeft N (f_X12_whole s9) (iG s9 220 j) s9) fun r13 s14 => if (lg_cmp r13 (0 : Int64)) = 0 then some ((-2 : Int64), s14) else ob (f_X12_waysLeft N (f_X12_whole s14) (2000 : Int32) s14) fun r18 s19 => ob (f_X12_divisor N (r13 - r18) r13 s19) fun r21 s22 => if a3 = 0 then if r21 = 0 then none else some ((r13 - r18) / r21, s22) else if r21 = 0 then none else some (r13 / r21, s22)) ?_) fun N => ?_
        · rw [hev2.2, hp2]
          refine Ev.bnd w1 ?_
          by_cases z : (lg_cmp (lN D) (0 : Int64)) = 0
          · simp only [if_pos z] at hk ⊢
            exact hk
          · simp only [if_neg z] at hk ⊢
            rw [hev2.2]
            refine Ev.bnd w2 ?_
            rw [lN_sub hT0]
            exact hk
        · unfold f_X12_left
          rw [q3 s1 h220, ob_mk, if_neg (by decide), hL3, if_neg c3, hev1.2]
          simp only [if_pos hin, hcl]
      by_cases z : D = 0
      · have hz : (lg_cmp (lN D) (0 : Int64)) = 0 := lg_eq.mpr ((lN_z (by omega)).mpr z)
        exact ⟨-2, s1, s2, (hXp (Ev.of fun N => by rw [if_pos hz])).ex, (hMp (Ev.of fun N => by rw [if_pos hz])).ex, e2, hF⟩
      · have hz : ¬ (lg_cmp (lN D) (0 : Int64)) = 0 := fun w => z ((lN_z (by omega)).mp (lg_eq.mp w))
        have hg : 0 < Nat.gcd (D - T) D := Nat.gcd_pos_of_pos_right _ (by omega)
        have hg2 : Nat.gcd (D - T) D ≤ D := Nat.gcd_le_right _ (by omega)
        have hg0 : ¬ lN (Nat.gcd (D - T) D) = (0 : Int64) := fun w => by have := (lN_z (by omega)).mp w; omega
        have hs := x_short (A := D - T) (B := D) (x4 := a3) (s := s1) (by omega) (by omega) (by omega)
        have hd := m_divisor (a := D - T) (b := D) (s := s2) (by omega) (by omega)
        refine ⟨_, s1, s2, (hXp (Ev.cg (Ev.bnd hs (k := fun _ r27 s28 => some (r27, s28)) (Ev.of fun N => rfl)) fun N => by rw [if_neg hz])).ex, (hMp (Ev.cg (Ev.bnd hd (k := fun _ r21 s22 => if a3 = 0 then if r21 = 0 then none else some (lN (D - T) / r21, s22) else if r21 = 0 then none else some (lN D / r21, s22)) (Ev.of fun N => ?_)) fun N => by rw [if_neg hz])).ex, e2, hF⟩
        rw [if_neg hg0, if_neg hg0, pk_lDiv (by omega) hg (by omega), pk_lDiv (by omega) hg (by omega)]
        split <;> rfl
end
