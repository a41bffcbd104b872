/-! a corner along a row of pulls -/
def traj (K : List Cl) (ce : CE) (life : Int32) (row : Nat → Int32) : Nat → St3
  | 0 => (0, 0, 0)
  | n + 1 => stpS K ce life (row n) (nI n) (traj K ce life row n)
def fst1 (P : Nat → Bool) : Nat → Nat
  | 0 => 0
  | n + 1 => if fst1 P n = 0 then (if P (n + 1) = true then n + 1 else 0) else fst1 P n
theorem fst1_s (P : Nat → Bool) (n : Nat) : fst1 P (n + 1) = if fst1 P n = 0 then (if P (n + 1) = true then n + 1 else 0) else fst1 P n := rfl
theorem fst1_le (P : Nat → Bool) : ∀ n, fst1 P n ≤ n
  | 0 => Nat.le_refl _
  | n + 1 => by
    have := fst1_le P n
    rw [fst1_s]
    split
    · split <;> omega
    · omega
theorem fst1_st {P : Nat → Bool} {n : Nat} (h : fst1 P n ≠ 0) : ∀ k, fst1 P (n + k) = fst1 P n
  | 0 => rfl
  | k + 1 => by
    show fst1 P (n + k + 1) = _
    rw [fst1_s, fst1_st h k, if_neg h]
theorem fst1_z {P : Nat → Bool} : ∀ {n : Nat}, fst1 P n = 0 → ∀ m, 1 ≤ m → m ≤ n → P m = false
  | 0, _, m, h1, h2 => by omega
  | n + 1, h, m, h1, h2 => by
    rw [fst1_s] at h
    by_cases c : fst1 P n = 0
    · rw [if_pos c] at h
      by_cases e : m = n + 1
      · subst e
        cases hp : P (n + 1) with
        | false => rfl
        | true => rw [if_pos hp] at h; omega
      · exact fst1_z c m h1 (by omega)
    · rw [if_neg c] at h
      exact absurd h c
theorem fst1_nz {P : Nat → Bool} : ∀ {n : Nat}, fst1 P n ≠ 0 → P (fst1 P n) = true
  | 0, h => absurd rfl h
  | n + 1, h => by
    rw [fst1_s] at h ⊢
    by_cases c : fst1 P n = 0
    · rw [if_pos c] at h ⊢
      by_cases hp : P (n + 1) = true
      · rw [if_pos hp]
        exact hp
      · rw [if_neg hp] at h
        exact absurd rfl h
    · rw [if_neg c]
      exact fst1_nz c
theorem fst1_cg {P Q : Nat → Bool} : ∀ {n : Nat}, (∀ m, 1 ≤ m → m ≤ n → P m = Q m) → fst1 P n = fst1 Q n
  | 0, _ => rfl
  | n + 1, h => by
    rw [fst1_s, fst1_s, fst1_cg (n := n) fun m a b => h m a (by omega), h (n + 1) (by omega) (by omega)]
/-- more that holds where less does: it comes no sooner -/
theorem fst1_im {P Q : Nat → Bool} {n : Nat} (h : ∀ m, P m = true → Q m = true) (hp : fst1 P n ≠ 0) : fst1 Q n ≠ 0 := by
  intro hq
  have h1 := fst1_nz hp
  have h2 := fst1_le P n
  have h3 := fst1_z hq (fst1 P n) (by omega) h2
  rw [h _ h1] at h3
  cases h3
theorem traj_cg {K : List Cl} {ce : CE} {life : Int32} {row row' : Nat → Int32} : ∀ {n : Nat}, (∀ i, i < n → row i = row' i) → traj K ce life row n = traj K ce life row' n
  | 0, _ => rfl
  | n + 1, h => by
    unfold traj
    rw [traj_cg (n := n) fun i hi => h i (by omega), h n (by omega)]
/-- it has a crack; it has run -/
def CrkP (tr : Nat → St3) (n : Nat) : Bool := decide (¬ (tr n).2.1 ≤ 0)
def RunP (tr : Nat → St3) (ρ : Int32) (n : Nat) : Bool := decide (¬ ((tr n).2.1 ≤ 0 ∨ (tr n).2.1 < ρ))
theorem RunP_C {tr : Nat → St3} {ρ : Int32} {n : Nat} (h : RunP tr ρ n = true) : CrkP tr n = true := by
  unfold RunP at h
  unfold CrkP
  have := of_decide_eq_true h
  exact decide_eq_true fun z => this (Or.inl z)
section
variable {K : List Cl} {ce : CE} {life ρ : Int32} {row : Nat → Int32} (hρ : 1 ≤ ρ.toInt ∧ ρ.toInt ≤ 10000)
theorem traj_ok (hρ : 1 ≤ ρ.toInt ∧ ρ.toInt ≤ 10000) : ∀ n, (n = 0 ∨ fst1 (RunP (traj K ce life row) ρ) (n - 1) = 0) → SB (traj K ce life row n) ∧ (fst1 (CrkP (traj K ce life row)) n = 0 ↔ (traj K ce life row n).2.1 ≤ 0)
  | 0, _ => ⟨by show SB (0, 0, 0); unfold SB; decide, by show (0 = 0) ↔ (0 : Int32) ≤ 0; decide⟩
  | n + 1, h => by
    have hz : fst1 (RunP (traj K ce life row) ρ) n = 0 := h.resolve_left (by omega)
    have hz' : n = 0 ∨ fst1 (RunP (traj K ce life row) ρ) (n - 1) = 0 := by
      rcases Nat.eq_zero_or_pos n with z | z
      · exact Or.inl z
      · right
        rcases Nat.eq_zero_or_pos (fst1 (RunP (traj K ce life row) ρ) (n - 1)) with y | y
        · exact y
        · have := fst1_st (P := RunP (traj K ce life row) ρ) (n := n - 1) (by omega) 1
          rw [show n - 1 + 1 = n by omega] at this
          omega
    obtain ⟨i1, i2⟩ := traj_ok hρ n hz'
    have hcr : (traj K ce life row n).2.1.toInt ≤ 10000 := by
      rcases Nat.eq_zero_or_pos n with z | z
      · subst z
        show (0 : Int32).toInt ≤ 10000
        decide
      · have hp := fst1_z hz n z (Nat.le_refl _)
        unfold RunP at hp
        have hp' := Classical.not_not.mp (of_decide_eq_false hp)
        rcases hp' with y | y
        · have := lei.mp y
          have h0 : (0 : Int32).toInt = 0 := rfl
          omega
        · have := lti.mp y
          omega
    refine ⟨stpS_bd i1 hcr, ?_⟩
    show fst1 (CrkP (traj K ce life row)) (n + 1) = 0 ↔ _
    have hpc : ∀ m, CrkP (traj K ce life row) m = true ↔ ¬ (traj K ce life row m).2.1 ≤ 0 := fun m => by unfold CrkP; exact decide_eq_true_iff
    rw [fst1_s]
    by_cases c : fst1 (CrkP (traj K ce life row)) n = 0
    · rw [if_pos c]
      by_cases y : (traj K ce life row (n + 1)).2.1 ≤ 0
      · rw [if_neg (fun w => (hpc _).mp w y)]
        exact ⟨fun _ => y, fun _ => rfl⟩
      · rw [if_pos ((hpc _).mpr y)]
        exact ⟨fun w => by omega, fun w => absurd w y⟩
    · rw [if_neg c]
      have c' : ¬ (traj K ce life row n).2.1 ≤ 0 := fun w => c (i2.mpr w)
      refine ⟨fun w => absurd w c, fun w => ?_⟩
      exfalso
      have e : (traj K ce life row (n + 1)).2.1 = (traj K ce life row n).2.1 + moreF K ce (row n) (nI n) (traj K ce life row n).2.2 (traj K ce life row n).2.1 (traj K ce life row n).1 := by
        show (stpS K ce life (row n) (nI n) (traj K ce life row n)).2.1 = _
        unfold stpS
        rw [if_neg c']
      obtain ⟨m1, m2, m3⟩ := moreF_bd K ce (row n) (nI n) (traj K ce life row n).2.2 (traj K ce life row n).2.1 (traj K ce life row n).1
      have m4 := m3 c'
      rw [e] at w
      have w' := lei.mp w
      have h0 : (0 : Int32).toInt = 0 := rfl
      have c'' : ¬ (traj K ce life row n).2.1.toInt ≤ (0 : Int32).toInt := fun w => c' (lei.mpr w)
      rw [addi (by omega) (by omega)] at w'
      omega
theorem traj_ok' (hρ : 1 ≤ ρ.toInt ∧ ρ.toInt ≤ 10000) {n : Nat} (h : fst1 (RunP (traj K ce life row) ρ) n = 0) : SB (traj K ce life row n) ∧ (fst1 (CrkP (traj K ce life row)) n = 0 ↔ (traj K ce life row n).2.1 ≤ 0) := by
  refine traj_ok hρ n ?_
  rcases Nat.eq_zero_or_pos n with z | z
  · exact Or.inl z
  · right
    rcases Nat.eq_zero_or_pos (fst1 (RunP (traj K ce life row) ρ) (n - 1)) with y | y
    · exact y
    · have := fst1_st (P := RunP (traj K ce life row) ρ) (n := n - 1) (by omega) 1
      rw [show n - 1 + 1 = n by omega] at this
      omega
/-- behind a run nothing changes -/
theorem fst1_run {n k : Nat} (h : fst1 (RunP (traj K ce life row) ρ) n ≠ 0) : fst1 (RunP (traj K ce life row) ρ) (n + k) = fst1 (RunP (traj K ce life row) ρ) n ∧ fst1 (CrkP (traj K ce life row)) (n + k) = fst1 (CrkP (traj K ce life row)) n :=
  ⟨fst1_st h k, fst1_st (fst1_im (fun m hm => RunP_C hm) h) k⟩
end
/-! the class -/
def StX (K : List Cl) (ce : CE) (life ρ : Int32) (row : Nat → Int32) (T c n : Nat) (s : cS) : Prop := iG s T 7 = nI (fst1 (CrkP (traj K ce life row)) n) ∧ iG s T 8 = nI (fst1 (RunP (traj K ce life row) ρ) n) ∧ iG s T 1 = nI c ∧ iG s T 2 = life ∧ (fst1 (RunP (traj K ce life row) ρ) n = 0 → x3 T s = traj K ce life row n ∧ iG s T 6 = nI n ∧ KnI K ce T s)
theorem x_step {K : List Cl} {L T c n : Nat} {s : cS} {life ρ : Int32} {row : Nat → Int32} (hL : L = 11 ∨ L = 19) (hT : kd T 8) (h1 : s.1.1 = L) (hK : LwX K L s) (hc : c < 8) (hρ : 1 ≤ ρ.toInt ∧ ρ.toInt ≤ 10000) (hr : iG s 7 c = ρ) (hl : life ≠ 0) (hn : n < 2 ^ 31 - 1) (h : StX K (ceX s c) life ρ row T c n s) (hz : fst1 (RunP (traj K (ceX s c) life row) ρ) n = 0) : ∃ s', Ev (fun N => f_X8_pullBy N T (row n) s) ((), s') ∧ StX K (ceX s c) life ρ row T c (n + 1) s' ∧ Fw (xU L T) s s' := by
  have hT' := kd8 T hT
  obtain ⟨g7, g8, g1, g2, g0⟩ := h
  obtain ⟨k3, k6, kn⟩ := g0 hz
  obtain ⟨b1, b2⟩ := traj_ok' hρ hz
  have e3 : iG s T 3 = (traj K (ceX s c) life row n).1 := congrArg (·.1) k3
  have e4 : iG s T 4 = (traj K (ceX s c) life row n).2.1 := congrArg (·.2.1) k3
  have h4 : 0 ≤ iG s T 4 := by
    rw [e4, lei]
    exact b1.2.2.1
  have h8 : iG s T 8 = 0 := by rw [g8, hz]; rfl
  obtain ⟨s', q1, q2, q3, q4, q5, q6, q7⟩ := x_pullBy hL hT h1 hK hc g1 kn (by rw [g2]; exact hl) h8 h4 (row n)
  rw [g2, k6, k3] at q2
  have q2' : x3 T s' = traj K (ceX s c) life row (n + 1) := q2
  have e4' : iG s' T 4 = (traj K (ceX s c) life row (n + 1)).2.1 := congrArg (·.2.1) q2'
  have hpc : CrkP (traj K (ceX s c) life row) (n + 1) = true ↔ ¬ iG s' T 4 ≤ 0 := by rw [e4']; unfold CrkP; exact decide_eq_true_iff
  have hpr : RunP (traj K (ceX s c) life row) ρ (n + 1) = true ↔ ¬ (iG s' T 4 ≤ 0 ∨ iG s' T 4 < ρ) := by rw [e4']; unfold RunP; exact decide_eq_true_iff
  refine ⟨s', q1, ⟨?_, ?_, by rw [q7.int (by unfold xU; omega)]; exact g1, by rw [q7.int (by unfold xU; omega)]; exact g2, fun _ => ⟨q2', by rw [q3, k6, nI_1], q6⟩⟩, q7⟩
  · rw [q4, k6, g7]
    show _ = nI (fst1 (CrkP (traj K (ceX s c) life row)) (n + 1))
    rw [fst1_s]
    by_cases z : iG s T 4 ≤ 0
    · have z' := b2.mpr (by rw [← e4]; exact z)
      rw [if_pos z']
      by_cases y : iG s' T 4 ≤ 0
      · rw [if_neg (fun w => w.2 y), if_neg (fun w => hpc.mp w y), z']
      · rw [if_pos ⟨z, y⟩, if_pos (hpc.mpr y), nI_1]
    · have z' : ¬ fst1 (CrkP (traj K (ceX s c) life row)) n = 0 := fun w => z (by rw [e4]; exact b2.mp w)
      rw [if_neg (fun w => z w.1), if_neg z']
  · rw [q5, k6, hr]
    show _ = nI (fst1 (RunP (traj K (ceX s c) life row) ρ) (n + 1))
    rw [fst1_s, if_pos hz]
    by_cases y : iG s' T 4 ≤ 0 ∨ iG s' T 4 < ρ
    · rw [if_pos y, if_neg (fun w => hpr.mp w y)]; rfl
    · rw [if_neg y, if_pos (hpr.mpr y), nI_1]
theorem StX.run {K : List Cl} {ce : CE} {life ρ : Int32} {row : Nat → Int32} {T c n : Nat} {s : cS} (h : StX K ce life ρ row T c n s) (hz : fst1 (RunP (traj K ce life row) ρ) n ≠ 0) (k : Nat) : StX K ce life ρ row T c (n + k) s := by
  obtain ⟨h1, h2, h3, h4, h5⟩ := h
  obtain ⟨q1, q2⟩ := fst1_run (k := k) hz
  exact ⟨by rw [q2]; exact h1, by rw [q1]; exact h2, h3, h4, fun w => by rw [q1] at w; exact absurd w hz⟩
abbrev wF (total : Nat) (N : Nat) (v : Int32 × cS) : Option ((Int32 × cS) ⊕ (Unit × cS)) := b_X5_follow_20 N (nI total) v.1 v.2
theorem x_follow_lp {K : List Cl} {L c total : Nat} {life ρ : Int32} {row : Nat → Int32} (hL : L = 11 ∨ L = 19) (hc : c < 8) (hρ : 1 ≤ ρ.toInt ∧ ρ.toInt ≤ 10000) (hl : life ≠ 0) (htot : total ≤ 2000) : ∀ (k n : Nat) (s : cS), n + k = total → s.1.1 = L → LwX K L s → iG s 7 c = ρ → (∀ i, i < total → iG s 117 i = row i) → StX K (ceX s c) life ρ row 123 c n s → ∃ s', EL (wF total) (nI n, s) ((), s') ∧ StX K (ceX s c) life ρ row 123 c total s' ∧ Fw (xU L 123) s s' := by
  intro k
  induction k with
  | zero =>
    intro n s hn h1 hK hr hrow h
    have hn' : n = total := by omega
    subst hn'
    refine ⟨s, EL.en (Ev.of fun N => ?_), h, Fw.rf⟩
    show b_X5_follow_20 N (nI n) (nI n) s = _
    unfold b_X5_follow_20
    rw [if_pos (nI_le (Nat.le_refl _) (by omega))]
    rfl
  | succ k ih =>
    intro n s hn h1 hK hr hrow h
    by_cases hz : fst1 (RunP (traj K (ceX s c) life row) ρ) n = 0
    · obtain ⟨s1, q1, q2, q3⟩ := x_step hL LA_123 h1 hK hc hρ hr hl (by omega) h hz
      have f : ∀ o k, ¬ (o = 123) → o ≠ L + 6 → o ≠ L + 7 → o ≠ L → iG s1 o k = iG s o k := fun o k a b c d => q3.int (by unfold xU; omega)
      have hce : ceX s1 c = ceX s c := by
        unfold ceX
        rw [f 5 c (by omega) (by omega) (by omega) (by omega), f 6 c (by omega) (by omega) (by omega) (by omega), f 4 c (by omega) (by omega) (by omega) (by omega)]
      rw [← hce] at q2
      obtain ⟨s', e1, e2, e3⟩ := ih (n + 1) s1 (by omega) (by rw [q3.1]; exact h1) (LwX.rd.fw q3 hK fun o k z => by unfold lwQ at z; unfold xU; omega) (by rw [f 7 c (by omega) (by omega) (by omega) (by omega)]; exact hr) (fun i hi => by rw [f 117 i (by omega) (by omega) (by omega) (by omega)]; exact hrow i hi) q2
      rw [hce] at e2
      refine ⟨s', EL.st (v' := (nI (n + 1), s1)) (Ev.cg (Ev.bnd q1 (k := fun _ _ s11 => some (.inl (nI n + 1, s11))) (Ev.of fun N => by rw [nI_1])) (fun N => ?_)) e1, e2, q3.tr e3⟩
      show b_X5_follow_20 N (nI total) (nI n) s = _
      unfold b_X5_follow_20 f_X8_ranBy
      rw [if_neg (nI_ge (by omega) (by omega)), if_neg (c := (2000 : Int32) ≤ nI n) (nI_ge (b := 2000) (by omega) (by omega)), h.2.1, hz, if_pos (by rfl), if_pos ((inb_n (by omega)).mpr (by omega)), nI_clamp (by omega), hrow n (by omega)]
    · refine ⟨s, EL.en (Ev.of fun N => ?_), ?_, Fw.rf⟩
      · show b_X5_follow_20 N (nI total) (nI n) s = _
        unfold b_X5_follow_20 f_X8_ranBy
        have hle := fst1_le (RunP (traj K (ceX s c) life row) ρ) n
        rw [if_neg (nI_ge (by omega) (by omega)), if_neg (c := (2000 : Int32) ≤ nI n) (nI_ge (b := 2000) (by omega) (by omega)), h.2.1, if_neg (nI_ne0 (by omega) (by omega))]
        rfl
      · have := h.run hz (k + 1)
        rw [hn] at this
        exact this
def xV (L o k : Nat) : Prop := xU L 123 o k ∨ (o = 123 ∧ 1 ≤ k ∧ k ≤ 2)
theorem x_follow {K : List Cl} {L c total : Nat} {life ρ : Int32} {row : Nat → Int32} {s : cS} {i : Int32} (hL : L = 11 ∨ L = 19) (hc : c < 8) (hρ : 1 ≤ ρ.toInt ∧ ρ.toInt ≤ 10000) (hl : life ≠ 0) (hlf : f_X1_lifeOf (nI c) i s = life) (htot : total ≤ 2000) (h1 : s.1.1 = L) (hK : LwX K L s) (hr : iG s 7 c = ρ) (hrow : ∀ i, i < total → iG s 117 i = row i) : ∃ s', Ev (fun N => f_X5_follow N (nI c) i (nI total) s) ((), s') ∧ iG s' 123 7 = nI (fst1 (CrkP (traj K (ceX s c) life row)) total) ∧ iG s' 123 8 = nI (fst1 (RunP (traj K (ceX s c) life row) ρ) total) ∧ Fw (xV L) s s' := by
  generalize hs3 : iS (iS (iS (iS (iS (iS (iS (iS (iS s 123 1 (nI c)) 123 2 life) 123 3 0) 123 4 0) 123 5 0) 123 6 0) 123 7 0) 123 8 0) 123 9 0 = s3
  have hv : ∀ k, 1 ≤ k → k ≤ 15 → xV L 123 k := fun k a b => by unfold xV xU; omega
  have hF : Fw (xV L) s s3 := by
    rw [← hs3]
    exact ((((((((Fw.rf.st (hv _ (by decide) (by decide))).st (hv _ (by decide) (by decide))).st (hv _ (by decide) (by decide))).st (hv _ (by decide) (by decide))).st (hv _ (by decide) (by decide))).st (hv _ (by decide) (by decide))).st (hv _ (by decide) (by decide))).st (hv _ (by decide) (by decide))).st (hv _ (by decide) (by decide))
  have f : ∀ o k, ¬ (o = 123) → iG s3 o k = iG s o k := by
    intro o k a
    rw [← hs3]
    simp [iG_if, a]
  have hce : ceX s3 c = ceX s c := by
    unfold ceX
    rw [f 5 c (by omega), f 6 c (by omega), f 4 c (by omega)]
  have hS : StX K (ceX s3 c) life ρ row 123 c 0 s3 := by
    rw [← hs3]
    exact ⟨rfl, rfl, rfl, rfl, fun _ => ⟨rfl, rfl, Or.inl rfl⟩⟩
  obtain ⟨s', e1, e2, e3⟩ := x_follow_lp hL hc hρ hl htot total 0 s3 (by omega) (by rw [hF.1]; exact h1) (LwX.rd.fw hF hK fun o k z => by unfold lwQ at z; unfold xV xU; omega) (by rw [f 7 c (by omega)]; exact hr) (fun i hi => by rw [f 117 i (by omega)]; exact hrow i hi) hS
  rw [hce] at e2
  refine ⟨s', Ev.cg e1.ev (fun N => ?_), e2.1, e2.2.1, hF.tr (e3.mo fun _ _ z => Or.inl z)⟩
  unfold f_X5_follow f_X8_begin
  rw [hlf]
  simp only [sb_mk, tb_mk, hs3]
  rfl
