/-! the reference's weights -/
theorem firG_c {m : Nat → Nat} {w : Nat → Nat → Nat} {R : Nat → Nat → Nat → Bool} {c bb : Nat} : firG m w R c bb c = 1 := by
  unfold firG
  rw [if_pos rfl]
section
variable {n : Nat} {m : Nat → Nat} {R : Nat → Nat → Nat → Bool} {s : cS}
theorem m_wo_in (hC : CorN n m s) {c F : Nat} {x1 : Int32} (hc : c < 8) : ∀ (d i : Nat), i + d = m c → EL (fun _ (v : (Int64 × Int32) × cS) => b_X12_waysOf_42 x1 (lN F) (nI c) v.1.1 v.1.2 v.2) ((lN (wsum (wts s c) (R c) 0 i), nI i), s) (.inl ((lN (F * wsum (wts s c) (R c) 0 (m c)), nI (c + 1)), s)) := by
  have hm4 := hC.m4 hc
  have h199 := (hC.2.2.2.1 c hc).2.2.2.2.2.1
  have hin : inb (nI c) 8 := (inb_n (by omega)).mpr (by omega)
  have hcl : (nI c).toNatClampNeg = c := nI_clamp (by omega)
  intro d
  induction d with
  | zero =>
    intro i hd
    have hi : i = m c := by omega
    subst hi
    refine EL.en (Ev.of fun N => ?_)
    show b_X12_waysOf_42 x1 (lN F) (nI c) _ (nI (m c)) s = _
    unfold b_X12_waysOf_42 j_X12_waysOf_83
    simp only [if_pos hin, hcl, h199, if_pos (nI_le (Nat.le_refl (m c)) (show m c < 2 ^ 31 by omega)), nI_1, lN_mul]
    rfl
  | succ d ih =>
    intro i hd
    obtain ⟨-, w2, w3, w4⟩ := hC.wt hc (show i < m c by omega)
    have hix : inb (nI (4 * c + i)) 32 := (inb_n (by omega)).mpr (by omega)
    have hcx : (nI (4 * c + i)).toNatClampNeg = 4 * c + i := nI_clamp (by omega)
    refine EL.st (v' := ((lN (wsum (wts s c) (R c) 0 (i + 1)), nI (i + 1)), s)) (Ev.of fun N => ?_) (ih (i + 1) (by omega))
    show b_X12_waysOf_42 x1 (lN F) (nI c) _ (nI i) s = _
    unfold b_X12_waysOf_42
    rw [wsum_s, if_pos (c := fst1 (R c i) 0 = 0) rfl]
    simp only [if_pos hin, hcl, h199, if_neg (nI_ge (show i < m c by omega) (show m c < 2 ^ 31 by omega)), ix4', if_pos hix, hcx, w2, nI_l (show wts s c i < 2 ^ 31 by omega), lN_add, nI_1]
theorem m_waysOf (hC : CorN n m s) {pc : Nat} (hp : pc < 2 ^ 31) : Ev (fun N => f_X12_waysOf N (nI pc) s) (lN (past n m (wts s) R pc 0), s) := by
  have hn8 := hC.1
  have hl : ∀ (d c : Nat), c + d = n → EL (fun N (v : (Int64 × Int32) × cS) => b_X12_waysOf_5 N (nI pc) v.1.1 v.1.2 v.2) ((lN (prodN (facF m (wts s) R pc 0) c), nI c), s) (lN (past n m (wts s) R pc 0), s) := by
    intro d
    induction d with
    | zero =>
      intro c hd
      have hcn : c = n := by omega
      subst hcn
      refine EL.en (Ev.of fun N => ?_)
      show b_X12_waysOf_5 N (nI pc) _ (nI c) s = _
      unfold b_X12_waysOf_5
      rw [hC.2.2.1, if_pos (nI_le (Nat.le_refl _) (by omega))]
      rfl
    | succ d ih =>
      intro c hd
      have hm4 := hC.m4 (show c < 8 by omega)
      have h199 := (hC.2.2.2.1 c (by omega)).2.2.2.2.2.1
      have hin8 : inb (nI c) 8 := (inb_n (by omega)).mpr (by omega)
      have hcl : (nI c).toNatClampNeg = c := nI_clamp (by omega)
      have ez : nI (m c) = (0 : Int32) ↔ m c = 0 := nI_eq (b := 0) (by omega) (by decide)
      have hin := m_isIn (s := s) hp (show c < 8 by omega)
      have hB : ∀ N, b_X12_waysOf_5 N (nI pc) (lN (prodN (facF m (wts s) R pc 0) c)) (nI c) s = if nI (m c) = (0 : Int32) then some (.inl ((lN (prodN (facF m (wts s) R pc 0) c), nI (c + 1)), s)) else if (if bit pc c then (1 : Int32) else 0) = 0 then some (.inl ((lN (prodN (facF m (wts s) R pc 0) c), nI (c + 1)), s)) else w_X12_waysOf_42 N (nI pc) (lN (prodN (facF m (wts s) R pc 0) c)) (nI c) (0 : Int64) (0 : Int32) s := by
        intro N
        unfold b_X12_waysOf_5 j_X12_waysOf_83
        rw [hC.2.2.1, if_neg (nI_ge (by omega) (by omega))]
        simp only [if_pos hin8, hcl, h199, hin, nI_1]
      refine EL.st (v' := ((lN (prodN (facF m (wts s) R pc 0) (c + 1)), nI (c + 1)), s)) ?_ (ih (c + 1) (by omega))
      rw [prodN_s]
      by_cases z : m c = 0
      · have e : facF m (wts s) R pc 0 c = 1 := by
          unfold facF
          rw [wpF_0 z, ite_self]
        refine Ev.of fun N => ?_
        show b_X12_waysOf_5 N (nI pc) _ (nI c) s = _
        rw [hB, if_pos (ez.mpr z), e, Nat.mul_one]
      · by_cases hb : bit pc c
        · have e : facF m (wts s) R pc 0 c = wsum (wts s c) (R c) 0 (m c) := by
            unfold facF
            rw [if_pos hb, wpF_s z]
          rw [e]
          refine Ev.cg (m_wo_in (R := R) hC (c := c) (F := prodN (facF m (wts s) R pc 0) c) (x1 := nI pc) (by omega) (m c) 0 (by omega)).ev fun N => ?_
          show b_X12_waysOf_5 N (nI pc) _ (nI c) s = _
          rw [hB, if_neg (fun w => z (ez.mp w)), if_pos hb, if_neg (by decide)]
          rfl
        · have e : facF m (wts s) R pc 0 c = 1 := by
            unfold facF
            rw [if_neg hb]
          refine Ev.of fun N => ?_
          show b_X12_waysOf_5 N (nI pc) _ (nI c) s = _
          rw [hB, if_neg (fun w => z (ez.mp w)), if_neg hb, if_pos rfl, e, Nat.mul_one]
  exact Ev.cg (hl n 0 (by omega)).ev fun N => rfl
theorem m_wl_in (hC : CorN n m s) {c q q' T F : Nat} {x1 : Int32} (hc : c < 8) (hT : T ≤ 2000) (hq : q < 2 ^ 31) (hqq : (q ≤ T ∧ q' = q) ∨ (T ≤ q ∧ q' = T)) (hk : RnM m R T c s) : ∀ (d i : Nat), i + d = m c → EL (fun _ (v : (Int64 × Int32) × cS) => b_X12_waysLeft_42 x1 (nI q) (lN F) (nI c) v.1.1 v.1.2 v.2) ((lN (wsum (wts s c) (R c) q' i), nI i), s) (.inl ((lN (F * wsum (wts s c) (R c) q' (m c)), nI (c + 1)), s)) := by
  have hm4 := hC.m4 hc
  have h199 := (hC.2.2.2.1 c hc).2.2.2.2.2.1
  have hin : inb (nI c) 8 := (inb_n (by omega)).mpr (by omega)
  have hcl : (nI c).toNatClampNeg = c := nI_clamp (by omega)
  intro d
  induction d with
  | zero =>
    intro i hd
    have hi : i = m c := by omega
    subst hi
    refine EL.en (Ev.of fun N => ?_)
    show b_X12_waysLeft_42 x1 (nI q) (lN F) (nI c) _ (nI (m c)) s = _
    unfold b_X12_waysLeft_42 j_X12_waysLeft_118
    simp only [if_pos hin, hcl, h199, if_pos (nI_le (Nat.le_refl (m c)) (show m c < 2 ^ 31 by omega)), nI_1, lN_mul]
    rfl
  | succ d ih =>
    intro i hd
    obtain ⟨-, w2, w3, w4⟩ := hC.wt hc (show i < m c by omega)
    have hr := hk i (by omega)
    have hle := fst1_le (R c i) T
    have hix : inb (nI (4 * c + i)) 32 := (inb_n (by omega)).mpr (by omega)
    have hcx : (nI (4 * c + i)).toNatClampNeg = 4 * c + i := nI_clamp (by omega)
    have hiff : (fst1 (R c i) T = 0 ∨ q < fst1 (R c i) T) ↔ fst1 (R c i) q' = 0 := by
      rcases hqq with ⟨a, rfl⟩ | ⟨a, rfl⟩
      · exact fst1_iff a
      · exact fst1_top a
    have h87 : j_X12_waysLeft_87 x1 (nI q) (lN F) (nI c) (nI i) (lN (wsum (wts s c) (R c) q' i)) s = some (.inl ((lN (wsum (wts s c) (R c) q' i + wts s c i), nI (i + 1)), s)) := by
      unfold j_X12_waysLeft_87 j_X12_waysLeft_104
      simp only [ix4', if_pos hix, hcx, w2, nI_l (show wts s c i < 2 ^ 31 by omega), lN_add, nI_1]
    refine EL.st (v' := ((lN (wsum (wts s c) (R c) q' (i + 1)), nI (i + 1)), s)) (Ev.of fun N => ?_) (ih (i + 1) (by omega))
    show b_X12_waysLeft_42 x1 (nI q) (lN F) (nI c) _ (nI i) s = _
    unfold b_X12_waysLeft_42
    simp only [if_pos hin, hcl, h199, if_neg (nI_ge (show i < m c by omega) (show m c < 2 ^ 31 by omega)), ix4', if_pos hix, hcx, hr, h87]
    rw [wsum_s]
    by_cases y : fst1 (R c i) q' = 0
    · rw [if_pos y]
      rcases hiff.mpr y with x | x
      · rw [if_pos (c := nI (fst1 (R c i) T) = (0 : Int32)) (by rw [x]; rfl)]
      · rw [if_neg (c := nI (fst1 (R c i) T) = (0 : Int32)) (nI_ne0 (by omega) (by omega)), if_neg (nI_ge x (by omega))]
    · rw [if_neg y]
      have x : ¬ (fst1 (R c i) T = 0 ∨ q < fst1 (R c i) T) := fun x => y (hiff.mp x)
      rw [if_neg (c := nI (fst1 (R c i) T) = (0 : Int32)) (nI_ne0 (by omega) (by omega)), if_pos (nI_le (by omega) (by omega))]
      unfold j_X12_waysLeft_104
      rw [nI_1, Int64.add_zero]
      rfl
theorem m_waysLeft (hC : CorN n m s) {pc q q' T : Nat} (hp : pc < 2 ^ 31) (hT : T ≤ 2000) (hq : q < 2 ^ 31) (hqq : (q ≤ T ∧ q' = q) ∨ (T ≤ q ∧ q' = T)) (hk : ∀ c, c < n → bit pc c → RnM m R T c s) : Ev (fun N => f_X12_waysLeft N (nI pc) (nI q) s) (lN (past n m (wts s) R pc q'), s) := by
  have hn8 := hC.1
  have hl : ∀ (d c : Nat), c + d = n → EL (fun N (v : (Int64 × Int32) × cS) => b_X12_waysLeft_5 N (nI pc) (nI q) v.1.1 v.1.2 v.2) ((lN (prodN (facF m (wts s) R pc q') c), nI c), s) (lN (past n m (wts s) R pc q'), s) := by
    intro d
    induction d with
    | zero =>
      intro c hd
      have hcn : c = n := by omega
      subst hcn
      refine EL.en (Ev.of fun N => ?_)
      show b_X12_waysLeft_5 N (nI pc) (nI q) _ (nI c) s = _
      unfold b_X12_waysLeft_5
      rw [hC.2.2.1, if_pos (nI_le (Nat.le_refl _) (by omega))]
      rfl
    | succ d ih =>
      intro c hd
      have hm4 := hC.m4 (show c < 8 by omega)
      have h199 := (hC.2.2.2.1 c (by omega)).2.2.2.2.2.1
      have hin8 : inb (nI c) 8 := (inb_n (by omega)).mpr (by omega)
      have hcl : (nI c).toNatClampNeg = c := nI_clamp (by omega)
      have ez : nI (m c) = (0 : Int32) ↔ m c = 0 := nI_eq (b := 0) (by omega) (by decide)
      have hin := m_isIn (s := s) hp (show c < 8 by omega)
      have hB : ∀ N, b_X12_waysLeft_5 N (nI pc) (nI q) (lN (prodN (facF m (wts s) R pc q') c)) (nI c) s = if nI (m c) = (0 : Int32) then some (.inl ((lN (prodN (facF m (wts s) R pc q') c), nI (c + 1)), s)) else if (if bit pc c then (1 : Int32) else 0) = 0 then some (.inl ((lN (prodN (facF m (wts s) R pc q') c), nI (c + 1)), s)) else w_X12_waysLeft_42 N (nI pc) (nI q) (lN (prodN (facF m (wts s) R pc q') c)) (nI c) (0 : Int64) (0 : Int32) s := by
        intro N
        unfold b_X12_waysLeft_5 j_X12_waysLeft_118
        rw [hC.2.2.1, if_neg (nI_ge (by omega) (by omega))]
        simp only [if_pos hin8, hcl, h199, hin, nI_1]
      refine EL.st (v' := ((lN (prodN (facF m (wts s) R pc q') (c + 1)), nI (c + 1)), s)) ?_ (ih (c + 1) (by omega))
      rw [prodN_s]
      by_cases z : m c = 0
      · have e : facF m (wts s) R pc q' c = 1 := by
          unfold facF
          rw [wpF_0 z, ite_self]
        refine Ev.of fun N => ?_
        show b_X12_waysLeft_5 N (nI pc) (nI q) _ (nI c) s = _
        rw [hB, if_pos (ez.mpr z), e, Nat.mul_one]
      · by_cases hb : bit pc c
        · have e : facF m (wts s) R pc q' c = wsum (wts s c) (R c) q' (m c) := by
            unfold facF
            rw [if_pos hb, wpF_s z]
          rw [e]
          refine Ev.cg (m_wl_in (R := R) hC (c := c) (F := prodN (facF m (wts s) R pc q') c) (x1 := nI pc) (by omega) hT hq hqq (hk c (by omega) hb) (m c) 0 (by omega)).ev fun N => ?_
          show b_X12_waysLeft_5 N (nI pc) (nI q) _ (nI c) s = _
          rw [hB, if_neg (fun w => z (ez.mp w)), if_pos hb, if_neg (by decide)]
          rfl
        · have e : facF m (wts s) R pc q' c = 1 := by
            unfold facF
            rw [if_neg hb]
          refine Ev.of fun N => ?_
          show b_X12_waysLeft_5 N (nI pc) (nI q) _ (nI c) s = _
          rw [hB, if_neg (fun w => z (ez.mp w)), if_neg hb, if_pos rfl, e, Nat.mul_one]
  exact Ev.cg (hl n 0 (by omega)).ev fun N => rfl
/-- which runs first -/
theorem m_fi_in (hC : CorN n m s) {c T b o F : Nat} {x2 : Int64} {x4 : Int32} (hc : c < n) (ho : o < n) (hoc : o ≠ c) (hT : T ≤ 2000) (hb : 1 ≤ b) (hb2 : b ≤ T) (hk : RnM m R T o s) : ∀ (d j : Nat), j + d = m o → EL (fun _ (v : (Int64 × Int32) × cS) => b_X12_first_88 (nI c) x2 x4 (nI b) (lN F) (nI o) v.1.1 v.1.2 v.2) ((lN (wsum (wts s o) (R o) (if o < c then b else b - 1) j), nI j), s) (.inl ((lN (F * wsum (wts s o) (R o) (if o < c then b else b - 1) (m o)), nI (o + 1)), s)) := by
  have hn8 := hC.1
  have hm4 := hC.m4 (show o < 8 by omega)
  have h199 := (hC.2.2.2.1 o (by omega)).2.2.2.2.2.1
  have hin : inb (nI o) 8 := (inb_n (by omega)).mpr (by omega)
  have hcl : (nI o).toNatClampNeg = o := nI_clamp (by omega)
  intro d
  induction d with
  | zero =>
    intro j hd
    have hj : j = m o := by omega
    subst hj
    refine EL.en (Ev.of fun N => ?_)
    show b_X12_first_88 (nI c) x2 x4 (nI b) (lN F) (nI o) _ (nI (m o)) s = _
    unfold b_X12_first_88 j_X12_first_174
    simp only [if_pos hin, hcl, h199, if_pos (nI_le (Nat.le_refl (m o)) (show m o < 2 ^ 31 by omega)), nI_1, lN_mul]
    rfl
  | succ d ih =>
    intro j hd
    obtain ⟨-, w2, w3, w4⟩ := hC.wt (show o < 8 by omega) (show j < m o by omega)
    have hr := hk j (by omega)
    have hle := fst1_le (R o j) T
    have hix : inb (nI (4 * o + j)) 32 := (inb_n (by omega)).mpr (by omega)
    have hcx : (nI (4 * o + j)).toNatClampNeg = 4 * o + j := nI_clamp (by omega)
    generalize hW : wsum (wts s o) (R o) (if o < c then b else b - 1) j = W
    have h141 : j_X12_first_141 (nI c) x2 x4 (nI b) (lN F) (nI o) (nI j) (lN W) s = some (.inl ((lN (W + wts s o j), nI (j + 1)), s)) := by
      unfold j_X12_first_141 j_X12_first_158
      simp only [ix4', if_pos hix, hcx, w2, nI_l (show wts s o j < 2 ^ 31 by omega), lN_add, nI_1]
    have h157 : j_X12_first_157 (nI c) x2 x4 (nI b) (lN F) (nI o) (nI j) (lN W) s = some (.inl ((lN W, nI (j + 1)), s)) := by
      unfold j_X12_first_157 j_X12_first_158
      rw [nI_1, Int64.add_zero]
    refine EL.st (v' := ((lN (wsum (wts s o) (R o) (if o < c then b else b - 1) (j + 1)), nI (j + 1)), s)) (Ev.of fun N => ?_) (ih (j + 1) (by omega))
    show b_X12_first_88 (nI c) x2 x4 (nI b) (lN F) (nI o) (lN W) (nI j) s = _
    unfold b_X12_first_88
    simp only [if_pos hin, hcl, h199, if_neg (nI_ge (show j < m o by omega) (show m o < 2 ^ 31 by omega)), ix4', if_pos hix, hcx, hr, h141, h157]
    rw [wsum_s, hW]
    have hiff := fst1_iff (P := R o j) (T := T) (q := if o < c then b else b - 1) (by split <;> omega)
    by_cases x0 : fst1 (R o j) T = 0
    · rw [if_pos (c := nI (fst1 (R o j) T) = (0 : Int32)) (by rw [x0]; rfl), if_pos (hiff.mp (Or.inl x0))]
    · rw [if_neg (c := nI (fst1 (R o j) T) = (0 : Int32)) (nI_ne0 (by omega) (by omega))]
      by_cases x1 : b < fst1 (R o j) T
      · rw [if_pos (nI_lt x1 (by omega)), if_pos (hiff.mp (Or.inr (by split <;> omega)))]
      · rw [if_neg (nI_nlt (by omega) (by omega))]
        by_cases x2 : fst1 (R o j) T = b
        · rw [if_pos ((nI_eq (by omega) (by omega)).mpr x2)]
          by_cases x3 : o ≤ c
          · rw [if_pos (nI_le x3 (by omega)), if_neg (fun w => by
              have := hiff.mpr w
              rw [if_pos (show o < c by omega)] at this
              omega)]
            rfl
          · rw [if_neg (nI_ge (by omega) (by omega)), if_pos (hiff.mp (Or.inr (by rw [if_neg (by omega)]; omega)))]
        · rw [if_neg (fun w => x2 ((nI_eq (by omega) (by omega)).mp w)), if_neg (fun w => by
            have := hiff.mpr w
            split at this <;> omega)]
          rfl
theorem m_fir_in (hC : CorN n m s) {c T b i w0 : Nat} {x2 : Int64} (hc : c < n) (hT : T ≤ 2000) (hb : 1 ≤ b) (hb2 : b ≤ T) (hk : ∀ o, o < n → RnM m R T o s) : ∀ (d o : Nat), o + d = n → EL (fun N (v : (Int64 × Int32) × cS) => b_X12_first_54 N (nI c) x2 (nI i) (nI b) v.1.1 v.1.2 v.2) ((lN (w0 * prodN (firG m (wts s) R c b) o), nI o), s) (.inl ((x2 + lN (w0 * prodN (firG m (wts s) R c b) n), nI (i + 1)), s)) := by
  have hn8 := hC.1
  intro d
  induction d with
  | zero =>
    intro o hd
    have hon : o = n := by omega
    subst hon
    refine EL.en (Ev.of fun N => ?_)
    show b_X12_first_54 N (nI c) x2 (nI i) (nI b) _ (nI o) s = _
    unfold b_X12_first_54 j_X12_first_185
    rw [hC.2.2.1, if_pos (nI_le (Nat.le_refl _) (by omega)), nI_1]
    rfl
  | succ d ih =>
    intro o hd
    have hm4 := hC.m4 (show o < 8 by omega)
    have h199 := (hC.2.2.2.1 o (by omega)).2.2.2.2.2.1
    have hin8 : inb (nI o) 8 := (inb_n (by omega)).mpr (by omega)
    have hcl : (nI o).toNatClampNeg = o := nI_clamp (by omega)
    have ez : nI (m o) = (0 : Int32) ↔ m o = 0 := nI_eq (b := 0) (by omega) (by decide)
    have hoc : nI o = nI c ↔ o = c := nI_eq (by omega) (by omega)
    generalize hW : w0 * prodN (firG m (wts s) R c b) o = W
    have hB : ∀ N, b_X12_first_54 N (nI c) x2 (nI i) (nI b) (lN W) (nI o) s = if nI o = nI c then some (.inl ((lN W, nI (o + 1)), s)) else if nI (m o) = (0 : Int32) then some (.inl ((lN W, nI (o + 1)), s)) else w_X12_first_88 N (nI c) x2 (nI i) (nI b) (lN W) (nI o) (0 : Int64) (0 : Int32) s := by
      intro N
      unfold b_X12_first_54 j_X12_first_174
      rw [hC.2.2.1, if_neg (nI_ge (by omega) (by omega))]
      simp only [if_pos hin8, hcl, h199, nI_1]
    refine EL.st (v' := ((lN (w0 * prodN (firG m (wts s) R c b) (o + 1)), nI (o + 1)), s)) ?_ (ih (o + 1) (by omega))
    rw [prodN_s, ← Nat.mul_assoc, hW]
    by_cases z : o = c
    · refine Ev.of fun N => ?_
      show b_X12_first_54 N (nI c) x2 (nI i) (nI b) (lN W) (nI o) s = _
      rw [hB, if_pos (hoc.mpr z), z, firG_c, Nat.mul_one]
    · by_cases y : m o = 0
      · have e : firG m (wts s) R c b o = 1 := by
          unfold firG
          rw [if_neg z, wpF_0 y]
        refine Ev.of fun N => ?_
        show b_X12_first_54 N (nI c) x2 (nI i) (nI b) (lN W) (nI o) s = _
        rw [hB, if_neg (fun w => z (hoc.mp w)), if_pos (ez.mpr y), e, Nat.mul_one]
      · have e : firG m (wts s) R c b o = wsum (wts s o) (R o) (if o < c then b else b - 1) (m o) := by
          unfold firG
          rw [if_neg z, wpF_s y]
        rw [e]
        refine Ev.cg (m_fi_in (R := R) hC (c := c) (T := T) (b := b) (o := o) (F := W) (x2 := x2) (x4 := nI i) hc (by omega) z hT hb hb2 (hk o (by omega)) (m o) 0 (by omega)).ev fun N => ?_
        show b_X12_first_54 N (nI c) x2 (nI i) (nI b) (lN W) (nI o) s = _
        rw [hB, if_neg (fun w => z (hoc.mp w)), if_neg (fun w => y (ez.mp w))]
        rfl
theorem m_first (hC : CorN n m s) {c T : Nat} (hc : c < n) (hT : T ≤ 2000) (hk : ∀ o, o < n → RnM m R T o s) : Ev (fun N => f_X12_first N (nI c) s) (lN (firF n m (wts s) R c T), s) := by
  have hn8 := hC.1
  have hm4 := hC.m4 (show c < 8 by omega)
  have h199 := (hC.2.2.2.1 c (by omega)).2.2.2.2.2.1
  have hin8 : inb (nI c) 8 := (inb_n (by omega)).mpr (by omega)
  have hcl : (nI c).toNatClampNeg = c := nI_clamp (by omega)
  have hl : ∀ (d i : Nat), i + d = m c → EL (fun N (v : (Int64 × Int32) × cS) => b_X12_first_5 N (nI c) v.1.1 v.1.2 v.2) ((lN (sumN (firI n m (wts s) R c T) i), nI i), s) (lN (firF n m (wts s) R c T), s) := by
    intro d
    induction d with
    | zero =>
      intro i hd
      have hi : i = m c := by omega
      subst hi
      refine EL.en (Ev.of fun N => ?_)
      show b_X12_first_5 N (nI c) _ (nI (m c)) s = _
      unfold b_X12_first_5
      simp only [if_pos hin8, hcl, h199, if_pos (nI_le (Nat.le_refl (m c)) (show m c < 2 ^ 31 by omega))]
      rfl
    | succ d ih =>
      intro i hd
      have hr := hk c hc i (by omega)
      have hle := fst1_le (R c i) T
      obtain ⟨-, w2, w3, w4⟩ := hC.wt (show c < 8 by omega) (show i < m c by omega)
      have hix : inb (nI (4 * c + i)) 32 := (inb_n (by omega)).mpr (by omega)
      have hcx : (nI (4 * c + i)).toNatClampNeg = 4 * c + i := nI_clamp (by omega)
      have hsx : sumN (firI n m (wts s) R c T) (i + 1) = sumN (firI n m (wts s) R c T) i + firI n m (wts s) R c T i := rfl
      generalize hS : sumN (firI n m (wts s) R c T) i = S at hsx
      have hB : ∀ N, b_X12_first_5 N (nI c) (lN S) (nI i) s = if nI (fst1 (R c i) T) = (0 : Int32) then some (.inl ((lN S, nI (i + 1)), s)) else w_X12_first_54 N (nI c) (lN S) (nI i) (nI (fst1 (R c i) T)) (lN (wts s c i)) 0 s := by
        intro N
        unfold b_X12_first_5 j_X12_first_185
        simp only [if_pos hin8, hcl, h199, if_neg (nI_ge (show i < m c by omega) (show m c < 2 ^ 31 by omega)), ix4', if_pos hix, hcx, hr, w2, nI_l (show wts s c i < 2 ^ 31 by omega), nI_1]
      refine EL.st (v' := ((lN (sumN (firI n m (wts s) R c T) (i + 1)), nI (i + 1)), s)) ?_ (ih (i + 1) (by omega))
      rw [hsx]
      by_cases y : fst1 (R c i) T = 0
      · have e : firI n m (wts s) R c T i = 0 := by
          unfold firI
          rw [if_pos y]
        refine Ev.of fun N => ?_
        show b_X12_first_5 N (nI c) (lN S) (nI i) s = _
        rw [hB, if_pos (by rw [y]; rfl), e]
        rfl
      · have e : firI n m (wts s) R c T i = wts s c i * prodN (firG m (wts s) R c (fst1 (R c i) T)) n := by
          unfold firI
          rw [if_neg y]
        have hi := m_fir_in hC (c := c) (T := T) (b := fst1 (R c i) T) (i := i) (w0 := wts s c i) (x2 := lN S) hc hT (by omega) hle hk n 0 (by omega)
        rw [e, ← lN_add]
        refine Ev.cg hi.ev fun N => ?_
        show b_X12_first_5 N (nI c) (lN S) (nI i) s = _
        rw [hB, if_neg (nI_ne0 (by omega) (by omega))]
        show itr _ N ((lN (wts s c i), 0), s) = itr _ N ((lN (wts s c i * 1), nI 0), s)
        rw [Nat.mul_one]
        rfl
  exact Ev.cg (hl (m c) 0 (by omega)).ev fun N => rfl
end
