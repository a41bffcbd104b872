/-! check -/
def wdS (tb : Nat → Nat) (j : Nat) : Nat → Int32
  | 0 => 0
  | k + 1 => (wdS tb j k <<< ((8 : Int32) &&& 31)) ||| nI (tb (4 * j + k))
theorem x_word {tb : Nat → Nat} {j : Nat} {s : cS} (hj : 4 * j + 3 < 200) (hby : ∀ i, i < 200 → iG s 2 i = nI (tb i)) : Ev (fun N => f_X9_word N (nI j) s) (wdS tb j 4, s) := by
  have hl : ∀ (d k : Nat), k + d = 4 → EL (fun _ (v : (Int32 × Int32) × cS) => b_X9_word_4 (nI j) v.1.1 v.1.2 v.2) ((wdS tb j k, nI k), s) (wdS tb j 4, s) := by
    intro d
    induction d with
    | zero =>
      intro k hk
      have h4 : k = 4 := by omega
      subst h4
      refine EL.en (Ev.of fun N => ?_)
      show b_X9_word_4 (nI j) (wdS tb j 4) (nI 4) s = _
      unfold b_X9_word_4
      rw [if_pos (c := (4 : Int32) ≤ nI 4) (by decide)]
      rfl
    | succ d ih =>
      intro k hk
      have e : (4 : Int32) * nI j + nI k = nI (4 * j + k) := by
        show nI 4 * nI j + nI k = _
        rw [pk_mul, nI_add]
      refine EL.st (v' := ((wdS tb j (k + 1), nI (k + 1)), s)) (Ev.of fun N => ?_) (ih (k + 1) (by omega))
      show b_X9_word_4 (nI j) (wdS tb j k) (nI k) s = _
      unfold b_X9_word_4
      rw [if_neg (c := (4 : Int32) ≤ nI k) (nI_ge (b := 4) (by omega) (by omega)), e, aA_n (by omega) (by omega), hby _ (by omega), nI_1]
      rfl
  exact Ev.cg (hl 4 0 rfl).ev fun N => rfl
theorem m_word {tb : Nat → Nat} {j : Nat} {s : cS} (hj : 4 * j + 3 < 200) (hby : ∀ i, i < 200 → iG s 194 i &&& 255 = nI (tb i)) : Ev (fun N => f_X12_numberAt N (nI j) s) (wdS tb j 4, s) := by
  have hl : ∀ (d k : Nat), k + d = 4 → EL (fun _ (v : (Int32 × Int32) × cS) => b_X12_numberAt_4 (nI j) v.1.1 v.1.2 v.2) ((wdS tb j k, nI k), s) (wdS tb j 4, s) := by
    intro d
    induction d with
    | zero =>
      intro k hk
      have h4 : k = 4 := by omega
      subst h4
      refine EL.en (Ev.of fun N => ?_)
      show b_X12_numberAt_4 (nI j) (wdS tb j 4) (nI 4) s = _
      unfold b_X12_numberAt_4
      rw [if_pos (c := (4 : Int32) ≤ nI 4) (by decide)]
      rfl
    | succ d ih =>
      intro k hk
      have e : (4 : Int32) * nI j + nI k = nI (4 * j + k) := by
        show nI 4 * nI j + nI k = _
        rw [pk_mul, nI_add]
      have hin : inb (nI (4 * j + k)) 200 := (inb_n (by omega)).mpr (by omega)
      have hcl : (nI (4 * j + k)).toNatClampNeg = 4 * j + k := nI_clamp (by omega)
      refine EL.st (v' := ((wdS tb j (k + 1), nI (k + 1)), s)) (Ev.of fun N => ?_) (ih (k + 1) (by omega))
      show b_X12_numberAt_4 (nI j) (wdS tb j k) (nI k) s = _
      unfold b_X12_numberAt_4
      rw [if_neg (c := (4 : Int32) ≤ nI k) (nI_ge (b := 4) (by omega) (by omega)), e]
      simp only [if_pos hin, hcl, hby _ (show 4 * j + k < 200 by omega), nI_1]
      rfl
  exact Ev.cg (hl 4 0 rfl).ev fun N => rfl
def chkS (W wr ck : Nat → Int32) (n t : Nat) : Nat → Nat → Int32
  | 0, _ => if t = n then -1 else nI (3 * n)
  | d + 1, c => if c = t then nI (3 * t) else if W (3 * c) = nI c then (if W (3 * c + 1) = wr c then (if W (3 * c + 2) = ck c then chkS W wr ck n t d (c + 1) else nI (3 * c + 2)) else nI (3 * c + 1)) else nI (3 * c)
theorem mul3 (c : Nat) : (3 : Int32) * nI c = nI (3 * c) := by
  show nI 3 * nI c = _
  rw [pk_mul]
theorem x_chk_lp {tb : Nat → Nat} {n h t : Nat} {s : cS} {wr ck : Nat → Int32} (hn : n ≤ 8) (hh : h < 10) (ht : t ≤ 16) (h37 : iG s 3 7 = nI n) (hby : ∀ i, i < 200 → iG s 2 i = nI (tb i)) (hw : ∀ c, c < n → iG s (sT h c) 3 = wr c ∧ iG s (sT h c) 4 = ck c) : ∀ (d c : Nat), c + d = n → c ≤ t → EL (fun N (v : Int32 × cS) => b_X2_firstWrong_3 N (nI h) (nI t) v.1 v.2) (nI c, s) (chkS (fun j => wdS tb j 4) wr ck n t d c, s) := by
  intro d
  induction d with
  | zero =>
    intro c hd hct
    have hcn : c = n := by omega
    subst hcn
    refine EL.en (Ev.of fun N => ?_)
    show b_X2_firstWrong_3 N (nI h) (nI t) (nI c) s = _
    unfold b_X2_firstWrong_3 f_X1_size chkS
    rw [h37]
    by_cases z : t = c
    · rw [if_pos (nI_le (by omega) (by omega)), if_pos (nI_le (by omega) (by omega)), if_pos z]
      rfl
    · rw [if_neg (nI_ge (by omega) (by omega)), if_pos (nI_le (Nat.le_refl _) (by omega)), if_neg z, mul3]
      rfl
  | succ d ih =>
    intro c hd hct
    by_cases z : c = t
    · refine EL.en (Ev.of fun N => ?_)
      show b_X2_firstWrong_3 N (nI h) (nI t) (nI c) s = _
      unfold b_X2_firstWrong_3 f_X1_size chkS
      rw [h37, if_pos (nI_le (by omega) (by omega)), if_neg (nI_ge (by omega) (by omega)), if_pos z, mul3]
      rfl
    · obtain ⟨w1, w2⟩ := hw c (by omega)
      have hk : kd (sT h c) 8 := kdS (k := 8 * h + c) (by omega)
      have q1 := x_word (j := 3 * c) (s := s) (by omega) hby
      have q2 := x_word (j := 3 * c + 1) (s := s) (by omega) hby
      have q3 := x_word (j := 3 * c + 2) (s := s) (by omega) hby
      have s1 : f_X2_stateOf (nI h) (nI c) 0 s = some (wr c, s) := by
        unfold f_X2_stateOf f_X8_wear
        rw [x_strainOf hh (by omega), ob_mk, orf_mk, if_pos rfl, if_pos hk, w1]
      have s2 : f_X2_stateOf (nI h) (nI c) 1 s = some (ck c, s) := by
        unfold f_X2_stateOf f_X8_crack
        rw [x_strainOf hh (by omega), ob_mk, orf_mk, if_neg (by decide), if_pos rfl, if_pos hk, w2]
      have hB : ∀ N, b_X2_firstWrong_3 N (nI h) (nI t) (nI c) s = ob (f_X9_word N (nI (3 * c)) s) fun r6 s7 => if r6 = nI c then ob (f_X9_word N (nI (3 * c + 1)) s7) fun r10 s11 => ob (f_X2_stateOf (nI h) (nI c) (0 : Int32) s11) fun r13 s14 => if r10 = r13 then ob (f_X9_word N (nI (3 * c + 2)) s14) fun r17 s18 => ob (f_X2_stateOf (nI h) (nI c) (1 : Int32) s18) fun r20 s21 => if r17 = r20 then some (.inl (nI (c + 1), s21)) else oR (some (nI (3 * c + 2), s21)) else oR (some (nI (3 * c + 1), s14)) else oR (some (nI (3 * c), s7)) := by
        intro N
        unfold b_X2_firstWrong_3 f_X1_size
        rw [h37, if_neg (nI_ge (a := c) (b := t) (by omega) (by omega)), if_neg (nI_ge (a := c) (b := n) (by omega) (by omega)), mul3, nI_1, nI_1, show nI (3 * c) + (2 : Int32) = nI (3 * c + 2) from nI_add _ 2]
      unfold chkS
      rw [if_neg z]
      by_cases e1 : wdS tb (3 * c) 4 = nI c
      · rw [if_pos e1]
        by_cases e2 : wdS tb (3 * c + 1) 4 = wr c
        · rw [if_pos e2]
          by_cases e3 : wdS tb (3 * c + 2) 4 = ck c
          · rw [if_pos e3]
            refine EL.st (v' := (nI (c + 1), s)) (Ev.cg (Ev.bnd q1 ?_) hB) (ih (c + 1) (by omega) (by omega))
            simp only [if_pos e1]
            refine Ev.bnd q2 (Ev.cg (g := fun N => ob (f_X9_word N (nI (3 * c + 2)) s) fun r17 s18 => ob (f_X2_stateOf (nI h) (nI c) (1 : Int32) s18) fun r20 s21 => if r17 = r20 then some (.inl (nI (c + 1), s21)) else oR (some (nI (3 * c + 2), s21))) (Ev.bnd q3 (Ev.of fun N => ?_)) fun N => ?_)
            · rw [s2, ob_mk, if_pos e3]
            · rw [s1, ob_mk, if_pos e2]
          · rw [if_neg e3]
            refine EL.en (Ev.cg (Ev.bnd q1 ?_) hB)
            simp only [if_pos e1]
            refine Ev.bnd q2 (Ev.cg (g := fun N => ob (f_X9_word N (nI (3 * c + 2)) s) fun r17 s18 => ob (f_X2_stateOf (nI h) (nI c) (1 : Int32) s18) fun r20 s21 => if r17 = r20 then some (.inl (nI (c + 1), s21)) else oR (some (nI (3 * c + 2), s21))) (Ev.bnd q3 (Ev.of fun N => ?_)) fun N => ?_)
            · rw [s2, ob_mk, if_neg e3]; rfl
            · rw [s1, ob_mk, if_pos e2]
        · rw [if_neg e2]
          refine EL.en (Ev.cg (Ev.bnd q1 ?_) hB)
          simp only [if_pos e1]
          refine Ev.bnd q2 (Ev.of fun N => ?_)
          rw [s1, ob_mk, if_neg e2]; rfl
      · rw [if_neg e1]
        refine EL.en (Ev.cg (Ev.bnd q1 (Ev.of fun N => ?_)) hB)
        rw [if_neg e1]; rfl
theorem m_chk_lp {tb : Nat → Nat} {n h t : Nat} {s : cS} {wr ck : Nat → Int32} (hn : n ≤ 8) (hh : h < 10) (ht : t ≤ 16) (h2 : iG s 193 2 = nI n) (hby : ∀ i, i < 200 → iG s 194 i &&& 255 = nI (tb i)) (hw : ∀ c, c < n → iG s 231 (8 * h + c) = wr c ∧ iG s 232 (8 * h + c) = ck c) : ∀ (d c : Nat), c + d = n → c ≤ t → EL (fun N (v : Int32 × cS) => b_X12_check_33 N (nI h) (nI t) v.1 v.2) (nI c, s) (chkS (fun j => wdS tb j 4) wr ck n t d c, s) := by
  have etc : ∀ a b : Nat, a < 100 → b < 100 → (nI a = nI b ↔ a = b) := fun a b ha hb => nI_eq (by omega) (by omega)
  intro d
  induction d with
  | zero =>
    intro c hd hct
    have hcn : c = n := by omega
    subst hcn
    refine EL.en (Ev.of fun N => ?_)
    show b_X12_check_33 N (nI h) (nI t) (nI c) s = _
    unfold b_X12_check_33 chkS
    rw [h2, if_pos (nI_le (Nat.le_refl _) (by omega))]
    by_cases z : t = c
    · rw [if_pos ((etc t c (by omega) (by omega)).mpr z), if_pos z]
      rfl
    · rw [if_neg (fun w => z ((etc t c (by omega) (by omega)).mp w)), if_neg z, mul3]
      rfl
  | succ d ih =>
    intro c hd hct
    by_cases z : c = t
    · refine EL.en (Ev.of fun N => ?_)
      show b_X12_check_33 N (nI h) (nI t) (nI c) s = _
      unfold b_X12_check_33 chkS
      rw [h2, if_neg (nI_ge (by omega) (by omega)), if_pos ((etc c t (by omega) (by omega)).mpr z), if_pos z, mul3]
      rfl
    · obtain ⟨w1, w2⟩ := hw c (by omega)
      have q1 := m_word (j := 3 * c) (s := s) (by omega) hby
      have q2 := m_word (j := 3 * c + 1) (s := s) (by omega) hby
      have q3 := m_word (j := 3 * c + 2) (s := s) (by omega) hby
      have hi : (8 : Int32) * nI h + nI c = nI (8 * h + c) := by
        show nI 8 * nI h + nI c = _
        rw [pk_mul, nI_add]
      have hin : inb (nI (8 * h + c)) 80 := (inb_n (by omega)).mpr (by omega)
      have hcl : (nI (8 * h + c)).toNatClampNeg = 8 * h + c := nI_clamp (by omega)
      have hB : ∀ N, b_X12_check_33 N (nI h) (nI t) (nI c) s = ob (f_X12_numberAt N (nI (3 * c)) s) fun r9 s10 => if r9 = nI c then ob (f_X12_numberAt N (nI (3 * c + 1)) s10) fun r13 s14 => if r13 = iG s14 231 (8 * h + c) then ob (f_X12_numberAt N (nI (3 * c + 2)) s14) fun r18 s19 => if r18 = iG s19 232 (8 * h + c) then some (.inl (nI (c + 1), s19)) else oR (some (nI (3 * c + 2), s19)) else oR (some (nI (3 * c + 1), s14)) else oR (some (nI (3 * c), s10)) := by
        intro N
        unfold b_X12_check_33
        rw [h2, if_neg (nI_ge (a := c) (b := n) (by omega) (by omega)), if_neg (fun w => z ((etc c t (by omega) (by omega)).mp w))]
        simp only [hi, if_pos hin, hcl, mul3, nI_1, show nI (3 * c) + (2 : Int32) = nI (3 * c + 2) from nI_add _ 2]
      unfold chkS
      rw [if_neg z]
      by_cases e1 : wdS tb (3 * c) 4 = nI c
      · rw [if_pos e1]
        by_cases e2 : wdS tb (3 * c + 1) 4 = wr c
        · rw [if_pos e2]
          by_cases e3 : wdS tb (3 * c + 2) 4 = ck c
          · rw [if_pos e3]
            refine EL.st (v' := (nI (c + 1), s)) (Ev.cg (Ev.bnd q1 ?_) hB) (ih (c + 1) (by omega) (by omega))
            simp only [if_pos e1]
            refine Ev.bnd q2 ?_
            simp only [w1, if_pos e2]
            refine Ev.bnd q3 (Ev.of fun N => ?_)
            rw [w2, if_pos e3]
          · rw [if_neg e3]
            refine EL.en (Ev.cg (Ev.bnd q1 ?_) hB)
            simp only [if_pos e1]
            refine Ev.bnd q2 ?_
            simp only [w1, if_pos e2]
            refine Ev.bnd q3 (Ev.of fun N => ?_)
            rw [w2, if_neg e3]; rfl
        · rw [if_neg e2]
          refine EL.en (Ev.cg (Ev.bnd q1 ?_) hB)
          simp only [if_pos e1]
          refine Ev.bnd q2 (Ev.of fun N => ?_)
          rw [w1, if_neg e2]; rfl
      · rw [if_neg e1]
        refine EL.en (Ev.cg (Ev.bnd q1 (Ev.of fun N => ?_)) hB)
        rw [if_neg e1]; rfl
def chkP (o k : Nat) : Prop := (o = 1 ∧ k = 1) ∨ (o = 193 ∧ k = 1)
theorem m_check {n nh : Nat} {m : Nat → Nat} {s : cS} (hC : CorN n m s) (hH : HulI n nh s) (hTp : TapI s) (a0 a1 : Int32) : ∃ r s1 s2, r_X11_check a0 a1 s r s1 ∧ r_X12_check a0 a1 s1 r s2 ∧ TapI s2 ∧ Fw chkP s s2 := by
  have hTp0 := hTp
  obtain ⟨tn, bb, t0, t1, t2, t3, t4⟩ := hTp
  obtain ⟨i1, i2, i3, i4⟩ := hH
  have hn8 := hC.1
  have hnone : f_X11_check 0 a0 a1 s = some (-2, s) → f_X12_check 0 a0 a1 s = some (-2, s) → ∃ r s1 s2, r_X11_check a0 a1 s r s1 ∧ r_X12_check a0 a1 s1 r s2 ∧ TapI s2 ∧ Fw chkP s s2 := fun h1 h2 => ⟨-2, s, s, ⟨0, h1⟩, ⟨0, h2⟩, hTp0, Fw.rf⟩
  have hdv : nI tn / (12 : Int32) = nI (tn / 12) := pk_div (d := 12) (by omega) (by decide) (by decide)
  rcases has_hull i2 i3 i1 a0 with ⟨b1, b2⟩ | ⟨h, hh, rfl, b1, b2⟩
  · refine hnone ?_ ?_
    · unfold f_X11_check
      rw [if_pos b1]
    · unfold f_X12_check
      rw [if_pos b2]
  · have b1' : ¬ f_X2_has (nI h) s = 0 := by rw [b1]; decide
    have b2' : ¬ f_X12_isHull (nI h) s = 0 := by rw [b2]; decide
    by_cases c1 : a1 < 0
    · refine hnone ?_ ?_
      · unfold f_X11_check
        rw [if_neg b1', if_pos c1]
      · unfold f_X12_check
        rw [if_neg b2', if_pos c1]
    · obtain ⟨t, ht, rfl⟩ := nI_of c1
      by_cases c2 : t ≤ tn / 12
      · have hle : nI t ≤ nI (tn / 12) := nI_le c2 (by omega)
        obtain ⟨-, q, life, y, -, -, -, -, u5, -⟩ := i4 h hh
        have hX := x_chk_lp (tb := bb) (n := n) (h := h) (t := t) (s := s) (wr := fun c => (y c).1) (ck := fun c => (y c).2.1) hn8 (by omega) (by omega) hC.2.1 (fun i hi => (t4 i hi).1) (fun c hc => by
          obtain ⟨-, -, w3, -⟩ := u5 c hc
          exact ⟨by rw [← w3]; rfl, by rw [← w3]; rfl⟩) n 0 (by omega) (by omega)
        generalize hs1 : iS s 1 1 0 = s1
        generalize hs2 : iS s1 193 1 0 = s2
        have hF1 : Fw chkP s s1 := by rw [← hs1]; exact Fw.rf.st (Or.inl ⟨rfl, rfl⟩)
        have hF2 : Fw chkP s s2 := by rw [← hs2]; exact hF1.st (Or.inr ⟨rfl, rfl⟩)
        have hM := m_chk_lp (tb := bb) (n := n) (h := h) (t := t) (s := s2) (wr := fun c => (y c).1) (ck := fun c => (y c).2.1) hn8 (by omega) (by omega) ((hF2.int (by unfold chkP; omega)).trans hC.2.2.1) (fun i hi => by rw [hF2.int (by unfold chkP; omega)]; exact (t4 i hi).2) (fun c hc => by
          obtain ⟨-, -, -, w4, w5, w6, w7⟩ := u5 c hc
          exact ⟨(hF2.int (by unfold chkP; omega)).trans w5, (hF2.int (by unfold chkP; omega)).trans w6⟩) n 0 (by omega) (by omega)
        refine ⟨_, s1, s2, (Ev.cg (Ev.bnd (Ev.cg hX.ev (f := fun N => f_X2_firstWrong N (nI h) (nI t) s) fun N => rfl) (k := fun _ r6 s7 => tb (f_X9_clear s7) fun r9 s10 => some (r6, s10)) (Ev.of fun N => by rw [← hs1]; rfl)) fun N => ?_).ex, (Ev.cg hM.ev fun N => ?_).ex, ?_, hF2⟩
        · unfold f_X11_check f_X9_size
          rw [if_neg b1', if_neg c1, t1, hdv, if_pos hle]
        · have b3 : f_X12_isHull (nI h) s1 = f_X12_isHull (nI h) s := by
            unfold f_X12_isHull
            rw [hF1.int (by unfold chkP; omega)]
          unfold f_X12_check
          rw [b3, if_neg b2', if_neg c1, ← hs1, iG_ne (by decide), t2, hdv, if_pos hle, sb_mk, hs1, hs2]
          rfl
        · refine ⟨0, bb, by omega, ?_, ?_, t3, fun i hi => ?_⟩
          · rw [← hs2, iG_ne (by decide), ← hs1, iG_eq]; rfl
          · rw [← hs2, iG_eq]; rfl
          · rw [hF2.int (by unfold chkP; omega), hF2.int (by unfold chkP; omega)]
            exact t4 i hi
      · have hle : ¬ nI t ≤ nI (tn / 12) := nI_ge (by omega) (by omega)
        refine hnone ?_ ?_
        · unfold f_X11_check f_X9_size
          rw [if_neg b1', if_neg c1, t1, hdv, if_neg hle]
        · unfold f_X12_check
          rw [if_neg b2', if_neg c1, t2, hdv, if_neg hle]
