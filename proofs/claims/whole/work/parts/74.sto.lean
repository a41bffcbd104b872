/-! stories and finds -/
def stoQ (o k : Nat) : Prop := (o = 154 ∧ (k = 7 ∨ k = 8)) ∨ (155 ≤ o ∧ o ≤ 158) ∨ (o = 159 ∧ k = 0) ∨ (234 ≤ o ∧ o ≤ 236) ∨ o = 239 ∨ (o = 193 ∧ (k = 5 ∨ k = 6))
def stoP (o k : Nat) : Prop := (154 ≤ o ∧ o ≤ 161) ∨ (234 ≤ o ∧ o ≤ 236) ∨ (239 ≤ o ∧ o ≤ 241) ∨ (o = 193 ∧ (k = 5 ∨ k = 6))
def StoN (n f : Nat) (s : cS) : Prop := n ≤ 6 ∧ f ≤ 10 ∧ iG s 154 7 = nI n ∧ iG s 193 5 = nI n ∧ iG s 154 8 = nI f ∧ iG s 193 6 = nI f ∧ (∀ i, i < 6 → ∃ p, p ≤ 100 ∧ iG s 155 i = nI p ∧ iG s 234 i = nI p) ∧ (∀ i, i < 60 → ∃ t, t ≤ 10 ∧ iG s 156 i = nI t ∧ iG s 235 i = nI t) ∧ (∀ i, i < 10 → iG s 157 i = iG s 236 i) ∧ (∀ i, i < 240 → ∃ w, w ≤ 100 ∧ iG s 158 i = nI w ∧ iG s 239 i = nI w) ∧ lG s 159 0 = 0
def StoI (s : cS) : Prop := ∃ n f, StoN n f s
theorem StoI.rd : Rd stoQ StoI := by
  intro s t h hl hi
  unfold StoI StoN at hi ⊢
  simp (disch := (unfold stoQ; omega)) only [h, hl]
  exact hi
theorem m_story {s : cS} (h : StoI s) (a0 : Int32) : ∃ r s1 s2, r_X11_story a0 s r s1 ∧ r_X12_story a0 s1 r s2 ∧ Fw stoP s s2 ∧ StoI s2 := by
  have hb := h
  obtain ⟨n, f, hn, hf, x1, m1, x2, m2, hp, ht, hk, hw, hl⟩ := h
  unfold r_X11_story r_X12_story f_X11_story f_X12_story f_X7_size f_X7_add
  rw [lIn_w (a' := 1) (b' := 100) rfl rfl, x1]
  rcases wB_c a0 1 100 (by decide) (by decide) with c1 | ⟨p, hp1, hp2, rfl, c1⟩
  · have c1 : wB a0 1 100 = 0 := c1
    rw [if_pos c1]
    refine ⟨-1, s, s, rfl, ?_, Fw.rf, hb⟩
    rw [if_pos c1]
    split <;> rfl
  · have c1' : ¬ wB (nI p) 1 100 = 0 := by
      have : wB (nI p) 1 100 = 1 := c1
      rw [this]; decide
    rw [if_neg c1']
    by_cases c3 : n = 6
    · subst c3
      rw [if_neg (by decide)]
      refine ⟨-1, s, s, rfl, ?_, Fw.rf, hb⟩
      rw [m1, if_pos (c := nI 6 = 6) rfl]
    · have hn' : n < 6 := by omega
      rw [if_pos (c := nI n < 6) ((nI_ltI (b := 6) (by omega) (by omega)).mpr hn')]
      have E1 : (tb (sb (pA s 155 6 (nI n) (nI p)) fun s2 => sb (iS s2 154 7 ((iG s2 154 7) + (1 : Int32))) fun s4 => (((iG s4 154 7) - (1 : Int32)), s4)) fun r5 s6 => (r5, s6)) = (nI n, iS (iS s 155 n (nI p)) 154 7 (nI (n + 1))) := by
        have e1 : iG (iS s 155 n (nI p)) 154 7 = nI n := x1
        dsimp only [tb, sb]
        rw [pA_n hn' (by omega), e1, nI_1, iG_eq, nI_pred]
      refine ⟨nI n, _, iS (iS (iS (iS s 155 n (nI p)) 154 7 (nI (n + 1))) 234 n (nI p)) 193 5 (nI (n + 1)), E1, ?_, ?_, ?_⟩
      · generalize hs1 : iS (iS s 155 n (nI p)) 154 7 (nI (n + 1)) = s1
        have e2 : iG s1 193 5 = nI n := by rw [← hs1]; exact m1
        have e3 : iG (iS s1 234 n (nI p)) 193 5 = nI n := e2
        rw [e2, if_neg (c := nI n = 6) (fun z => c3 ((nI_eq (b := 6) (by omega) (by omega)).mp z)), if_neg c1', if_pos ((inb_n (by omega)).mpr hn'), nI_clamp (by omega), sb_mk', e3, nI_1, sb_mk', iG_eq, nI_pred]
      · refine ((((Fw.rf.st ?_).st ?_).st ?_).st ?_) <;> (unfold stoP; omega)
      · refine ⟨n + 1, f, by omega, hf, rfl, rfl, x2, m2, fun i hi => ?_, ht, hk, hw, hl⟩
        by_cases e : i = n
        · subst e
          exact ⟨p, hp2, by simp [iG_if], by simp [iG_if]⟩
        · obtain ⟨q, k1, k2, k3⟩ := hp i hi
          exact ⟨q, k1, by simp [iG_if, e, k2], by simp [iG_if, e, k3]⟩
theorem m_find {s : cS} (h : StoI s) : ∃ r s1 s2, r_X11_find s r s1 ∧ r_X12_find s1 r s2 ∧ Fw stoP s s2 ∧ StoI s2 := by
  have hb := h
  obtain ⟨n, f, hn, hf, x1, m1, x2, m2, hp, ht, hk, hw, hl⟩ := h
  unfold r_X11_find r_X12_find f_X11_find f_X12_find f_X7_finds f_X7_addFind
  rw [x2]
  by_cases c3 : f = 10
  · subst c3
    rw [if_neg (by decide)]
    refine ⟨-1, s, s, rfl, ?_, Fw.rf, hb⟩
    rw [m2, if_pos (c := nI 10 = 10) rfl]
  · have hf' : f < 10 := by omega
    rw [if_pos (c := nI f < 10) ((nI_ltI (b := 10) (by omega) (by omega)).mpr hf')]
    have E1 : (tb (sb (iS s 154 8 (nI f + (1 : Int32))) fun s1 => (((iG s1 154 8) - (1 : Int32)), s1)) fun r3 s4 => (r3, s4)) = (nI f, iS s 154 8 (nI (f + 1))) := by
      dsimp only [tb, sb]
      rw [nI_1, iG_eq, nI_pred]
    refine ⟨nI f, _, iS (iS s 154 8 (nI (f + 1))) 193 6 (nI (f + 1)), E1, ?_, ?_, ?_⟩
    · generalize hs1 : iS s 154 8 (nI (f + 1)) = s1
      have e2 : iG s1 193 6 = nI f := by rw [← hs1]; exact m2
      rw [e2, if_neg (c := nI f = 10) (fun z => c3 ((nI_eq (b := 10) (by omega) (by omega)).mp z)), nI_1, sb_mk', iG_eq, nI_pred]
    · refine ((Fw.rf.st ?_).st ?_) <;> (unfold stoP; omega)
    · exact ⟨n, f + 1, hn, by omega, x1, m1, rfl, rfl, hp, ht, hk, hw, hl⟩
theorem X7_hasFind_c {s : cS} {n f : Nat} (h : StoN n f s) (i : Int32) : (f_X7_hasFind i s = 0 ∧ f_X12_isFind i s = 0) ∨ ∃ j, j < f ∧ i = nI j ∧ f_X7_hasFind i s = 1 ∧ f_X12_isFind i s = 1 := by
  obtain ⟨hn, hf, x1, m1, x2, m2, -⟩ := h
  unfold f_X7_hasFind f_X12_isFind
  rw [x2, m2]
  rcases has_c i f (by omega) with ⟨a, b, -⟩ | ⟨j, hj, e, a, b⟩
  · exact Or.inl ⟨a, b⟩
  · exact Or.inr ⟨j, hj, e, a, b⟩
theorem X7_has_c {s : cS} {n f : Nat} (h : StoN n f s) (i : Int32) : (f_X7_has i s = 0 ∧ f_X12_isStory i s = 0) ∨ ∃ j, j < n ∧ i = nI j ∧ f_X7_has i s = 1 ∧ f_X12_isStory i s = 1 := by
  obtain ⟨hn, hf, x1, m1, x2, m2, -⟩ := h
  unfold f_X7_has f_X12_isStory
  rw [x1, m1]
  rcases has_c i n (by omega) with ⟨a, b, -⟩ | ⟨j, hj, e, a, b⟩
  · exact Or.inl ⟨a, b⟩
  · exact Or.inr ⟨j, hj, e, a, b⟩
theorem one_ne0 {x : Int32} (h : x = 1) : ¬ x = 0 := by rw [h]; decide
theorem m_tells {s : cS} (h : StoI s) (a0 a1 a2 : Int32) : ∃ r s1 s2, r_X11_tells a0 a1 a2 s r s1 ∧ r_X12_tells a0 a1 a2 s1 r s2 ∧ Fw stoP s s2 ∧ StoI s2 := by
  have hb := h
  obtain ⟨n, f, hN⟩ := h
  unfold r_X11_tells r_X12_tells f_X11_tells f_X12_tells f_X7_foretell
  rw [lIn_w (a' := 0) (b' := 10) rfl rfl]
  rcases X7_hasFind_c hN a0 with ⟨c1, c1'⟩ | ⟨i, hi, rfl, c1, c1'⟩
  · rw [if_pos c1]
    exact ⟨0, s, s, rfl, by rw [if_pos c1'], Fw.rf, hb⟩
  rw [if_neg (one_ne0 c1)]
  rcases X7_has_c hN a1 with ⟨c2, c2'⟩ | ⟨j, hj, rfl, c2, c2'⟩
  · rw [if_pos c2]
    exact ⟨0, s, s, rfl, by rw [if_neg (one_ne0 c1'), if_pos c2'], Fw.rf, hb⟩
  rw [if_neg (one_ne0 c2)]
  rcases wB_c a2 0 10 (by decide) (by decide) with c3 | ⟨t, -, ht1, rfl, c3⟩
  · have c3 : wB a2 0 10 = 0 := c3
    rw [if_pos c3]
    exact ⟨0, s, s, rfl, by rw [if_neg (one_ne0 c1'), if_neg (one_ne0 c2'), if_pos c3], Fw.rf, hb⟩
  have c3 : wB (nI t) 0 10 = 1 := c3
  rw [if_neg (one_ne0 c3)]
  obtain ⟨hn, hf, x1, m1, x2, m2, hp, ht, hk, hw, hl⟩ := hN
  dsimp only [tb, sb]
  have e6 : nI i * 6 + nI j = nI (i * 6 + j) := by
    show nI i * nI 6 + nI j = _
    rw [pk_mul, nI_add]
  have e6' : (6 : Int32) * nI i + nI j = nI (i * 6 + j) := by
    show nI 6 * nI i + nI j = _
    rw [pk_mul, nI_add, Nat.mul_comm]
  rw [e6, pA_n (by omega) (by omega)]
  refine ⟨1, _, iS (iS s 156 (i * 6 + j) (nI t)) 235 (i * 6 + j) (nI t), rfl, ?_, ?_, ?_⟩
  · have a1 : f_X12_isFind (nI i) (iS s 156 (i * 6 + j) (nI t)) = 1 := c1'
    have a2 : f_X12_isStory (nI j) (iS s 156 (i * 6 + j) (nI t)) = 1 := c2'
    rw [if_neg (one_ne0 a1), if_neg (one_ne0 a2), if_neg (one_ne0 c3), e6', if_pos ((inb_n (by omega)).mpr (by omega)), nI_clamp (by omega)]
  · refine ((Fw.rf.st ?_).st ?_) <;> (unfold stoP; omega)
  · refine ⟨n, f, hn, hf, x1, m1, x2, m2, hp, fun z hz => ?_, hk, hw, hl⟩
    by_cases e : z = i * 6 + j
    · exact ⟨t, ht1, by simp [iG_if, e], by simp [iG_if, e]⟩
    · obtain ⟨q, k1, k2, k3⟩ := ht z hz
      exact ⟨q, k1, by simp [iG_if, e, k2], by simp [iG_if, e, k3]⟩
theorem m_seen {s : cS} (h : StoI s) (a0 a1 : Int32) : ∃ r s1 s2, r_X11_seen a0 a1 s r s1 ∧ r_X12_seen a0 a1 s1 r s2 ∧ Fw stoP s s2 ∧ StoI s2 := by
  have hb := h
  obtain ⟨n, f, hN⟩ := h
  unfold r_X11_seen r_X12_seen f_X11_seen f_X12_seen f_X7_know
  rw [lIn_w (a' := -1) (b' := 1) rfl rfl]
  rcases X7_hasFind_c hN a0 with ⟨c1, c1'⟩ | ⟨i, hi, rfl, c1, c1'⟩
  · rw [if_pos c1]
    exact ⟨0, s, s, rfl, by rw [if_pos c1'], Fw.rf, hb⟩
  rw [if_neg (one_ne0 c1)]
  by_cases c3 : wB a1 (-1) 1 = 0
  · rw [if_pos c3]
    exact ⟨0, s, s, rfl, by rw [if_neg (one_ne0 c1'), if_pos c3], Fw.rf, hb⟩
  rw [if_neg c3]
  obtain ⟨hn, hf, x1, m1, x2, m2, hp, ht, hk, hw, hl⟩ := hN
  dsimp only [tb, sb]
  rw [pA_n (by omega) (by omega)]
  refine ⟨1, _, iS (iS s 157 i a1) 236 i a1, rfl, ?_, ?_, ?_⟩
  · have a1' : f_X12_isFind (nI i) (iS s 157 i a1) = 1 := c1'
    rw [if_neg (one_ne0 a1'), if_neg c3, if_pos ((inb_n (by omega)).mpr (by omega)), nI_clamp (by omega)]
  · refine ((Fw.rf.st ?_).st ?_) <;> (unfold stoP; omega)
  · refine ⟨n, f, hn, hf, x1, m1, x2, m2, hp, ht, fun z hz => ?_, hw, hl⟩
    by_cases e : z = i
    · simp [iG_if, e]
    · simp [iG_if, e, hk z hz]
theorem m_cell {s : cS} (h : StoI s) (a0 a1 a2 : Int32) : ∃ r s1 s2, r_X11_cell a0 a1 a2 s r s1 ∧ r_X12_cell a0 a1 a2 s1 r s2 ∧ Fw stoP s s2 ∧ StoI s2 := by
  have hb := h
  obtain ⟨n, f, hN⟩ := h
  unfold r_X11_cell r_X12_cell f_X11_cell f_X12_cell f_X7_weigh
  rw [lIn_w (a' := 0) (b' := 39) rfl rfl, lIn_w (a' := 0) (b' := 100) rfl rfl]
  rcases X7_has_c hN a0 with ⟨c1, c1'⟩ | ⟨i, hi, rfl, c1, c1'⟩
  · rw [if_pos c1]
    exact ⟨0, s, s, rfl, by rw [if_pos c1'], Fw.rf, hb⟩
  rw [if_neg (one_ne0 c1)]
  rcases wB_c a1 0 39 (by decide) (by decide) with c2 | ⟨j, -, hj, rfl, c2⟩
  · have c2 : wB a1 0 39 = 0 := c2
    rw [if_pos c2]
    exact ⟨0, s, s, rfl, by rw [if_neg (one_ne0 c1'), if_pos c2], Fw.rf, hb⟩
  have c2 : wB (nI j) 0 39 = 1 := c2
  rw [if_neg (one_ne0 c2)]
  rcases wB_c a2 0 100 (by decide) (by decide) with c3 | ⟨t, -, ht1, rfl, c3⟩
  · have c3 : wB a2 0 100 = 0 := c3
    rw [if_pos c3]
    exact ⟨0, s, s, rfl, by rw [if_neg (one_ne0 c1'), if_neg (one_ne0 c2), if_pos c3], Fw.rf, hb⟩
  have c3 : wB (nI t) 0 100 = 1 := c3
  rw [if_neg (one_ne0 c3)]
  obtain ⟨hn, hf, x1, m1, x2, m2, hp, ht, hk, hw, hl⟩ := hN
  dsimp only [tb, sb]
  have e6 : nI i * 40 + nI j = nI (i * 40 + j) := by
    show nI i * nI 40 + nI j = _
    rw [pk_mul, nI_add]
  have e6' : (40 : Int32) * nI i + nI j = nI (i * 40 + j) := by
    show nI 40 * nI i + nI j = _
    rw [pk_mul, nI_add, Nat.mul_comm]
  rw [e6, pA_n (by omega) (by omega)]
  refine ⟨1, _, iS (iS s 158 (i * 40 + j) (nI t)) 239 (i * 40 + j) (nI t), rfl, ?_, ?_, ?_⟩
  · have a1 : f_X12_isStory (nI i) (iS s 158 (i * 40 + j) (nI t)) = 1 := c1'
    rw [if_neg (one_ne0 a1), if_neg (one_ne0 c2), if_neg (one_ne0 c3), e6', if_pos ((inb_n (by omega)).mpr (by omega)), nI_clamp (by omega)]
  · refine ((Fw.rf.st ?_).st ?_) <;> (unfold stoP; omega)
  · refine ⟨n, f, hn, hf, x1, m1, x2, m2, hp, ht, hk, fun z hz => ?_, hl⟩
    by_cases e : z = i * 40 + j
    · exact ⟨t, ht1, by simp [iG_if, e], by simp [iG_if, e]⟩
    · obtain ⟨q, k1, k2, k3⟩ := hw z hz
      exact ⟨q, k1, by simp [iG_if, e, k2], by simp [iG_if, e, k3]⟩
/-! the odds of a story -/
def odF (s : cS) (i j : Nat) : Int64 := if iG s 157 j = -1 then 1 else if iG s 157 j = 1 then (iG s 156 (j * 6 + i)).toInt64 else (10 - iG s 156 (j * 6 + i)).toInt64
def odL (s : cS) (f i : Nat) : Int64 := prodL ((iG s 155 i).toInt64) (odF s i) f
theorem od_X {s : cS} {n f : Nat} (h : StoN n f s) {i : Nat} (hi : i < 6) : ∀ N, 10 < N → f_X7_oddsOf N (nI i) s = some (odL s f i, s) := by
  obtain ⟨hn, hf, x1, m1, x2, m2, hp, ht, hk, hw, hl⟩ := h
  intro N hN
  unfold f_X7_oddsOf w_X7_oddsOf_13
  rw [aA_n hi (by omega)]
  refine itr_cnt (st := fun j => ((odL s j i, nI j), s)) (n := f) (fun j hj => ?_) ?_ 0 (Nat.zero_le _) N (by omega)
  · show b_X7_oddsOf_13 (nI i) (odL s j i) (nI j) s = _
    unfold b_X7_oddsOf_13 j_X7_oddsOf_78
    have e6 : nI j * 6 + nI i = nI (j * 6 + i) := by
      show nI j * nI 6 + nI i = _
      rw [pk_mul, nI_add]
    rw [x2, if_neg (nI_ge hj (by omega)), aA_n (by omega) (by omega), e6, aA_n (by omega) (by omega), nI_1]
    show _ = some (Sum.inl ((odL s j i * odF s i j, nI (j + 1)), s))
    unfold odF
    by_cases c1 : iG s 157 j = -1
    · rw [if_pos c1, if_pos c1]
    · rw [if_neg c1, if_neg c1]
      by_cases c2 : iG s 157 j = 1
      · rw [if_pos c2, if_pos c2]
      · rw [if_neg c2, if_neg c2]
  · show b_X7_oddsOf_13 (nI i) (odL s f i) (nI f) s = _
    unfold b_X7_oddsOf_13
    rw [x2, if_pos (nI_le (Nat.le_refl _) (by omega))]
    rfl
theorem od_M {s : cS} {n f : Nat} (h : StoN n f s) {i : Nat} (hi : i < 6) : ∀ N, 10 < N → f_X12_weightOf N (nI i) s = some (odL s f i, s) := by
  obtain ⟨hn, hf, x1, m1, x2, m2, hp, ht, hk, hw, hl⟩ := h
  intro N hN
  unfold f_X12_weightOf w_X12_weightOf_11
  rw [if_pos ((inb_n (by omega)).mpr hi), nI_clamp (by omega)]
  obtain ⟨p, -, p1, p2⟩ := hp i hi
  rw [p2, ← p1]
  refine itr_cnt (st := fun j => ((odL s j i, nI j), s)) (n := f) (fun j hj => ?_) ?_ 0 (Nat.zero_le _) N (by omega)
  · show b_X12_weightOf_11 (nI i) (odL s j i) (nI j) s = _
    unfold b_X12_weightOf_11 j_X12_weightOf_75 j_X12_weightOf_77
    have e6 : (6 : Int32) * nI j + nI i = nI (j * 6 + i) := by
      show nI 6 * nI j + nI i = _
      rw [pk_mul, nI_add, Nat.mul_comm]
    obtain ⟨t, -, t1, t2⟩ := ht (j * 6 + i) (by omega)
    have hib : inb (nI (j * 6 + i)) 60 := (inb_n (by omega)).mpr (by omega)
    rw [m2, if_neg (nI_ge hj (by omega)), if_pos ((inb_n (by omega)).mpr (by omega)), nI_clamp (by omega), ← hk j (by omega), e6, if_pos hib, if_pos hib, nI_clamp (by omega), nI_1, t2, ← t1]
    show _ = some (Sum.inl ((odL s j i * odF s i j, nI (j + 1)), s))
    unfold odF
    by_cases c1 : iG s 157 j = -1
    · rw [if_pos c1, if_pos c1, Int64.mul_one]
    · rw [if_neg c1, if_neg c1]
      by_cases c2 : iG s 157 j = 1
      · rw [if_pos c2, if_pos c2]
      · rw [if_neg c2, if_neg c2]
  · show b_X12_weightOf_11 (nI i) (odL s f i) (nI f) s = _
    unfold b_X12_weightOf_11
    rw [m2, if_pos (nI_le (Nat.le_refl _) (by omega))]
    rfl
theorem od_bd {s : cS} {n f : Nat} (h : StoN n f s) {i : Nat} (hi : i < 6) : ∃ W, W ≤ 1000000000000 ∧ odL s f i = lN W := by
  obtain ⟨hn, hf, x1, m1, x2, m2, hp, ht, hk, hw, hl⟩ := h
  have key : ∀ j, j ≤ 10 → ∃ W, W ≤ 100 * 10 ^ j ∧ odL s j i = lN W := by
    intro j
    induction j with
    | zero =>
      intro _
      obtain ⟨p, p0, p1, p2⟩ := hp i hi
      refine ⟨p, by omega, ?_⟩
      show (iG s 155 i).toInt64 = _
      rw [p1, nI_l (by omega)]
    | succ j ih =>
      intro hj
      obtain ⟨W, w1, w2⟩ := ih (by omega)
      have : ∃ u, u ≤ 10 ∧ odF s i j = lN u := by
        obtain ⟨t, t0, t1, t2⟩ := ht (j * 6 + i) (by omega)
        unfold odF
        by_cases c1 : iG s 157 j = -1
        · rw [if_pos c1]
          exact ⟨1, by omega, rfl⟩
        · rw [if_neg c1]
          by_cases c2 : iG s 157 j = 1
          · rw [if_pos c2, t1, nI_l (by omega)]
            exact ⟨t, t0, rfl⟩
          · rw [if_neg c2, t1]
            refine ⟨10 - t, by omega, ?_⟩
            show (nI 10 - nI t).toInt64 = _
            rw [pk_sub t0, nI_l (by omega)]
      obtain ⟨u, u1, u2⟩ := this
      refine ⟨W * u, ?_, ?_⟩
      · rw [Nat.pow_succ]
        calc W * u ≤ (100 * 10 ^ j) * 10 := Nat.mul_le_mul w1 u1
          _ = 100 * (10 ^ j * 10) := by rw [Nat.mul_assoc]
      · show odL s j i * odF s i j = _
        rw [w2, u2, lN_mul]
  obtain ⟨W, w1, w2⟩ := key f hf
  refine ⟨W, Nat.le_trans w1 ?_, w2⟩
  calc 100 * 10 ^ f ≤ 100 * 10 ^ 10 := Nat.mul_le_mul_left _ (Nat.pow_le_pow_right (by omega) hf)
    _ = 1000000000000 := by decide
theorem m_weighs {s : cS} (h : StoI s) (a0 : Int32) : ∃ r, r_X11_weighs a0 s r s ∧ r_X12_weighs a0 s r s := by
  obtain ⟨n, f, hN⟩ := h
  unfold r_X11_weighs r_X12_weighs
  suffices ∃ r, f_X11_weighs 20 a0 s = some (r, s) ∧ f_X12_weighs 20 a0 s = some (r, s) from by
    obtain ⟨r, e1, e2⟩ := this
    exact ⟨r, ⟨20, e1⟩, ⟨20, e2⟩⟩
  unfold f_X11_weighs f_X12_weighs
  by_cases c1 : a0 = -1
  · rw [if_pos c1, if_pos c1]
    have hN' := hN
    obtain ⟨hn, hf, x1, m1, -⟩ := hN'
    have k1 : f_X7_together 20 s = some (sumL (odL s f) n, s) := by
      unfold f_X7_together w_X7_together_4
      refine itr_cnt (st := fun j => ((sumL (odL s f) j, nI j), s)) (n := n) (fun j hj => ?_) ?_ 0 (Nat.zero_le _) 20 (by omega)
      · show b_X7_together_4 20 (sumL (odL s f) j) (nI j) s = _
        unfold b_X7_together_4
        rw [x1, if_neg (nI_ge hj (by omega)), ob_some (od_X hN (by omega) 20 (by omega)), nI_1]
        rfl
      · show b_X7_together_4 20 (sumL (odL s f) n) (nI n) s = _
        unfold b_X7_together_4
        rw [x1, if_pos (nI_le (Nat.le_refl _) (by omega))]
        rfl
    have k2 : w_X12_weighs_30 20 0 0 s = some (sumL (odL s f) n, s) := by
      unfold w_X12_weighs_30
      refine itr_cnt (st := fun j => ((sumL (odL s f) j, nI j), s)) (n := n) (fun j hj => ?_) ?_ 0 (Nat.zero_le _) 20 (by omega)
      · show b_X12_weighs_30 20 (sumL (odL s f) j) (nI j) s = _
        unfold b_X12_weighs_30
        rw [m1, if_neg (nI_ge hj (by omega)), ob_some (od_M hN (by omega) 20 (by omega)), nI_1]
        rfl
      · show b_X12_weighs_30 20 (sumL (odL s f) n) (nI n) s = _
        unfold b_X12_weighs_30
        rw [m1, if_pos (nI_le (Nat.le_refl _) (by omega))]
        rfl
    rw [ob_some k1]
    exact ⟨_, rfl, k2⟩
  · rw [if_neg c1, if_neg c1]
    have hn := hN.1
    rcases X7_has_c hN a0 with ⟨c2, c2'⟩ | ⟨j, hj, rfl, c2, c2'⟩
    · rw [if_pos c2, if_pos c2']
      exact ⟨_, rfl, rfl⟩
    · rw [if_neg (one_ne0 c2), if_neg (one_ne0 c2'), ob_some (od_X hN (by omega) 20 (by omega)), ob_some (od_M hN (by omega) 20 (by omega))]
      exact ⟨_, rfl, rfl⟩
