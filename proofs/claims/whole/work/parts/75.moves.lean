/-! the find that would move most -/
def mxL (g : Nat → Int64) : Nat → Int64
  | 0 => 0
  | i + 1 => if g i < mxL g i then mxL g i else g i
theorem mxL_M (g : Nat → Int64) (i : Nat) : (if lg_cmp (g i) (mxL g i) ≤ 0 then mxL g i else g i) = mxL g (i + 1) := by
  show _ = if g i < mxL g i then mxL g i else g i
  by_cases c1 : g i < mxL g i
  · rw [if_pos (lg_le.mpr (Int64.le_of_lt c1)), if_pos c1]
  · rw [if_neg c1]
    by_cases c2 : g i ≤ mxL g i
    · rw [if_pos (lg_le.mpr c2)]
      exact Int64.le_antisymm (Int64.not_lt.mp c1) c2
    · rw [if_neg (fun z => c2 (lg_le.mp z))]
theorem mxL_bd {g : Nat → Int64} {B : Nat} (hB : B < 2 ^ 62) : ∀ n, (∀ i, i < n → ∃ a, a ≤ B ∧ g i = lN a) → ∃ a, a ≤ B ∧ mxL g n = lN a
  | 0, _ => ⟨0, Nat.zero_le _, rfl⟩
  | n + 1, h => by
    obtain ⟨a, a1, a2⟩ := mxL_bd hB n (fun i hi => h i (by omega))
    obtain ⟨b, b1, b2⟩ := h n (by omega)
    show ∃ c, c ≤ B ∧ (if g n < mxL g n then mxL g n else g n) = lN c
    by_cases c : g n < mxL g n
    · rw [if_pos c]; exact ⟨a, a1, a2⟩
    · rw [if_neg c]; exact ⟨b, b1, b2⟩
def mvA (s : cS) (f m i : Nat) : Int64 := odL s f i * (iG s 156 (m * 6 + i)).toInt64
def mvB (s : cS) (f m i : Nat) : Int64 := odL s f i * (10 - iG s 156 (m * 6 + i)).toInt64
theorem mv_bd {s : cS} {n f : Nat} (h : StoN n f s) {m : Nat} (hm : m < 10) : ∃ a b, a ≤ 10000000000000 ∧ b ≤ 10000000000000 ∧ mxL (mvA s f m) n = lN a ∧ mxL (mvB s f m) n = lN b := by
  have hn := h.1
  have ht := h.2.2.2.2.2.2.2.1
  have k1 : ∀ i, i < n → ∃ a, a ≤ 10000000000000 ∧ mvA s f m i = lN a := by
    intro i hi
    obtain ⟨W, w1, w2⟩ := od_bd h (i := i) (by omega)
    obtain ⟨t, t0, t1, t2⟩ := ht (m * 6 + i) (by omega)
    refine ⟨W * t, ?_, ?_⟩
    · calc W * t ≤ 1000000000000 * 10 := Nat.mul_le_mul w1 t0
        _ = 10000000000000 := by decide
    · unfold mvA
      rw [w2, t1, nI_l (by omega), lN_mul]
  have k2 : ∀ i, i < n → ∃ a, a ≤ 10000000000000 ∧ mvB s f m i = lN a := by
    intro i hi
    obtain ⟨W, w1, w2⟩ := od_bd h (i := i) (by omega)
    obtain ⟨t, t0, t1, t2⟩ := ht (m * 6 + i) (by omega)
    refine ⟨W * (10 - t), ?_, ?_⟩
    · calc W * (10 - t) ≤ 1000000000000 * 10 := Nat.mul_le_mul w1 (by omega)
        _ = 10000000000000 := by decide
    · unfold mvB
      rw [w2, t1]
      show lN W * (nI 10 - nI t).toInt64 = _
      rw [pk_sub t0, nI_l (by omega), lN_mul]
  obtain ⟨a, a1, a2⟩ := mxL_bd (by decide) n k1
  obtain ⟨b, b1, b2⟩ := mxL_bd (by decide) n k2
  exact ⟨a, b, a1, b1, a2, b2⟩
theorem mv_X {s : cS} {n f : Nat} (h : StoN n f s) {m : Nat} (hm : m < 10) : ∀ N, 10 < N → f_X7_greatestOfBoth N (nI m) s = some (mxL (mvA s f m) n + mxL (mvB s f m) n, s) := by
  intro N hN
  have hn := h.1
  have x1 := h.2.2.1
  unfold f_X7_greatestOfBoth w_X7_greatestOfBoth_8
  refine itr_cnt (st := fun j => ((mxL (mvA s f m) j, mxL (mvB s f m) j, nI j), s)) (n := n) (fun j hj => ?_) ?_ 0 (Nat.zero_le _) N (by omega)
  · show b_X7_greatestOfBoth_8 N (nI m) (mxL (mvA s f m) j) (mxL (mvB s f m) j) (nI j) s = _
    unfold b_X7_greatestOfBoth_8
    have e6 : nI m * 6 + nI j = nI (m * 6 + j) := by
      show nI m * nI 6 + nI j = _
      rw [pk_mul, nI_add]
    rw [x1, if_neg (nI_ge hj (by omega)), ob_some (od_X h (by omega) N hN), e6, aA_n (by omega) (by omega), nI_1]
    rfl
  · show b_X7_greatestOfBoth_8 N (nI m) (mxL (mvA s f m) n) (mxL (mvB s f m) n) (nI n) s = _
    unfold b_X7_greatestOfBoth_8
    rw [x1, if_pos (nI_le (Nat.le_refl _) (by omega))]
    rfl
theorem mv_M {s : cS} {n f : Nat} (h : StoN n f s) {m : Nat} (hm : m < 10) (x1 : Int32) (x2 : Int64) {q : ((Int32 × Int64 × Int32) × cS) ⊕ (Int32 × cS)} (hq : (if x1 = (-1 : Int32) then j_X12_moves_162 (nI m) (mxL (mvA s f m) n) (mxL (mvB s f m) n) s else if 0 < (lg_cmp ((mxL (mvA s f m) n) + (mxL (mvB s f m) n)) x2) then j_X12_moves_162 (nI m) (mxL (mvA s f m) n) (mxL (mvB s f m) n) s else j_X12_moves_171 x1 x2 (nI m) s) = some q) : ∀ N, 10 < N → w_X12_moves_46 N x1 x2 (nI m) 0 0 0 s = some q := by
  intro N hN
  have hn := h.1
  have m1 := h.2.2.2.1
  have ht := h.2.2.2.2.2.2.2.1
  unfold w_X12_moves_46
  refine itr_cnt (st := fun j => ((mxL (mvA s f m) j, mxL (mvB s f m) j, nI j), s)) (n := n) (fun j hj => ?_) ?_ 0 (Nat.zero_le _) N (by omega)
  · show b_X12_moves_46 N x1 x2 (nI m) (mxL (mvA s f m) j) (mxL (mvB s f m) j) (nI j) s = _
    unfold b_X12_moves_46 j_X12_moves_119 j_X12_moves_136
    have e6 : (6 : Int32) * nI m + nI j = nI (m * 6 + j) := by
      show nI 6 * nI m + nI j = _
      rw [pk_mul, nI_add, Nat.mul_comm]
    obtain ⟨t, t0, t1, t2⟩ := ht (m * 6 + j) (by omega)
    have eA : odL s f j * (iG s 235 (m * 6 + j)).toInt64 = mvA s f m j := by unfold mvA; rw [t1, t2]
    have eB : odL s f j * (10 - iG s 235 (m * 6 + j)).toInt64 = mvB s f m j := by unfold mvB; rw [t1, t2]
    rw [m1, if_neg (nI_ge hj (by omega)), ob_some (od_M h (by omega) N hN), e6, if_pos ((inb_n (by omega)).mpr (by omega)), ob_some (od_M h (by omega) N hN), nI_clamp (by omega), nI_1, eA, eB]
    show _ = some (Sum.inl ((mxL (mvA s f m) (j + 1), mxL (mvB s f m) (j + 1), nI (j + 1)), s))
    rw [← mxL_M, ← mxL_M]
    by_cases c1 : lg_cmp (mvA s f m j) (mxL (mvA s f m) j) ≤ 0 <;> by_cases c2 : lg_cmp (mvB s f m j) (mxL (mvB s f m) j) ≤ 0 <;> simp only [c1, c2, if_true, if_false]
  · show b_X12_moves_46 N x1 x2 (nI m) (mxL (mvA s f m) n) (mxL (mvB s f m) n) (nI n) s = _
    unfold b_X12_moves_46
    rw [m1, if_pos (nI_le (Nat.le_refl _) (by omega)), hq]
    rfl
theorem m_moves {s : cS} (h : StoI s) : ∃ r, r_X11_moves s r s ∧ r_X12_moves s r s := by
  obtain ⟨n, f, hN⟩ := h
  unfold r_X11_moves r_X12_moves
  suffices ∃ r, f_X11_moves 20 s = some (r, s) ∧ f_X12_moves 20 s = some (r, s) from by
    obtain ⟨r, e1, e2⟩ := this
    exact ⟨r, ⟨20, e1⟩, ⟨20, e2⟩⟩
  have hN' := hN
  obtain ⟨hn, hf, x1, m1, x2, m2, hp, ht, hk, hw, hl⟩ := hN'
  have key := itr_sim (B := fun (v : (Int32 × Int64 × Int32) × cS) => b_X7_mostMoving_9 20 v.1.1 v.1.2.1 v.1.2.2 v.2) (B' := fun (v : (Int32 × Int64 × Int32) × cS) => b_X12_moves_7 20 v.1.1 v.1.2.1 v.1.2.2 v.2)
    (I := fun m v w => ∃ (j : Nat) (a : Int32) (x y : Int64), v = ((a, x, nI j), s) ∧ w = ((a, y, nI j), s) ∧ j ≤ f ∧ m = f - j ∧ ((a = -1 ∧ x = -1) ∨ (¬ a = -1 ∧ x = y ∧ ∃ c, c ≤ 20000000000000 ∧ x = lN c))) (Q := fun q q' => ∃ e, q = (e, s) ∧ q' = (e, s)) (fun m v w hI => by
      obtain ⟨j, a, x, y, rfl, rfl, hj, hm, hr⟩ := hI
      show (∃ v' w' m', b_X7_mostMoving_9 20 a x (nI j) s = _ ∧ b_X12_moves_7 20 a y (nI j) s = _ ∧ _) ∨ (∃ q q', b_X7_mostMoving_9 20 a x (nI j) s = _ ∧ b_X12_moves_7 20 a y (nI j) s = _ ∧ _)
      unfold b_X7_mostMoving_9 b_X12_moves_7
      rw [x1, x2, m1, m2]
      by_cases c1 : j = f
      · right
        subst c1
        rw [if_pos (nI_le (Nat.le_refl _) (by omega)), if_pos (nI_le (Nat.le_refl _) (by omega))]
        exact ⟨_, _, rfl, rfl, a, rfl, rfl⟩
      · have hj' : j < f := by omega
        rw [if_neg (nI_ge hj' (by omega)), if_neg (nI_ge hj' (by omega))]
        by_cases c2 : n = 0
        · right
          subst c2
          rw [if_pos (by decide), if_pos (by decide)]
          exact ⟨_, _, rfl, rfl, a, rfl, rfl⟩
        · left
          rw [if_neg (nI_nle (by omega) (by omega)), if_neg (nI_nle (by omega) (by omega)), aA_n (by omega) (by omega), if_pos ((inb_n (by omega)).mpr (by omega)), nI_clamp (by omega), ← hk j (by omega)]
          have hx : (-1 : Int64) ≤ x := by
            rcases hr with ⟨-, e⟩ | ⟨-, -, c, hc, e⟩
            · rw [e]; exact Int64.le_refl _
            · rw [e, lle, lN_toI (by omega)]
              have : (-1 : Int64).toInt = -1 := rfl
              omega
          by_cases c3 : iG s 157 j = -1
          · rw [if_pos c3, if_pos c3, ob_some (mv_X hN (by omega) 20 (by omega))]
            obtain ⟨A, B, hA, hB, eA, eB⟩ := mv_bd hN (m := j) (by omega)
            have eAB : mxL (mvA s f j) n + mxL (mvB s f j) n = lN (A + B) := by rw [eA, eB, lN_add]
            unfold j_X7_mostMoving_50 j_X7_mostMoving_65
            by_cases ca : a = -1
            · have hxx : x = -1 := by
                rcases hr with ⟨-, e⟩ | ⟨e, -⟩
                · exact e
                · exact absurd ca e
              have hlt : ¬ lg_cmp (mxL (mvA s f j) n + mxL (mvB s f j) n) x ≤ 0 := by
                rw [lg_le, eAB, hxx, lle, lN_toI (by omega)]
                have : (-1 : Int64).toInt = -1 := rfl
                omega
              rw [if_neg hlt, mv_M hN (by omega) a y (q := .inl ((nI j, mxL (mvA s f j) n + mxL (mvB s f j) n, nI j + 1), s)) (by rw [if_pos ca]; rfl) 20 (by omega)]
              refine ⟨_, _, f - (j + 1), rfl, rfl, by omega, j + 1, nI j, _, _, by rw [nI_1], by rw [nI_1], by omega, rfl, Or.inr ⟨?_, rfl, A + B, by omega, eAB⟩⟩
              intro z
              have := nI_pos (n := j) (by omega)
              rw [z] at this
              exact this (by decide)
            · rcases hr with ⟨e, -⟩ | ⟨-, e, c, hc, ec⟩
              · exact absurd e ca
              subst e
              by_cases cl : lg_cmp (mxL (mvA s f j) n + mxL (mvB s f j) n) x ≤ 0
              · rw [if_pos cl, mv_M hN (by omega) a x (q := .inl ((a, x, nI j + 1), s)) (by rw [if_neg ca, if_neg (Int32.not_lt.mpr cl)]; rfl) 20 (by omega)]
                exact ⟨_, _, f - (j + 1), rfl, rfl, by omega, j + 1, a, x, x, by rw [nI_1], by rw [nI_1], by omega, rfl, Or.inr ⟨ca, rfl, c, hc, ec⟩⟩
              · rw [if_neg cl, mv_M hN (by omega) a x (q := .inl ((nI j, mxL (mvA s f j) n + mxL (mvB s f j) n, nI j + 1), s)) (by rw [if_neg ca, if_pos (Int32.not_le.mp cl)]; rfl) 20 (by omega)]
                refine ⟨_, _, f - (j + 1), rfl, rfl, by omega, j + 1, nI j, _, _, by rw [nI_1], by rw [nI_1], by omega, rfl, Or.inr ⟨?_, rfl, A + B, by omega, eAB⟩⟩
                intro z
                have := nI_pos (n := j) (by omega)
                rw [z] at this
                exact this (by decide)
          · rw [if_neg c3, if_neg c3]
            unfold j_X7_mostMoving_50 j_X7_mostMoving_65 j_X12_moves_171
            rw [if_pos (lg_le.mpr hx)]
            exact ⟨_, _, f - (j + 1), rfl, rfl, by omega, j + 1, a, x, y, by rw [nI_1], by rw [nI_1], by omega, rfl, hr⟩)
  obtain ⟨q, q', k1, k2, e, rfl, rfl⟩ := key (f - 0) ((-1, -1, nI 0), s) ((-1, 0, nI 0), s) ⟨0, -1, -1, 0, rfl, rfl, by omega, rfl, Or.inl ⟨rfl, rfl⟩⟩
  have k1' : f_X7_mostMoving 20 s = some (e, s) := k1 20 (by omega)
  have k2' : f_X12_moves 20 s = some (e, s) := k2 20 (by omega)
  refine ⟨e, ?_, k2'⟩
  unfold f_X11_moves
  rw [ob_some k1']
