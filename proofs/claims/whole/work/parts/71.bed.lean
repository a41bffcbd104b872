/-! the bed -/
def BedI (s : cS) : Prop := ∃ n : Nat, n ≤ 10 ∧ iG s 162 2 = nI n ∧ iG s 193 7 = nI n ∧ iG s 162 3 = iG s 193 69 ∧ (1 ≤ (iG s 193 69).toInt ∧ (iG s 193 69).toInt ≤ 50) ∧ iG s 162 4 = iG s 193 70 ∧ iG s 162 5 = iG s 193 71 ∧ -20 ≤ (iG s 193 70).toInt ∧ (iG s 193 71).toInt ≤ 20 ∧ ∀ i, i < 10 → iG s 163 i = iG s 237 i ∧ iG s 164 i = iG s 238 i
theorem BedI.fr {D E : List Nat} {c : Bool} {s t : cS} (h : BedI s) (f : Fr D E c s t) (hD : ∀ o ∈ D, o ∉ [162, 163, 164, 237, 238]) (hE : ∀ k ∈ E, k ∉ [7, 69, 70, 71]) : BedI t := by
  have d : ∀ o, o ∈ [162, 163, 164, 237, 238] → o ∉ D := fun o h1 h2 => hD o h2 h1
  have e : ∀ o, o ∈ [7, 69, 70, 71] → o ∉ E := fun o h1 h2 => hE o h2 h1
  unfold BedI at h ⊢
  simp only [f.int (d 162 (by decide)) (by decide), f.int (d 163 (by decide)) (by decide), f.int (d 164 (by decide)) (by decide), f.int (d 237 (by decide)) (by decide), f.int (d 238 (by decide)) (by decide), f.fld (e 7 (by decide)), f.fld (e 69 (by decide)), f.fld (e 70 (by decide)), f.fld (e 71 (by decide))]
  exact h
theorem lit9999 (q : Int32) : q ≤ 9999 ↔ q < 10000 := by
  rw [lei, lti]
  have h1 : (9999 : Int32).toInt = 9999 := rfl
  have h2 : (10000 : Int32).toInt = 10000 := rfl
  rw [h1, h2]
  omega
theorem div_nn {a b : Int32} (ha : ¬ a < 0) (hb : 1 ≤ b.toInt) : 0 ≤ (a / b).toInt := by
  have h0 := not_lt0 ha
  have h1 : 0 ≤ a.toInt.tdiv b.toInt := Int.tdiv_nonneg h0 (by omega)
  have h2 : a.toInt.tdiv b.toInt ≤ a.toInt := Int.tdiv_le_self _ h0
  have h3 := rngi a
  rw [Int32.toInt_div]
  rw [Int.bmod_eq_of_le (by omega) (by omega)]
  exact h1
/-- by one wind: both say the same second -/
theorem bed_sec {s : cS} (h : BedI s) {i : Int32} (hi : inb i 10) (w : Int32) : ∃ r, f_X0_secondBy i w s = some (r, s) ∧ f_X12_secondOf i w s = some (r, s) ∧ (r < 0 ↔ r = -1) := by
  obtain ⟨n, h1, h2, h3, h4, h5, h6, h7, h8, h9, h10⟩ := h
  have hj : i.toNatClampNeg < 10 := Nat.not_le.mp fun q => hi (Or.inr q)
  obtain ⟨e1, e2⟩ := h10 _ hj
  have a1 : aA s 163 10 i = iG s 237 i.toNatClampNeg := by unfold aA; rw [if_pos hi, e1]
  have a2 : aA s 164 10 i = iG s 238 i.toNatClampNeg := by unfold aA; rw [if_pos hi, e2]
  unfold f_X0_secondBy f_X12_secondOf
  rw [a1, a2, h4, if_pos hi]
  generalize iG s 237 i.toNatClampNeg - w * iG s 238 i.toNatClampNeg = P
  have hs1 : ¬ iG s 193 69 < 1 := by
    rw [lti]
    have : (1 : Int32).toInt = 1 := rfl
    omega
  have hs0 : ¬ iG s 193 69 = 0 := by
    rw [eqi]
    have : (0 : Int32).toInt = 0 := rfl
    omega
  have hm : ((-1 : Int32) < 0 ↔ (-1 : Int32) = -1) := by decide
  by_cases c1 : P < 0
  · exact ⟨-1, by rw [if_pos c1], by rw [if_pos c1], hm⟩
  · simp only [if_neg c1, if_neg hs1, if_neg hs0]
    by_cases c2 : P - P / iG s 193 69 * iG s 193 69 = 0
    · simp only [if_pos c2]
      by_cases c3 : P / iG s 193 69 ≤ 9999
      · refine ⟨P / iG s 193 69, by rw [if_pos c3], by rw [if_pos ((lit9999 _).mp c3)], ?_⟩
        have h0 := div_nn c1 h5.1
        have hn : ¬ P / iG s 193 69 < 0 := by
          rw [lti]
          have : (0 : Int32).toInt = 0 := rfl
          omega
        exact ⟨fun z => absurd z hn, fun z => absurd (by rw [z]; decide) hn⟩
      · exact ⟨-1, by rw [if_neg c3], by rw [if_neg (fun z => c3 ((lit9999 _).mpr z))], hm⟩
    · exact ⟨-1, by rw [if_neg c2], by rw [if_neg c2], hm⟩
theorem bed_has {s : cS} (h : BedI s) (i : Int32) : f_X0_has i s = f_X12_isOnBed i s ∧ (¬ f_X0_has i s = 0 → inb i 10) := by
  obtain ⟨n, h1, h2, h3, -⟩ := h
  have hn : (nI n).toInt = (n : Int) := nI_toInt (by omega)
  have hn1 : (nI n - 1).toInt = (n : Int) - 1 := by
    rw [subi (by rw [hn]; show _ ≤ (n : Int) - 1; omega) (by rw [hn]; show (n : Int) - 1 < _; omega), hn]
    rfl
  unfold f_X0_has f_X12_isOnBed
  rw [h2, h3]
  have e : ∀ (x : Int), (nI n - 1).toInt64.toInt = (n : Int) - 1 := fun _ => by rw [l_i, hn1]
  rw [lIn_w (a' := 0) (b' := nI n - 1) rfl l_i]
  by_cases c1 : i < 0
  · rw [if_pos c1]
    exact ⟨(wB_0.mpr fun z => Int32.not_le.mpr c1 z.1).symm, fun z => absurd rfl z⟩
  · rw [if_neg c1]
    have h0 := not_lt0 c1
    by_cases c2 : nI n ≤ i
    · rw [if_pos c2]
      refine ⟨(wB_0.mpr fun z => ?_).symm, fun z => absurd rfl z⟩
      have a1 := lei.mp z.2
      have a2 := lei.mp c2
      omega
    · rw [if_neg c2]
      have a2 : ¬ (nI n).toInt ≤ i.toInt := fun z => c2 (lei.mpr z)
      have hin : (0 : Int32) ≤ i ∧ i ≤ nI n - 1 := ⟨Int32.not_lt.mp c1, lei.mpr (by omega)⟩
      refine ⟨?_, fun _ z => ?_⟩
      · unfold wB
        rw [if_pos hin]
      · rcases z with z | z
        · exact c1 z
        · have : 10 ≤ i.toInt.toNat := z
          omega
/-- the number of rounds that are left -/
def bedM (c : Int32) : Nat := (21 - c.toInt).toNat
theorem bed_up {c g : Int32} (h : ¬ g < c) (hg : g.toInt ≤ 20) (hc : -20 ≤ c.toInt) : bedM (c + 1) < bedM c ∧ -20 ≤ (c + 1).toInt := by
  have h1 : ¬ g.toInt < c.toInt := fun z => h (lti.mpr z)
  have h2 : (c + 1).toInt = c.toInt + 1 := addi (by show _ ≤ c.toInt + 1; omega) (by show c.toInt + 1 < _; omega)
  unfold bedM
  rw [h2]
  omega
theorem bed_first {s : cS} (h : BedI s) {i : Int32} (hi : inb i 10) (a1 : Int32) (ha : a1 = 0) : ∃ r, (∀ N, 42 < N → f_X0_earliest N i s = some (r, s)) ∧ (∀ N, 42 < N → w_X12_span_33 N i a1 (-2) (-2) (iG s 193 70) s = some (r, s)) := by
  have hb := h
  obtain ⟨n, h1, h2, h3, h4, h5, h6, h7, h8, h9, h10⟩ := h
  have key := itr_sim (B := fun (v : (Int32 × Int32) × cS) => b_X0_earliest_8 i v.1.1 v.1.2 v.2) (B' := fun (v : (Int32 × Int32 × Int32) × cS) => b_X12_span_33 i a1 v.1.1 v.1.2.1 v.1.2.2 v.2)
    (I := fun m v w => ∃ e l c : Int32, v = ((e, c), s) ∧ w = ((e, l, c), s) ∧ m = bedM c ∧ -20 ≤ c.toInt) (Q := fun q q' => ∃ e, q = (e, s) ∧ q' = (e, s)) (fun m v w hI => by
      obtain ⟨e, l, c, rfl, rfl, rfl, hc⟩ := hI
      show (∃ v' w' m, b_X0_earliest_8 i e c s = _ ∧ b_X12_span_33 i a1 e l c s = _ ∧ _) ∨ (∃ q q', b_X0_earliest_8 i e c s = _ ∧ b_X12_span_33 i a1 e l c s = _ ∧ _)
      unfold b_X0_earliest_8 b_X12_span_33
      rw [h7]
      by_cases c1 : iG s 193 71 < c
      · right
        rw [if_pos c1, if_pos c1, if_pos ha]
        exact ⟨_, _, rfl, rfl, e, rfl, rfl⟩
      · left
        obtain ⟨u1, u2⟩ := bed_up c1 h9 hc
        obtain ⟨r, r1, r2, r3⟩ := bed_sec hb hi c
        rw [if_neg c1, if_neg c1, ob_some r1, ob_some r2]
        by_cases c2 : r < 0
        · rw [if_pos c2, if_pos (r3.mp c2)]
          exact ⟨_, _, _, rfl, rfl, u1, e, l, c + 1, rfl, rfl, rfl, u2⟩
        · rw [if_neg c2, if_neg (fun z => c2 (r3.mpr z))]
          unfold j_X12_span_70 j_X12_span_76
          by_cases c3 : e < 0
          · rw [if_pos c3, if_pos c3]
            by_cases c4 : r ≤ l
            · rw [if_pos c4]
              exact ⟨_, _, _, rfl, rfl, u1, r, l, c + 1, rfl, rfl, rfl, u2⟩
            · rw [if_neg c4]
              exact ⟨_, _, _, rfl, rfl, u1, r, r, c + 1, rfl, rfl, rfl, u2⟩
          · rw [if_neg c3, if_neg c3]
            by_cases c5 : e ≤ r
            · rw [if_pos c5, if_pos c5]
              by_cases c4 : r ≤ l
              · rw [if_pos c4]
                exact ⟨_, _, _, rfl, rfl, u1, e, l, c + 1, rfl, rfl, rfl, u2⟩
              · rw [if_neg c4]
                exact ⟨_, _, _, rfl, rfl, u1, e, r, c + 1, rfl, rfl, rfl, u2⟩
            · rw [if_neg c5, if_neg c5]
              by_cases c4 : r ≤ l
              · rw [if_pos c4]
                exact ⟨_, _, _, rfl, rfl, u1, r, l, c + 1, rfl, rfl, rfl, u2⟩
              · rw [if_neg c4]
                exact ⟨_, _, _, rfl, rfl, u1, r, r, c + 1, rfl, rfl, rfl, u2⟩)
  obtain ⟨q, q', k1, k2, e, rfl, rfl⟩ := key _ ((-2, iG s 193 70), s) ((-2, -2, iG s 193 70), s) ⟨-2, -2, iG s 193 70, rfl, rfl, rfl, h8⟩
  have hm : bedM (iG s 193 70) ≤ 41 := by unfold bedM; omega
  refine ⟨e, fun N hN => ?_, fun N hN => k2 N (by omega)⟩
  unfold f_X0_earliest
  rw [h6]
  exact k1 N (by omega)
theorem bed_last {s : cS} (h : BedI s) {i : Int32} (hi : inb i 10) (a1 : Int32) (ha : ¬ a1 = 0) : ∃ r, (∀ N, 42 < N → f_X0_latest N i s = some (r, s)) ∧ (∀ N, 42 < N → w_X12_span_33 N i a1 (-2) (-2) (iG s 193 70) s = some (r, s)) := by
  have hb := h
  obtain ⟨n, h1, h2, h3, h4, h5, h6, h7, h8, h9, h10⟩ := h
  have key := itr_sim (B := fun (v : (Int32 × Int32) × cS) => b_X0_latest_8 i v.1.1 v.1.2 v.2) (B' := fun (v : (Int32 × Int32 × Int32) × cS) => b_X12_span_33 i a1 v.1.1 v.1.2.1 v.1.2.2 v.2)
    (I := fun m v w => ∃ e l c : Int32, v = ((l, c), s) ∧ w = ((e, l, c), s) ∧ m = bedM c ∧ -20 ≤ c.toInt) (Q := fun q q' => ∃ e, q = (e, s) ∧ q' = (e, s)) (fun m v w hI => by
      obtain ⟨e, l, c, rfl, rfl, rfl, hc⟩ := hI
      show (∃ v' w' m, b_X0_latest_8 i l c s = _ ∧ b_X12_span_33 i a1 e l c s = _ ∧ _) ∨ (∃ q q', b_X0_latest_8 i l c s = _ ∧ b_X12_span_33 i a1 e l c s = _ ∧ _)
      unfold b_X0_latest_8 b_X12_span_33
      rw [h7]
      by_cases c1 : iG s 193 71 < c
      · right
        rw [if_pos c1, if_pos c1, if_neg ha]
        exact ⟨_, _, rfl, rfl, l, rfl, rfl⟩
      · left
        obtain ⟨u1, u2⟩ := bed_up c1 h9 hc
        obtain ⟨r, r1, r2, r3⟩ := bed_sec hb hi c
        rw [if_neg c1, if_neg c1, ob_some r1, ob_some r2]
        by_cases c2 : r < 0
        · rw [if_pos c2, if_pos (r3.mp c2)]
          exact ⟨_, _, _, rfl, rfl, u1, e, l, c + 1, rfl, rfl, rfl, u2⟩
        · rw [if_neg c2, if_neg (fun z => c2 (r3.mpr z))]
          unfold j_X12_span_70 j_X12_span_76
          by_cases c4 : r ≤ l
          · rw [if_pos c4, if_pos c4]
            by_cases c3 : e < 0
            · rw [if_pos c3]
              exact ⟨_, _, _, rfl, rfl, u1, r, l, c + 1, rfl, rfl, rfl, u2⟩
            · rw [if_neg c3]
              by_cases c5 : e ≤ r
              · rw [if_pos c5, if_pos c4]
                exact ⟨_, _, _, rfl, rfl, u1, e, l, c + 1, rfl, rfl, rfl, u2⟩
              · rw [if_neg c5]
                exact ⟨_, _, _, rfl, rfl, u1, r, l, c + 1, rfl, rfl, rfl, u2⟩
          · rw [if_neg c4, if_neg c4]
            by_cases c3 : e < 0
            · rw [if_pos c3]
              exact ⟨_, _, _, rfl, rfl, u1, r, r, c + 1, rfl, rfl, rfl, u2⟩
            · rw [if_neg c3]
              by_cases c5 : e ≤ r
              · rw [if_pos c5, if_neg c4]
                exact ⟨_, _, _, rfl, rfl, u1, e, r, c + 1, rfl, rfl, rfl, u2⟩
              · rw [if_neg c5]
                exact ⟨_, _, _, rfl, rfl, u1, r, r, c + 1, rfl, rfl, rfl, u2⟩)
  obtain ⟨q, q', k1, k2, e, rfl, rfl⟩ := key _ ((-2, iG s 193 70), s) ((-2, -2, iG s 193 70), s) ⟨-2, -2, iG s 193 70, rfl, rfl, rfl, h8⟩
  have hm : bedM (iG s 193 70) ≤ 41 := by unfold bedM; omega
  refine ⟨e, fun N hN => ?_, fun N hN => k2 N (by omega)⟩
  unfold f_X0_latest
  rw [h6]
  exact k1 N (by omega)
theorem m_span {s : cS} (h : BedI s) (a0 a1 : Int32) : ∃ r, r_X11_span a0 a1 s r s ∧ r_X12_span a0 a1 s r s := by
  obtain ⟨g1, g2⟩ := bed_has h a0
  unfold r_X11_span r_X12_span
  suffices ∃ r, f_X11_span 43 a0 a1 s = some (r, s) ∧ f_X12_span 43 a0 a1 s = some (r, s) from by
    obtain ⟨r, e1, e2⟩ := this
    exact ⟨r, ⟨43, e1⟩, ⟨43, e2⟩⟩
  unfold f_X11_span f_X12_span
  rw [← g1, lIn_w (a' := 0) (b' := 1) rfl rfl]
  by_cases c1 : f_X0_has a0 s = 0
  · rw [if_pos c1, if_pos c1]
    exact ⟨_, rfl, rfl⟩
  · rw [if_neg c1, if_neg c1]
    by_cases c2 : wB a1 0 1 = 0
    · rw [if_pos c2, if_pos c2]
      exact ⟨_, rfl, rfl⟩
    · rw [if_neg c2, if_neg c2]
      by_cases c3 : a1 = 0
      · obtain ⟨r, k1, k2⟩ := bed_first h (g2 c1) a1 c3
        rw [if_pos c3, ob_some (k1 43 (by omega)), k2 43 (by omega)]
        exact ⟨r, rfl, rfl⟩
      · obtain ⟨r, k1, k2⟩ := bed_last h (g2 c1) a1 c3
        rw [if_neg c3, ob_some (k1 43 (by omega)), k2 43 (by omega)]
        exact ⟨r, rfl, rfl⟩
