/-! the bed: order, wind, lies -/
def bedQ (o k : Nat) : Prop := (o = 162 ∧ 2 ≤ k ∧ k ≤ 5) ∨ o = 163 ∨ o = 164 ∨ o = 237 ∨ o = 238 ∨ (o = 193 ∧ (k = 7 ∨ k = 69 ∨ k = 70 ∨ k = 71))
theorem BedI.rd : Rd bedQ BedI := by
  intro s t h _ hi
  unfold BedI at hi ⊢
  simp (disch := (unfold bedQ; omega)) only [h]
  exact hi
def ordR : List (Int32 × Int32) := [(4, 0), (0, 1), (1, 2), (2, 4), (3, 3), (3, 5), (3, 6), (3, 7)]
theorem ord_up : ∀ p ∈ ordR, ∀ n ∈ ([(0, 1), (1, 2), (2, 4)] : List (Int32 × Int32)), ((if p.1 = 4 then n.1 else if p.1 = n.1 then n.1 else 3), p.2 ||| n.2) ∈ ordR := by decide +kernel
theorem ord_out : ∀ p ∈ ordR, (if p.2 = 0 then (4 : Int32) else if p.2 = 1 then 0 else if p.2 = 2 then 1 else if p.2 = 4 then 2 else 3) = p.1 := by decide +kernel
theorem ord_68 (x1 x2 x3 x4 y0 : Int32) (s : cS) : j_X0_compare_68 x1 x2 x3 x4 y0 s = some (.inl (((if x3 = 4 then y0 else if x3 = y0 then y0 else 3), x4 + 1), s)) := by
  unfold j_X0_compare_68 j_X0_compare_81 j_X0_compare_87 j_X0_compare_88
  by_cases h : x3 = 4
  · rw [if_pos h, if_pos h]
  · rw [if_neg h, if_neg h]
    by_cases h2 : x3 = y0
    · rw [if_pos h2, if_pos h2]
    · rw [if_neg h2, if_neg h2]
theorem bed_cmp {s : cS} (h : BedI s) {x y : Int32} (hx : inb x 10) (hy : inb y 10) : ∃ r, (∀ N, 42 < N → f_X0_compare N x y s = some (r, s)) ∧ (∀ N, 42 < N → w_X12_order_26 N x y 0 (iG s 193 70) s = some (r, s)) := by
  have hb := h
  obtain ⟨n, h1, h2, h3, h4, h5, h6, h7, h8, h9, h10⟩ := h
  have key := itr_sim (B := fun (v : (Int32 × Int32) × cS) => b_X0_compare_8 x y v.1.1 v.1.2 v.2) (B' := fun (v : (Int32 × Int32) × cS) => b_X12_order_26 x y v.1.1 v.1.2 v.2)
    (I := fun m v w => ∃ a k c : Int32, v = ((a, c), s) ∧ w = ((k, c), s) ∧ m = bedM c ∧ -20 ≤ c.toInt ∧ (a, k) ∈ ordR) (Q := fun q q' => ∃ e, q = (e, s) ∧ q' = (e, s)) (fun m v w hI => by
      obtain ⟨a, k, c, rfl, rfl, rfl, hc, hak⟩ := hI
      show (∃ v' w' m, b_X0_compare_8 x y a c s = _ ∧ b_X12_order_26 x y k c s = _ ∧ _) ∨ (∃ q q', b_X0_compare_8 x y a c s = _ ∧ b_X12_order_26 x y k c s = _ ∧ _)
      unfold b_X0_compare_8 b_X12_order_26
      rw [h7]
      by_cases c1 : iG s 193 71 < c
      · right
        rw [if_pos c1, if_pos c1]
        have ho := ord_out _ hak
        dsimp only at ho
        refine ⟨_, (a, s), rfl, ?_, a, rfl, rfl⟩
        rw [← ho]
        by_cases d0 : k = 0
        · rw [if_pos d0, if_pos d0]; rfl
        · rw [if_neg d0, if_neg d0]
          by_cases d1 : k = 1
          · rw [if_pos d1, if_pos d1]; rfl
          · rw [if_neg d1, if_neg d1]
            by_cases d2 : k = 2
            · rw [if_pos d2, if_pos d2]; rfl
            · rw [if_neg d2, if_neg d2]
              by_cases d4 : k = 4
              · rw [if_pos d4, if_pos d4]; rfl
              · rw [if_neg d4, if_neg d4]; rfl
      · left
        obtain ⟨u1, u2⟩ := bed_up c1 h9 hc
        obtain ⟨r, r1, r2, r3⟩ := bed_sec hb hx c
        obtain ⟨r', r1', r2', r3'⟩ := bed_sec hb hy c
        rw [if_neg c1, if_neg c1, ob_some r1, ob_some r2, ob_some r1', ob_some r2']
        by_cases c2 : r < 0
        · rw [if_pos c2, if_pos (r3.mp c2)]
          exact ⟨_, _, _, rfl, rfl, u1, a, k, c + 1, rfl, rfl, rfl, u2, hak⟩
        · rw [if_neg c2, if_neg (fun z => c2 (r3.mpr z))]
          by_cases c3 : r' < 0
          · rw [if_pos c3, if_pos (r3'.mp c3)]
            exact ⟨_, _, _, rfl, rfl, u1, a, k, c + 1, rfl, rfl, rfl, u2, hak⟩
          · rw [if_neg c3, if_neg (fun z => c3 (r3'.mpr z))]
            simp only [ord_68]
            unfold j_X12_order_92 j_X12_order_94
            by_cases c4 : r' ≤ r
            · rw [if_pos c4, if_pos c4]
              by_cases c5 : r ≤ r'
              · rw [if_pos c5, if_pos c5]
                exact ⟨_, _, _, rfl, rfl, u1, _, _, c + 1, rfl, rfl, rfl, u2, ord_up _ hak (2, 4) (by decide)⟩
              · rw [if_neg c5, if_neg c5]
                exact ⟨_, _, _, rfl, rfl, u1, _, _, c + 1, rfl, rfl, rfl, u2, ord_up _ hak (1, 2) (by decide)⟩
            · rw [if_neg c4, if_neg c4]
              exact ⟨_, _, _, rfl, rfl, u1, _, _, c + 1, rfl, rfl, rfl, u2, ord_up _ hak (0, 1) (by decide)⟩)
  obtain ⟨q, q', k1, k2, e, rfl, rfl⟩ := key _ ((4, iG s 193 70), s) ((0, iG s 193 70), s) ⟨4, 0, iG s 193 70, rfl, rfl, rfl, h8, by decide⟩
  have hm : bedM (iG s 193 70) ≤ 41 := by unfold bedM; omega
  refine ⟨e, fun N hN => ?_, fun N hN => k2 N (by omega)⟩
  unfold f_X0_compare
  rw [h6]
  exact k1 N (by omega)
theorem m_order {s : cS} (h : BedI s) (a0 a1 : Int32) : ∃ r, r_X11_order a0 a1 s r s ∧ r_X12_order a0 a1 s r s := by
  obtain ⟨g1, g2⟩ := bed_has h a0
  obtain ⟨g1', g2'⟩ := bed_has h a1
  unfold r_X11_order r_X12_order
  suffices ∃ r, f_X11_order 43 a0 a1 s = some (r, s) ∧ f_X12_order 43 a0 a1 s = some (r, s) from by
    obtain ⟨r, e1, e2⟩ := this
    exact ⟨r, ⟨43, e1⟩, ⟨43, e2⟩⟩
  unfold f_X11_order f_X12_order
  rw [← g1, ← g1']
  by_cases c1 : f_X0_has a0 s = 0
  · rw [if_pos c1, if_pos c1]
    exact ⟨_, rfl, rfl⟩
  · rw [if_neg c1, if_neg c1]
    by_cases c2 : f_X0_has a1 s = 0
    · rw [if_pos c2, if_pos c2]
      exact ⟨_, rfl, rfl⟩
    · rw [if_neg c2, if_neg c2]
      obtain ⟨r, k1, k2⟩ := bed_cmp h (g2 c1) (g2' c2)
      rw [ob_some (k1 43 (by omega)), k2 43 (by omega)]
      exact ⟨r, rfl, rfl⟩
theorem m_wind {s : cS} (h : BedI s) (a0 a1 a2 : Int32) : ∃ r s1 s2, r_X11_wind a0 a1 a2 s r s1 ∧ r_X12_wind a0 a1 a2 s1 r s2 ∧ Fw bedQ s s2 ∧ BedI s2 := by
  unfold r_X11_wind r_X12_wind f_X11_wind f_X12_wind
  rw [lIn_w (a' := 1) (b' := 50) rfl rfl, lIn_w (a' := -20) (b' := 20) rfl rfl, lIn_w (a' := a1) (b' := 20) l_i rfl]
  by_cases c1 : wB a0 1 50 = 0
  · simp only [if_pos c1]
    exact ⟨_, _, _, rfl, rfl, Fw.rf, h⟩
  · by_cases c2 : wB a1 (-20) 20 = 0
    · simp only [if_neg c1, if_pos c2]
      exact ⟨_, _, _, rfl, rfl, Fw.rf, h⟩
    · by_cases c3 : wB a2 a1 20 = 0
      · simp only [if_neg c1, if_neg c2, if_pos c3]
        exact ⟨_, _, _, rfl, rfl, Fw.rf, h⟩
      · simp only [if_neg c1, if_neg c2, if_neg c3]
        refine ⟨1, _, _, rfl, rfl, ?_, ?_⟩
        · refine ((((((Fw.rf.st ?_).st ?_).st ?_).st ?_).st ?_).st ?_) <;> (unfold bedQ; omega)
        · obtain ⟨n, h1, h2, h3, h4, h5, h6, h7, h8, h9, h10⟩ := h
          obtain ⟨p1, p2⟩ := wB_1 c1
          obtain ⟨p3, p4⟩ := wB_1 c2
          obtain ⟨p5, p6⟩ := wB_1 c3
          have q1 := lei.mp p1
          have q2 := lei.mp p2
          have q3 := lei.mp p3
          have q4 := lei.mp p6
          exact ⟨n, h1, h2, h3, rfl, ⟨q1, q2⟩, rfl, rfl, q3, q4, h10⟩
theorem m_lies {s : cS} (h : BedI s) (a0 a1 : Int32) : ∃ r s1 s2, r_X11_lies a0 a1 s r s1 ∧ r_X12_lies a0 a1 s1 r s2 ∧ Fw bedQ s s2 ∧ BedI s2 := by
  have hb := h
  obtain ⟨n, h1, h2, h3, h4, h5, h6, h7, h8, h9, h10⟩ := h
  unfold r_X11_lies r_X12_lies f_X11_lies f_X12_lies f_X0_size f_X0_add
  rw [lIn_w (a' := 0) (b' := 100000) rfl rfl, lIn_w (a' := 0) (b' := 1000) rfl rfl, h2]
  by_cases c1 : wB a0 0 100000 = 0
  · rw [if_pos c1]
    refine ⟨-1, s, s, rfl, ?_, Fw.rf, hb⟩
    rw [if_pos c1]
    split <;> rfl
  · by_cases c2 : wB a1 0 1000 = 0
    · rw [if_neg c1, if_pos c2]
      refine ⟨-1, s, s, rfl, ?_, Fw.rf, hb⟩
      rw [if_neg c1, if_pos c2]
      split <;> rfl
    · rw [if_neg c1, if_neg c2]
      by_cases c3 : n = 10
      · subst c3
        rw [if_neg (by decide)]
        refine ⟨-1, s, s, rfl, ?_, Fw.rf, hb⟩
        rw [h3, if_pos (c := nI 10 = 10) rfl]
      · have hn : n < 10 := by omega
        rw [if_pos (c := nI n < 10) ((nI_ltI (b := 10) (by omega) (by omega)).mpr hn)]
        have E1 : (tb (sb (pA s 163 10 (nI n) a0) fun s2 => sb (pA s2 164 10 (iG s2 162 2) a1) fun s5 => sb (iS s5 162 2 ((iG s5 162 2) + (1 : Int32))) fun s7 => (((iG s7 162 2) - (1 : Int32)), s7)) fun r7 s8 => (r7, s8)) = (nI n, iS (iS (iS s 163 n a0) 164 n a1) 162 2 (nI (n + 1))) := by
          have e1 : iG (iS s 163 n a0) 162 2 = nI n := h2
          have e2 : iG (iS (iS s 163 n a0) 164 n a1) 162 2 = nI n := h2
          dsimp only [tb, sb]
          rw [pA_n hn (by omega), e1, pA_n hn (by omega), e2, nI_1, iG_eq, nI_pred]
        refine ⟨nI n, _, iS (iS (iS (iS (iS (iS s 163 n a0) 164 n a1) 162 2 (nI (n + 1))) 237 n a0) 238 n a1) 193 7 (nI (n + 1)), E1, ?_, ?_, ?_⟩
        · generalize hs1 : iS (iS (iS s 163 n a0) 164 n a1) 162 2 (nI (n + 1)) = s1
          have e2 : iG s1 193 7 = nI n := by rw [← hs1]; exact h3
          have e3 : iG (iS s1 237 n a0) 193 7 = nI n := e2
          have e4 : iG (iS (iS s1 237 n a0) 238 n a1) 193 7 = nI n := e2
          rw [if_neg c1, if_neg c2, e2, if_neg (c := nI n = 10) (fun z => c3 ((nI_eq (b := 10) (by omega) (by omega)).mp z)), if_pos ((inb_n (by omega)).mpr hn), nI_clamp (by omega), sb_mk', e3, if_pos ((inb_n (by omega)).mpr hn), nI_clamp (by omega), sb_mk', e4, nI_1, sb_mk', iG_eq, nI_pred]
        · refine ((((((Fw.rf.st ?_).st ?_).st ?_).st ?_).st ?_).st ?_) <;> (unfold bedQ; omega)
        · refine ⟨n + 1, by omega, rfl, rfl, h4, h5, h6, h7, h8, h9, fun i hi => ?_⟩
          by_cases e : i = n
          · subst e
            simp [iG_if]
          · obtain ⟨k1, k2⟩ := h10 i hi
            simp [iG_if, e, k1, k2]
