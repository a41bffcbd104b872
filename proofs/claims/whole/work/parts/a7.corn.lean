/-! corners and lives -/
def CorN (n : Nat) (m : Nat → Nat) (s : cS) : Prop := n ≤ 8 ∧ iG s 3 7 = nI n ∧ iG s 193 2 = nI n ∧ (∀ c, c < 8 → iG s 4 c = iG s 195 c ∧ iG s 5 c = iG s 196 c ∧ iG s 6 c = iG s 197 c ∧ iG s 7 c = iG s 198 c ∧ iG s 8 c = nI (m c) ∧ iG s 199 c = nI (m c) ∧ m c ≤ 4) ∧ (∀ c, n ≤ c → m c = 0) ∧ (∀ c, c < n → 1 ≤ (iG s 7 c).toInt ∧ (iG s 7 c).toInt ≤ 10000) ∧ (∀ c i, c < 8 → i < m c → iG s 9 (4 * c + i) = iG s 200 (4 * c + i) ∧ 1 ≤ (iG s 9 (4 * c + i)).toInt ∧ (iG s 9 (4 * c + i)).toInt ≤ 1000000 ∧ ∃ w, 1 ≤ w ∧ w ≤ 5 ∧ iG s 10 (4 * c + i) = nI w ∧ iG s 201 (4 * c + i) = nI w)
def corQ (o k : Nat) : Prop := (o = 3 ∧ k = 7) ∨ (4 ≤ o ∧ o ≤ 10) ∨ (o = 193 ∧ k = 2) ∨ (195 ≤ o ∧ o ≤ 201)
def corP (o k : Nat) : Prop := corQ o k ∨ (o = 3 ∧ k = 8)
theorem CorN.rd {n : Nat} {m : Nat → Nat} : Rd corQ (CorN n m) := by
  intro s t h _ hi
  unfold CorN at hi ⊢
  simp (disch := (unfold corQ; omega)) only [h]
  exact hi
theorem CorN.ce {n c : Nat} {m : Nat → Nat} {s : cS} (h : CorN n m s) (hc : c < 8) : ceX s c = ceM s c := by
  obtain ⟨-, -, -, h4, -⟩ := h
  obtain ⟨a, b, d, -⟩ := h4 c hc
  unfold ceX ceM
  rw [a, b, d]
theorem corner_ok {a0 a1 a2 a3 : Int32} {s : cS} {n nh : Nat} (h1 : iG s 3 7 = nI n) (h2 : iG s 193 2 = nI n) (hn : n ≤ 8) (hh1 : iG s 32 4 = nI nh) (hh2 : iG s 193 3 = nI nh) (hh3 : nh ≤ 10) : (f_X11_corner a0 a1 a2 a3 s = (-1, s) ∧ f_X12_corner a0 a1 a2 a3 s = some (-1, s)) ∨ (¬ wB a0 0 3 = 0 ∧ ¬ wB a1 1 50 = 0 ∧ ¬ wB a2 1 50 = 0 ∧ ¬ wB a3 1 10000 = 0 ∧ n < 8 ∧ nh = 0) := by
  have e8 : (8 : Int32) ≤ nI n ↔ 8 ≤ n := nI_leI (a := 8) (by omega) (by omega)
  have e8' : nI n = (8 : Int32) ↔ n = 8 := nI_eq (b := 8) (by omega) (by omega)
  have e0 : nI nh ≤ (0 : Int32) ↔ nh ≤ 0 := nI_leI (b := 0) (by omega) (by omega)
  have e0' : (0 : Int32) < nI nh ↔ 0 < nh := nI_ltI (a := 0) (by omega) (by omega)
  unfold f_X11_corner f_X12_corner f_X1_size f_X2_size
  rw [lIn_w (a' := 0) (b' := 3) rfl rfl, lIn_w (a' := 1) (b' := 50) rfl rfl, lIn_w (a' := 1) (b' := 50) rfl rfl, lIn_w (a' := 1) (b' := 10000) rfl rfl, h1, h2, hh1, hh2]
  simp only [e8, e8', e0, e0']
  by_cases c1 : wB a0 0 3 = 0
  · left
    simp only [if_pos c1]
    refine ⟨trivial, ?_⟩
    split
    · rfl
    · split <;> rfl
  · simp only [if_neg c1]
    by_cases c2 : wB a1 1 50 = 0
    · left
      simp only [if_pos c2]
      refine ⟨trivial, ?_⟩
      split
      · rfl
      · split <;> rfl
    · simp only [if_neg c2]
      by_cases c3 : wB a2 1 50 = 0
      · left
        simp only [if_pos c3]
        refine ⟨trivial, ?_⟩
        split
        · rfl
        · split <;> rfl
      · simp only [if_neg c3]
        by_cases c4 : wB a3 1 10000 = 0
        · left
          simp only [if_pos c4]
          refine ⟨trivial, ?_⟩
          split
          · rfl
          · split <;> rfl
        · simp only [if_neg c4]
          by_cases c5 : n = 8
          · left
            rw [if_pos (by omega), if_pos c5]
            exact ⟨rfl, rfl⟩
          · by_cases c6 : nh = 0
            · right
              exact ⟨c1, c2, c3, c4, by omega, c6⟩
            · left
              rw [if_neg (by omega), if_neg c5, if_neg (by omega), if_pos (by omega)]
              exact ⟨rfl, rfl⟩
theorem m_corner {n nh : Nat} {m : Nat → Nat} {s : cS} (h : CorN n m s) (hh1 : iG s 32 4 = nI nh) (hh2 : iG s 193 3 = nI nh) (hh3 : nh ≤ 10) (a0 a1 a2 a3 : Int32) : ∃ r s1 s2, r_X11_corner a0 a1 a2 a3 s r s1 ∧ r_X12_corner a0 a1 a2 a3 s1 r s2 ∧ Fw corP s s2 ∧ (s2 = s ∨ (nh = 0 ∧ iG s2 3 8 = iG s 3 8 + 1 ∧ CorN (n + 1) m s2)) := by
  have hC := h
  obtain ⟨h0, h1, h2, h4, h5, h6, h7⟩ := h
  rcases corner_ok (a0 := a0) (a1 := a1) (a2 := a2) (a3 := a3) h1 h2 h0 hh1 hh2 hh3 with ⟨q1, q2⟩ | ⟨c1, c2, c3, c4, c5, c6⟩
  · exact ⟨-1, s, s, q1, q2, Fw.rf, Or.inl rfl⟩
  · generalize hs1 : iS (iS (iS (iS (iS (iS s 4 n a0) 5 n a1) 6 n a2) 7 n a3) 3 7 (nI (n + 1))) 3 8 (iG s 3 8 + 1) = s1
    have g1 : ∀ o k, ¬ (o = 3 ∧ (k = 7 ∨ k = 8)) → ¬ (4 ≤ o ∧ o ≤ 7) → iG s1 o k = iG s o k := by
      intro o k a b
      rw [← hs1, iG_if, iG_if, iG_ne (by omega), iG_ne (by omega), iG_ne (by omega), iG_ne (by omega)]
      by_cases z : o = 3
      · rw [if_pos z, if_neg (by omega), if_pos z, if_neg (by omega)]
      · rw [if_neg z, if_neg z]
    have E1 : f_X11_corner a0 a1 a2 a3 s = (nI n, s1) := by
      unfold f_X11_corner f_X1_size f_X2_size f_X1_add f_X1_changed
      rw [if_neg c1, if_neg c2, if_neg c3, if_neg c4, h1, if_neg (c := (8 : Int32) ≤ nI n) (nI_ge (b := 8) c5 (by omega)), hh1, c6, if_pos (by decide)]
      have e1 : iG (iS s 4 n a0) 3 7 = nI n := h1
      have e2 : iG (iS (iS s 4 n a0) 5 n a1) 3 7 = nI n := h1
      have e3 : iG (iS (iS (iS s 4 n a0) 5 n a1) 6 n a2) 3 7 = nI n := h1
      have e4 : iG (iS (iS (iS (iS s 4 n a0) 5 n a1) 6 n a2) 7 n a3) 3 7 = nI n := h1
      have e5 : iG (iS (iS (iS (iS (iS s 4 n a0) 5 n a1) 6 n a2) 7 n a3) 3 7 (nI (n + 1))) 3 8 = iG s 3 8 := rfl
      have e6 : iG (iS (iS (iS (iS (iS (iS s 4 n a0) 5 n a1) 6 n a2) 7 n a3) 3 7 (nI (n + 1))) 3 8 (iG s 3 8 + 1)) 3 7 = nI (n + 1) := rfl
      simp only [sb_mk, tb_mk]
      rw [pA_n c5 (by omega), e1, pA_n c5 (by omega), e2, pA_n c5 (by omega), e3, pA_n c5 (by omega), e4, nI_1, e5, e6, nI_pred, hs1]
    generalize hs2 : iS (iS (iS (iS (iS s1 195 n a0) 196 n a1) 197 n a2) 198 n a3) 193 2 (nI (n + 1)) = s2
    have k193 : ∀ k, iG s1 193 k = iG s 193 k := fun k => g1 193 k (by omega) (by omega)
    have E2 : f_X12_corner a0 a1 a2 a3 s1 = some (nI n, s2) := by
      unfold f_X12_corner
      rw [lIn_w (a' := 0) (b' := 3) rfl rfl, lIn_w (a' := 1) (b' := 50) rfl rfl, lIn_w (a' := 1) (b' := 50) rfl rfl, lIn_w (a' := 1) (b' := 10000) rfl rfl, k193 2, h2, k193 3, hh2, c6, if_neg (c := nI n = 8) (fun z => by have := (nI_eq (b := 8) (by omega) (by omega)).mp z; omega), if_neg (by decide), if_neg c1, if_neg c2, if_neg c3, if_neg c4]
      have hb : inb (nI n) 8 := (inb_n (by omega)).mpr c5
      have hcl : (nI n).toNatClampNeg = n := nI_clamp (by omega)
      have e0 : iG s1 193 2 = nI n := by rw [k193 2, h2]
      have e1 : iG (iS s1 195 n a0) 193 2 = nI n := e0
      have e2 : iG (iS (iS s1 195 n a0) 196 n a1) 193 2 = nI n := e0
      have e3 : iG (iS (iS (iS s1 195 n a0) 196 n a1) 197 n a2) 193 2 = nI n := e0
      have e4 : iG (iS (iS (iS (iS s1 195 n a0) 196 n a1) 197 n a2) 198 n a3) 193 2 = nI n := e0
      have e5 : iG (iS (iS (iS (iS (iS s1 195 n a0) 196 n a1) 197 n a2) 198 n a3) 193 2 (nI (n + 1))) 193 2 = nI (n + 1) := rfl
      have e6 : iG s2 193 2 = nI (n + 1) := by rw [← hs2, iG_eq]
      simp only [sb_mk, if_pos hb, hcl, e1, e2, e3, e4, nI_1, hs2]
      rw [e6, nI_pred]
    have g2 : ∀ o k, ¬ (o = 193 ∧ k = 2) → ¬ (195 ≤ o ∧ o ≤ 198) → iG s2 o k = iG s1 o k := by
      intro o k a b
      rw [← hs2, iG_if, iG_ne (by omega), iG_ne (by omega), iG_ne (by omega), iG_ne (by omega)]
      by_cases z : o = 193
      · rw [if_pos z, if_neg (by omega)]
      · rw [if_neg z]
    have hF : Fw corP s s2 := by
      rw [← hs2, ← hs1]
      refine (((((((((((Fw.rf.st ?_).st ?_).st ?_).st ?_).st ?_).st ?_).st ?_).st ?_).st ?_).st ?_).st ?_) <;> (unfold corP corQ; omega)
    have row : ∀ o c, (4 ≤ o ∧ o ≤ 7) → c ≠ n → iG s2 o c = iG s o c := by
      intro o c ho hc
      rw [g2 o c (by omega) (by omega), ← hs1, iG_ne (by omega), iG_ne (by omega)]
      have : o = 4 ∨ o = 5 ∨ o = 6 ∨ o = 7 := by omega
      rcases this with rfl | rfl | rfl | rfl <;> simp [iG_if, hc]
    have rowM : ∀ o c, (195 ≤ o ∧ o ≤ 198) → c ≠ n → iG s2 o c = iG s o c := by
      intro o c ho hc
      rw [← g1 o c (by omega) (by omega), ← hs2, iG_ne (by omega)]
      have : o = 195 ∨ o = 196 ∨ o = 197 ∨ o = 198 := by omega
      rcases this with rfl | rfl | rfl | rfl <;> simp [iG_if, hc]
    have newX : iG s2 4 n = a0 ∧ iG s2 5 n = a1 ∧ iG s2 6 n = a2 ∧ iG s2 7 n = a3 := by
      refine ⟨?_, ?_, ?_, ?_⟩ <;> (rw [g2 _ _ (by omega) (by omega), ← hs1]; simp [iG_if])
    have newM : iG s2 195 n = a0 ∧ iG s2 196 n = a1 ∧ iG s2 197 n = a2 ∧ iG s2 198 n = a3 := by
      refine ⟨?_, ?_, ?_, ?_⟩ <;> (rw [← hs2]; simp [iG_if])
    have old : ∀ o k, (8 ≤ o ∧ o ≤ 10) ∨ (199 ≤ o ∧ o ≤ 201) → iG s2 o k = iG s o k := by
      intro o k ho
      rw [g2 o k (by omega) (by omega), g1 o k (by omega) (by omega)]
    refine ⟨nI n, s1, s2, E1, E2, hF, Or.inr ⟨c6, ?_, by omega, ?_, ?_, fun c hc => ?_, fun c hc => h5 c (by omega), fun c hc => ?_, fun c i hc hi => ?_⟩⟩
    · rw [g2 3 8 (by omega) (by omega), ← hs1, iG_eq]
    · rw [g2 3 7 (by omega) (by omega), ← hs1, iG_nk (by omega), iG_eq]
    · rw [← hs2, iG_eq]
    · obtain ⟨q1, q2, q3, q4, q5, q6, q7⟩ := h4 c hc
      rw [old 8 c (by omega), old 199 c (by omega)]
      by_cases z : c = n
      · subst z
        rw [newX.1, newX.2.1, newX.2.2.1, newX.2.2.2, newM.1, newM.2.1, newM.2.2.1, newM.2.2.2]
        exact ⟨rfl, rfl, rfl, rfl, q5, q6, q7⟩
      · rw [row 4 c (by omega) z, row 5 c (by omega) z, row 6 c (by omega) z, row 7 c (by omega) z, rowM 195 c (by omega) z, rowM 196 c (by omega) z, rowM 197 c (by omega) z, rowM 198 c (by omega) z]
        exact ⟨q1, q2, q3, q4, q5, q6, q7⟩
    · by_cases z : c = n
      · subst z
        rw [newX.2.2.2]
        obtain ⟨p1, p2⟩ := wB_1 c4
        exact ⟨lei.mp p1, lei.mp p2⟩
      · rw [row 7 c (by omega) z]
        exact h6 c (by omega)
    · rw [old 9 _ (by omega), old 10 _ (by omega), old 200 _ (by omega), old 201 _ (by omega)]
      exact h7 c i hc hi
theorem has_n {n c : Nat} {s : cS} (h1 : iG s 3 7 = nI n) (hn : n ≤ 8) (hc : c < 2 ^ 31) : f_X1_has (nI c) s = if c < n then 1 else 0 := by
  unfold f_X1_has
  rw [h1, if_neg (nI_pos hc)]
  by_cases z : c < n
  · rw [if_pos z, if_neg (nI_ge z (by omega))]
  · rw [if_neg z, if_pos (nI_le (by omega) (by omega))]
/-- a corner's number, or none -/
theorem has_cor {n : Nat} {s : cS} (h1 : iG s 3 7 = nI n) (h2 : iG s 193 2 = nI n) (hn : n ≤ 8) (a : Int32) : (f_X1_has a s = 0 ∧ f_X12_isCorner a s = 0 ∧ ¬ ∃ c, c < n ∧ a = nI c) ∨ ∃ c, c < n ∧ a = nI c ∧ f_X1_has a s = 1 ∧ f_X12_isCorner a s = 1 := by
  unfold f_X1_has f_X12_isCorner
  rw [h1, h2]
  exact has_c a n (by omega)
theorem m_life {n nh : Nat} {m : Nat → Nat} {s : cS} (h : CorN n m s) (hh1 : iG s 32 4 = nI nh) (hh2 : iG s 193 3 = nI nh) (hh3 : nh ≤ 10) (a0 a1 a2 : Int32) : ∃ r s1 s2, r_X11_life a0 a1 a2 s r s1 ∧ r_X12_life a0 a1 a2 s1 r s2 ∧ Fw corP s s2 ∧ (s2 = s ∨ (nh = 0 ∧ iG s2 3 8 = iG s 3 8 + 1 ∧ ∃ m', CorN n m' s2)) := by
  have hC := h
  obtain ⟨h0, h1, h2, h4, h5, h6, h7⟩ := h
  have e0 : nI nh ≤ (0 : Int32) ↔ nh ≤ 0 := nI_leI (b := 0) (by omega) (by omega)
  have e0' : (0 : Int32) < nI nh ↔ 0 < nh := nI_ltI (a := 0) (by omega) (by omega)
  have hL1 : ∀ a b : Int64, ∀ a' b' : Int32, True := fun _ _ _ _ => trivial
  have hfail : (f_X11_life a0 a1 a2 s = (-1, s) ∧ f_X12_life a0 a1 a2 s = some (-1, s)) → ∃ r s1 s2, r_X11_life a0 a1 a2 s r s1 ∧ r_X12_life a0 a1 a2 s1 r s2 ∧ Fw corP s s2 ∧ (s2 = s ∨ (nh = 0 ∧ iG s2 3 8 = iG s 3 8 + 1 ∧ ∃ m', CorN n m' s2)) := fun ⟨q1, q2⟩ => ⟨-1, s, s, q1, q2, Fw.rf, Or.inl rfl⟩
  rcases has_cor h1 h2 h0 a0 with ⟨b1, b2, -⟩ | ⟨c, hc, rfl, b1, b2⟩
  · refine hfail ⟨?_, ?_⟩
    · unfold f_X11_life
      rw [if_pos b1]
    · unfold f_X12_life
      rw [if_pos b2]
  · obtain ⟨q1, q2, q3, q4, q5, q6, q7⟩ := h4 c (by omega)
    have hcl : (nI c).toNatClampNeg = c := nI_clamp (by omega)
    have hib : inb (nI c) 8 := (inb_n (by omega)).mpr (by omega)
    have e4 : (4 : Int32) ≤ nI (m c) ↔ 4 ≤ m c := nI_leI (a := 4) (by omega) (by omega)
    have e4' : nI (m c) = (4 : Int32) ↔ m c = 4 := nI_eq (b := 4) (by omega) (by omega)
    have hX : f_X11_life (nI c) a1 a2 s = (if wB a1 1 1000000 = 0 then ((-1 : Int32), s) else if wB a2 1 5 = 0 then ((-1 : Int32), s) else if 4 ≤ m c then ((-1 : Int32), s) else if nh ≤ 0 then (tb (f_X1_addLife (nI c) a1 a2 s) fun r11 s12 => (r11, s12)) else ((-1 : Int32), s)) := by
      unfold f_X11_life f_X1_livesOf f_X2_size
      rw [if_neg (one_ne0 b1), aA_n (by omega) (by omega), q5, hh1]
      simp only [e4, e0]
    have hM : ∀ t : cS, (∀ k, iG t 193 k = iG s 193 k) → (∀ k, iG t 199 k = iG s 199 k) → f_X12_life (nI c) a1 a2 t = (if 0 < nh then some ((-1 : Int32), t) else if m c = 4 then some ((-1 : Int32), t) else if wB a1 1 1000000 = 0 then some ((-1 : Int32), t) else if wB a2 1 5 = 0 then some ((-1 : Int32), t) else some (nI (m c), iS (iS (iS t 200 (4 * c + m c) a1) 201 (4 * c + m c) a2) 199 c (nI (m c + 1)))) := by
      intro t t1 t2
      have hb2 : f_X12_isCorner (nI c) t = 1 := by
        unfold f_X12_isCorner at b2 ⊢
        rw [t1 2]; exact b2
      unfold f_X12_life
      rw [if_neg (one_ne0 hb2), t1 3, hh2, if_pos hib, hcl, t2 c, q6, lIn_w (a' := 1) (b' := 1000000) rfl rfl, lIn_w (a' := 1) (b' := 5) rfl rfl]
      simp only [e0', e4']
      by_cases z0 : 0 < nh
      · rw [if_pos z0, if_pos z0]
      · rw [if_neg z0, if_neg z0]
        by_cases z1 : m c = 4
        · rw [if_pos z1, if_pos z1]
        · rw [if_neg z1, if_neg z1]
          have ei : (4 : Int32) * nI c + nI (m c) = nI (4 * c + m c) := by
            show nI 4 * nI c + nI (m c) = _
            rw [pk_mul, nI_add]
          have f1 : iG (iS t 200 (4 * c + m c) a1) 199 c = nI (m c) := by rw [iG_ne (by decide), t2 c, q6]
          have f2 : iG (iS (iS t 200 (4 * c + m c) a1) 201 (4 * c + m c) a2) 199 c = nI (m c) := by rw [iG_ne (by decide), f1]
          have hci : (nI (4 * c + m c)).toNatClampNeg = 4 * c + m c := nI_clamp (by omega)
          have hii : inb (nI (4 * c + m c)) 32 := (inb_n (by omega)).mpr (by omega)
          simp only [ei, if_pos hii, hci, sb_mk, f1, f2, nI_1, iG_eq, nI_pred]
    by_cases z0 : nh = 0
    · by_cases z1 : m c = 4
      · refine hfail ⟨?_, ?_⟩
        · rw [hX, if_pos (c := 4 ≤ m c) (by omega)]
          split
          · rfl
          · split <;> rfl
        · rw [hM s (fun _ => rfl) (fun _ => rfl), if_neg (by omega), if_pos z1]
      · by_cases z2 : wB a1 1 1000000 = 0
        · refine hfail ⟨?_, ?_⟩
          · rw [hX, if_pos z2]
          · rw [hM s (fun _ => rfl) (fun _ => rfl), if_neg (by omega), if_neg z1, if_pos z2]
        · rcases wB_c a2 1 5 (by decide) (by decide) with z3 | ⟨w, w1, w2, rfl, z3⟩
          · have z3 : wB a2 1 5 = 0 := z3
            refine hfail ⟨?_, ?_⟩
            · rw [hX, if_neg z2, if_pos z3]
            · rw [hM s (fun _ => rfl) (fun _ => rfl), if_neg (by omega), if_neg z1, if_neg z2, if_pos z3]
          · have z3' : ¬ wB (nI w) 1 5 = 0 := by
              have : wB (nI w) 1 5 = 1 := z3
              rw [this]; decide
            generalize hs1 : iS (iS (iS (iS s 9 (4 * c + m c) a1) 10 (4 * c + m c) (nI w)) 8 c (nI (m c + 1))) 3 8 (iG s 3 8 + 1) = s1
            have E1 : f_X11_life (nI c) a1 (nI w) s = (nI (m c), s1) := by
              rw [hX, if_neg z2, if_neg z3', if_neg (by omega), if_pos (by omega)]
              unfold f_X1_addLife f_X1_changed f_X1_livesOf
              have ei : nI c * (4 : Int32) + nI (m c) = nI (4 * c + m c) := by
                show nI c * nI 4 + nI (m c) = _
                rw [pk_mul, nI_add, Nat.mul_comm c 4]
              have e1 : aA s 8 8 (nI c) = nI (m c) := by rw [aA_n (by omega) (by omega), q5]
              have e5 : iG (iS (iS (iS s 9 (4 * c + m c) a1) 10 (4 * c + m c) (nI w)) 8 c (nI (m c + 1))) 3 8 = iG s 3 8 := rfl
              simp only [sb_mk, tb_mk, e1, ei]
              rw [pA_n (by omega) (by omega), pA_n (by omega) (by omega), pA_n (by omega) (by omega), nI_1, e5, hs1]
            have g1 : ∀ o k, ¬ (8 ≤ o ∧ o ≤ 10) → ¬ (o = 3 ∧ k = 8) → iG s1 o k = iG s o k := by
              intro o k a b
              rw [← hs1, iG_if, iG_ne (by omega), iG_ne (by omega), iG_ne (by omega)]
              by_cases z : o = 3
              · rw [if_pos z, if_neg (by omega)]
              · rw [if_neg z]
            have E2 := hM s1 (fun k => g1 193 k (by omega) (by omega)) (fun k => g1 199 k (by omega) (by omega))
            rw [if_neg (by omega), if_neg z1, if_neg z2, if_neg z3'] at E2
            generalize hs2 : iS (iS (iS s1 200 (4 * c + m c) a1) 201 (4 * c + m c) (nI w)) 199 c (nI (m c + 1)) = s2 at E2
            have hF : Fw corP s s2 := by
              rw [← hs2, ← hs1]
              refine ((((((Fw.rf.st ?_).st ?_).st ?_).st ?_).st ?_).st ?_).st ?_ <;> (unfold corP corQ; omega)
            have g2 : ∀ o k, ¬ (199 ≤ o ∧ o ≤ 201) → iG s2 o k = iG s1 o k := by
              intro o k a
              rw [← hs2, iG_ne (by omega), iG_ne (by omega), iG_ne (by omega)]
            have r8 : ∀ d, iG s2 8 d = if d = c then nI (m c + 1) else iG s 8 d := by
              intro d
              rw [g2 8 d (by omega), ← hs1]
              by_cases z : d = c <;> simp [iG_if, z]
            have r199 : ∀ d, iG s2 199 d = if d = c then nI (m c + 1) else iG s 199 d := by
              intro d
              rw [← g1 199 d (by omega) (by omega), ← hs2]
              by_cases z : d = c <;> simp [iG_if, z]
            have r9 : ∀ d, iG s2 9 d = if d = 4 * c + m c then a1 else iG s 9 d := by
              intro d
              rw [g2 9 d (by omega), ← hs1]
              by_cases z : d = 4 * c + m c <;> simp [iG_if, z]
            have r10 : ∀ d, iG s2 10 d = if d = 4 * c + m c then nI w else iG s 10 d := by
              intro d
              rw [g2 10 d (by omega), ← hs1]
              by_cases z : d = 4 * c + m c <;> simp [iG_if, z]
            have r200 : ∀ d, iG s2 200 d = if d = 4 * c + m c then a1 else iG s 200 d := by
              intro d
              rw [← g1 200 d (by omega) (by omega), ← hs2]
              by_cases z : d = 4 * c + m c <;> simp [iG_if, z]
            have r201 : ∀ d, iG s2 201 d = if d = 4 * c + m c then nI w else iG s 201 d := by
              intro d
              rw [← g1 201 d (by omega) (by omega), ← hs2]
              by_cases z : d = 4 * c + m c <;> simp [iG_if, z]
            have old : ∀ o k, (4 ≤ o ∧ o ≤ 7) ∨ (195 ≤ o ∧ o ≤ 198) ∨ (o = 3 ∧ k = 7) ∨ (o = 193) → iG s2 o k = iG s o k := by
              intro o k ho
              rw [g2 o k (by omega), g1 o k (by omega) (by omega)]
            refine ⟨nI (m c), s1, s2, E1, E2, hF, Or.inr ⟨z0, ?_, fun d => if d = c then m c + 1 else m d, h0, ?_, ?_, fun d hd => ?_, fun d hd => ?_, fun d hd => ?_, fun d i hd hi => ?_⟩⟩
            · rw [g2 3 8 (by omega), ← hs1, iG_eq]
            · rw [old 3 7 (by omega)]; exact h1
            · rw [old 193 2 (by omega)]; exact h2
            · obtain ⟨p1, p2, p3, p4, p5, p6, p7⟩ := h4 d hd
              rw [old 4 d (by omega), old 5 d (by omega), old 6 d (by omega), old 7 d (by omega), old 195 d (by omega), old 196 d (by omega), old 197 d (by omega), old 198 d (by omega), r8, r199]
              refine ⟨p1, p2, p3, p4, ?_⟩
              by_cases z : d = c
              · simp only [if_pos z]
                exact ⟨trivial, trivial, by omega⟩
              · simp only [if_neg z]
                exact ⟨p5, p6, p7⟩
            · show (if d = c then m c + 1 else m d) = 0
              rw [if_neg (by omega)]
              exact h5 d hd
            · rw [old 7 d (by omega)]
              exact h6 d hd
            · have hi' : i < if d = c then m c + 1 else m d := hi
              rw [r9, r10, r200, r201]
              by_cases z : d = c
              · subst z
                rw [if_pos rfl] at hi'
                by_cases y : i = m d
                · subst y
                  simp only [if_pos]
                  obtain ⟨p1, p2⟩ := wB_1 z2
                  exact ⟨trivial, lei.mp p1, lei.mp p2, w, w1, w2, rfl, rfl⟩
                · have hne : ¬ 4 * d + i = 4 * d + m d := by omega
                  simp only [if_neg hne]
                  exact h7 d i hd (by omega)
              · rw [if_neg z] at hi'
                have hmd := (h4 d hd).2.2.2.2.2.2
                have hne : ¬ 4 * d + i = 4 * c + m c := by omega
                simp only [if_neg hne]
                exact h7 d i hd hi'
    · refine hfail ⟨?_, ?_⟩
      · rw [hX, if_neg (c := nh ≤ 0) (by omega)]
        split
        · rfl
        · split
          · rfl
          · split <;> rfl
      · rw [hM s (fun _ => rfl) (fun _ => rfl), if_pos (by omega)]
