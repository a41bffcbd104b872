/-! the text of a program, read: the reference -/
def MT (tb : Nat → Nat) (e p : Nat) (s : cS) : Prop := iG s 193 28 = nI p ∧ iG s 193 30 = 0 ∧ iG s 193 29 = nI e ∧ e ≤ 160 ∧ p ≤ e ∧ (∀ i, tb i < 256) ∧ (∀ i, i < e → iG s 194 i &&& 255 = nI (tb i))
def mDg (o k : Nat) : Prop := o = 193 ∧ (k = 28 ∨ k = 30)
def mWr (o k : Nat) : Prop := o = 193 ∧ k = 30
theorem Fw.wd {s t : cS} (h : Fw mWr s t) : Fw mDg s t := h.mo fun _ _ z => ⟨z.1, Or.inr z.2⟩
def mEd (o k : Nat) : Prop := mDg o k ∨ o = 221 ∨ o = 222
theorem Fw.de {s t : cS} (h : Fw mDg s t) : Fw mEd s t := h.mo fun _ _ z => Or.inl z
section
variable {tb : Nat → Nat} {e p : Nat} {s : cS}
theorem MT.here (h : MT tb e p s) : f_X12_here s = some (nI (hq tb e p), s) := by
  obtain ⟨h1, h7, h8, h9, h10, h13, h14⟩ := h
  unfold f_X12_here hq
  rw [h1, h8]
  by_cases c : p < e
  · rw [if_neg (nI_ge c (by omega)), if_pos ((inb_n (by omega)).mpr (by omega)), if_pos c, nI_clamp (by omega), h14 p c]
  · rw [if_pos (nI_le (by omega) (by omega)), if_neg c]
    rfl
theorem MT.dig (h : MT tb e p s) : f_X12_seesDigit s = some (if 48 ≤ cq tb e p ∧ cq tb e p ≤ 57 then 1 else 0, s) := by
  unfold f_X12_seesDigit
  rw [ob_some h.here, lIn_w (a' := 48) (b' := 57) rfl rfl]
  have hb := h.2.2.2.2.2.1 p
  have h31 := hq_31 (e := e) (p := p) h.2.2.2.2.2.1
  unfold wB
  have e1 : (48 : Int32) ≤ nI (hq tb e p) ↔ 48 ≤ hq tb e p := nI_leI (a := 48) (by omega) h31
  have e2 : nI (hq tb e p) ≤ (57 : Int32) ↔ hq tb e p ≤ 57 := nI_leI (b := 57) h31 (by omega)
  have e3 : (48 ≤ hq tb e p ∧ hq tb e p ≤ 57) ↔ (48 ≤ cq tb e p ∧ cq tb e p ≤ 57) := by
    unfold hq cq
    by_cases c : p < e
    · rw [if_pos c, if_pos c]
    · rw [if_neg c, if_neg c]; omega
  by_cases c : 48 ≤ cq tb e p ∧ cq tb e p ≤ 57
  · rw [if_pos c, if_pos ⟨e1.mpr (e3.mpr c).1, e2.mpr (e3.mpr c).2⟩]
  · rw [if_neg c, if_neg fun z => c (e3.mp ⟨e1.mp z.1, e2.mp z.2⟩)]
theorem MT.is (h : MT tb e p s) {c : Nat} (h0 : 0 < c) (h1 : c < 256) : nI (hq tb e p) = nI c ↔ cq tb e p = c := hq_cq h.2.2.2.2.2.1 h0 h1
theorem MT.good (h : MT tb e p s) : ¬ f_X12_isGood s = 0 := by
  unfold f_X12_isGood
  rw [h.2.1, if_pos rfl]
  decide
theorem MT.wr (h : MT tb e p s) (f w : Nat) (hw : w ≤ 200) (h0 : 0 < f) (hf : f ≤ 5) : ∃ s', f_X12_wrongs (nI f) (nI w) s = ((), s') ∧ Mbd f w s' ∧ Fw mWr s s' := by
  unfold f_X12_wrongs
  rw [h.2.1, if_pos (by decide)]
  refine ⟨_, rfl, ⟨by simp [iG_if], ?_⟩, Fw.rf.st ⟨rfl, rfl⟩⟩
  rw [iG_eq, lei]
  have e1 : ((-1000 : Int32) * nI f).toInt = -1000 * (f : Int) := by
    have : ∀ f, f ≤ 5 → ((-1000 : Int32) * nI f).toInt = -1000 * (f : Int) := by decide
    exact this f hf
  rw [subi (by rw [e1, nI_toInt (by omega)]; omega) (by rw [e1, nI_toInt (by omega)]; omega), e1, nI_toInt (by omega)]
  have : (0 : Int32).toInt = 0 := rfl
  omega
theorem MT.adv (h : MT tb e p s) (hp : p < e) : MT tb e (p + 1) (iS s 193 28 (iG s 193 28 + 1)) ∧ Fw mDg s (iS s 193 28 (iG s 193 28 + 1)) := by
  obtain ⟨h1, h7, h8, h9, h10, h13, h14⟩ := h
  exact ⟨⟨by rw [iG_eq, h1, nI_1], h7, h8, h9, hp, h13, h14⟩, Fw.rf.st ⟨rfl, Or.inl rfl⟩⟩
theorem MT.fw {P : Nat → Nat → Prop} {t : cS} (h : MT tb e p s) (hF : Fw P s t) (h1 : ∀ k, 28 ≤ k → k ≤ 30 → ¬ P 193 k) (h2 : ∀ i, ¬ P 194 i) : MT tb e p t := by
  obtain ⟨g1, g2, g3, g4, g5, g6, g7⟩ := h
  exact ⟨(hF.int (h1 28 (by omega) (by omega))).trans g1, (hF.int (h1 30 (by omega) (by omega))).trans g2, (hF.int (h1 29 (by omega) (by omega))).trans g3, g4, g5, g6, fun i hi => by rw [hF.int (h2 i)]; exact g7 i hi⟩
abbrev dgB (m st : Nat) (_ : Nat) (v : Int32 × cS) : Option ((Int32 × cS) ⊕ (Int32 × cS)) := b_X12_digits_7 (nI m) (nI st) v.1 v.2
theorem dgB_bad {m st f w : Nat} {x : Int32} {s : cS} (h : Mbd f w s) : EL (dgB m st) (x, s) (x, s) := by
  refine EL.en (Ev.of fun _ => ?_)
  show b_X12_digits_7 (nI m) (nI st) x s = _
  unfold b_X12_digits_7 j_X12_digits_66
  rw [if_pos h.bad, if_pos h.bad]
  rfl
theorem dg_end {m st v : Nat} {s : cS} (h : MT tb e p s) (hd : ¬ (48 ≤ cq tb e p ∧ cq tb e p ≤ 57)) (hst : p ≠ st) (h0 : st < 200) : EL (dgB m st) (nI v, s) (nI v, s) := by
  refine EL.en (Ev.of fun _ => ?_)
  show b_X12_digits_7 (nI m) (nI st) (nI v) s = _
  have := h.2.2.2.1
  have := h.2.2.2.2.1
  unfold b_X12_digits_7 j_X12_digits_66
  rw [if_neg h.good, ob_some h.dig, if_neg hd, if_pos rfl, if_neg h.good, h.1, if_neg (by rw [nI_eq (by omega) (by omega)]; exact hst)]
  rfl
theorem dg_lp {m st : Nat} (h0 : st < 200) (hm : m < 10) : ∀ (k i p v : Nat) {s : cS}, i + k = m → p = st + i → (i = 0 → 48 ≤ cq tb e p ∧ cq tb e p ≤ 57) → MT tb e p s → match digS tb e k p v with
    | .inl (p', v') => ∃ s', EL (dgB m st) (nI v, s) (nI v', s') ∧ MT tb e p' s' ∧ Fw mDg s s'
    | .inr (f, w) => ∃ s' r, EL (dgB m st) (nI v, s) (r, s') ∧ Mbd f w s' ∧ Fw mDg s s' := by
  intro k
  induction k with
  | zero =>
    intro i p v s hk hp hi h
    have hle := h.2.2.2.1
    have hle' := h.2.2.2.2.1
    unfold digS
    by_cases c : 48 ≤ cq tb e p ∧ cq tb e p ≤ 57
    · rw [if_pos c]
      obtain ⟨s', a1, a2, a3⟩ := h.wr 2 p (by omega) (by decide) (by decide)
      have a1' : f_X12_wrongs 2 (iG s 193 28) s = ((), s') := by rw [h.1]; exact a1
      have hh : f_X12_here s' = some (nI (hq tb e p), s') := by
        refine here_of (s' := s) (a3.int ?_) (a3.int ?_) (fun i => a3.int ?_) h.here
        all_goals (unfold mWr; omega)
      have a4 : iG s' 193 28 = nI p := (a3.int (by unfold mWr; decide)).trans h.1
      refine ⟨iS s' 193 28 (iG s' 193 28 + 1), (10 : Int32) * nI v + nI (hq tb e p) - 48, EL.st (Ev.of fun _ => ?_) (dgB_bad (a2.st (by omega))), a2.st (by omega), a3.wd.st ⟨rfl, Or.inl rfl⟩⟩
      · show b_X12_digits_7 (nI m) (nI st) (nI v) s = _
        unfold b_X12_digits_7 j_X12_digits_40
        rw [if_neg h.good, ob_some h.dig, if_pos c, if_neg (by decide), if_pos (by rw [h.1, nI_add]; congr 1; omega), a1', tb_mk, ob_some hh, sb_mk]
    · rw [if_neg c]
      exact ⟨s, dg_end h c (by rcases Nat.eq_zero_or_pos i with z | z; exact absurd (hi z) c; omega) h0, h, Fw.rf⟩
  | succ k ih =>
    intro i p v s hk hp hi h
    have hle := h.2.2.2.1
    have hle' := h.2.2.2.2.1
    unfold digS
    by_cases c : 48 ≤ cq tb e p ∧ cq tb e p ≤ 57
    · rw [if_pos c]
      have hlt : p < e := cq_lt (tb := tb) (by omega)
      obtain ⟨hT, hF⟩ := h.adv hlt
      have hst : b_X12_digits_7 (nI m) (nI st) (nI v) s = some (.inl (nI (v * 10 + (cq tb e p - 48)), iS s 193 28 (iG s 193 28 + 1))) := by
        unfold b_X12_digits_7 j_X12_digits_40
        have e1 : (10 : Int32) * nI v + nI (hq tb e p) - 48 = nI (v * 10 + (cq tb e p - 48)) := by
          rw [hq_of (by omega)]
          show nI 10 * nI v + nI (cq tb e p) - nI 48 = _
          rw [pk_mul, nI_add, pk_sub (by omega)]
          congr 1
          omega
        rw [if_neg h.good, ob_some h.dig, if_pos c, if_neg (by decide), h.1, nI_add, if_neg (by rw [nI_eq (by omega) (by omega)]; omega), ob_some h.here, sb_mk, e1, h.1]
      have := ih (i + 1) (p + 1) (v * 10 + (cq tb e p - 48)) (by omega) (by omega) (by omega) hT
      cases hx : digS tb e k (p + 1) (v * 10 + (cq tb e p - 48)) with
      | inl q =>
        rw [hx] at this
        obtain ⟨s', b1, b2, b3⟩ := this
        exact ⟨s', EL.st (Ev.of fun _ => hst) b1, b2, hF.tr b3⟩
      | inr q =>
        rw [hx] at this
        obtain ⟨s', r, b1, b2, b3⟩ := this
        exact ⟨s', r, EL.st (Ev.of fun _ => hst) b1, b2, hF.tr b3⟩
    · rw [if_neg c]
      exact ⟨s, dg_end h c (by rcases Nat.eq_zero_or_pos i with z | z; exact absurd (hi z) c; omega) h0, h, Fw.rf⟩
theorem MT.num {m : Nat} (h : MT tb e p s) (hm : m < 10) : match numS tb e m p with
    | .inl (p', v) => ∃ s', Ev (fun N => f_X12_digits N (nI m) s) (nI v, s') ∧ MT tb e p' s' ∧ Fw mDg s s'
    | .inr (f, w) => ∃ s' r, Ev (fun N => f_X12_digits N (nI m) s) (r, s') ∧ Mbd f w s' ∧ Fw mDg s s' := by
  have hle := h.2.2.2.1
  have hle' := h.2.2.2.2.1
  have hN : ∀ N, f_X12_digits N (nI m) s = itr (dgB m p N) N (nI 0, s) := by
    intro N
    unfold f_X12_digits w_X12_digits_7
    rw [h.1]
    rfl
  unfold numS
  by_cases c : 48 ≤ cq tb e p ∧ cq tb e p ≤ 57
  · rw [if_pos c]
    have hI := dg_lp (st := p) (by omega) hm m 0 p 0 (by omega) (by omega) (fun _ => c) h
    cases hx : digS tb e m p 0 with
    | inl y =>
      rw [hx] at hI
      obtain ⟨s', b1, b2, b3⟩ := hI
      exact ⟨s', Ev.cg b1.ev hN, b2, b3⟩
    | inr y =>
      rw [hx] at hI
      obtain ⟨s', r, b1, b2, b3⟩ := hI
      exact ⟨s', r, Ev.cg b1.ev hN, b2, b3⟩
  · rw [if_neg c]
    obtain ⟨s', a1, a2, a3⟩ := h.wr 1 p (by omega) (by decide) (by decide)
    have a1' : f_X12_wrongs 1 (iG s 193 28) s = ((), s') := by rw [h.1]; exact a1
    refine ⟨s', 0, Ev.cg (EL.ev (EL.en (Ev.of fun N => ?_))) hN, a2, a3.wd⟩
    show b_X12_digits_7 (nI m) (nI p) 0 s = _
    unfold b_X12_digits_7 j_X12_digits_66
    rw [if_neg h.good, ob_some h.dig, if_neg c, if_pos rfl, if_neg h.good, if_pos h.1, a1', tb_mk]
    rfl
/-- what was read so far -/
def PB (ps : List (Nat × Nat)) (s : cS) : Prop := ps.length ≤ 8 ∧ pls ps ≤ 2000 ∧ ∀ x y, ps[x]? = some y → iG s 221 x = nI y.1 ∧ iG s 222 x = nI y.2
theorem PB.rd {ps : List (Nat × Nat)} : Rd (fun o _ => o = 221 ∨ o = 222) (PB ps) := by
  intro s t h _ hi
  obtain ⟨h1, h2, h3⟩ := hi
  exact ⟨h1, h2, fun x y z => by rw [h 221 x (by omega), h 222 x (by omega)]; exact h3 x y z⟩
theorem PB.d {ps : List (Nat × Nat)} {s t : cS} (h : PB ps s) (hF : Fw mDg s t) : PB ps t := PB.rd.fw hF h fun o k z => by unfold mDg; omega
theorem PB.app {ps : List (Nat × Nat)} {s : cS} {a t : Nat} (h : PB ps s) (hn : ps.length < 8) (ht : pls ps + t ≤ 2000) (e1 : iG s 221 ps.length = nI a) (e2 : iG s 222 ps.length = nI t) : PB (ps ++ [(a, t)]) s := by
  obtain ⟨h1, h2, h3⟩ := h
  refine ⟨by simp; omega, ?_, fun x y hy => ?_⟩
  · rw [pls_app]; show pls ps + (t + 0) ≤ 2000; omega
  · rw [List.getElem?_append] at hy
    by_cases hx : x < ps.length
    · rw [if_pos hx] at hy
      exact h3 x y hy
    · rw [if_neg hx] at hy
      have h0 : x - ps.length = 0 := by
        rcases Nat.eq_zero_or_pos (x - ps.length) with z | z
        · exact z
        · rw [List.getElem?_eq_none (by simp; omega)] at hy
          cases hy
      rw [h0] at hy
      cases hy
      rw [show x = ps.length by omega]
      exact ⟨e1, e2⟩
theorem mp120X {f w : Nat} {n : Nat} (hn : n < 8) (x2 x4 : Int32) {s : cS} (h : Mbd f w s) : ∃ s', j_X12_part_120 (nI n) x2 x4 s = some (x2 + x4, s') ∧ Mbd f w s' ∧ Fw mEd s s' := by
  unfold j_X12_part_120
  rw [if_pos ((inb_n (by omega)).mpr hn), nI_clamp (by omega), sb_mk]
  exact ⟨_, rfl, h.st (by omega), Fw.rf.st (Or.inr (Or.inr rfl))⟩
theorem mp92X {f w : Nat} {n : Nat} (hn : n < 8) (x2 x3 x4 : Int32) {s : cS} (h : Mbd f w s) : ∃ s', j_X12_part_92 (nI n) x2 x3 x4 s = some (x2 + x4, s') ∧ Mbd f w s' ∧ Fw mEd s s' := by
  obtain ⟨s', a, b, c⟩ := mp120X hn x2 x4 h
  refine ⟨s', ?_, b, c⟩
  unfold j_X12_part_92
  rw [if_pos h.bad, a]
/-- a part's end -/
theorem mp92_ok {ps : List (Nat × Nat)} {s : cS} {x3 a t : Nat} (h : MT tb e p s) (hP : PB ps s) (hn : ps.length < 8) (ha : iG s 221 ps.length = nI a) (ht : t < 10000) (hx : x3 ≤ 200) : (¬ (t = 0 ∨ 2000 < pls ps + t) → ∃ s', j_X12_part_92 (nI ps.length) (nI (pls ps)) (nI x3) (nI t) s = some (nI (pls ps + t), s') ∧ MT tb e p s' ∧ PB (ps ++ [(a, t)]) s' ∧ Fw mEd s s') ∧ ((t = 0 ∨ 2000 < pls ps + t) → ∃ s' r, j_X12_part_92 (nI ps.length) (nI (pls ps)) (nI x3) (nI t) s = some (r, s') ∧ Mbd 3 x3 s' ∧ Fw mEd s s') := by
  have hp2 := hP.2.1
  have z0 : nI t = (0 : Int32) ↔ t = 0 := nI_eq (b := 0) (by omega) (by decide)
  have zp : nI (pls ps) + nI t ≤ (2000 : Int32) ↔ ¬ 2000 < pls ps + t := by
    rw [nI_add]
    have : nI (pls ps + t) ≤ (2000 : Int32) ↔ pls ps + t ≤ 2000 := nI_leI (b := 2000) (by omega) (by decide)
    rw [this]; omega
  constructor
  · intro hz
    have hF : Fw mEd s (iS s 222 ps.length (nI t)) := Fw.rf.st (Or.inr (Or.inr rfl))
    refine ⟨iS s 222 ps.length (nI t), ?_, h.fw (P := fun o _ => o = 222) (Fw.rf.st rfl) (fun k _ _ => by omega) (fun i => by omega), ?_, hF⟩
    · unfold j_X12_part_92 j_X12_part_120
      rw [if_neg h.good, if_neg (fun w => hz (Or.inl (z0.mp w))), if_pos (zp.mpr fun w => hz (Or.inr w)), if_pos ((inb_n (by omega)).mpr hn), nI_clamp (by omega), sb_mk, nI_add]
    · refine PB.app (s := iS s 222 ps.length (nI t)) ?_ hn (by omega) ha (by rw [iG_eq])
      obtain ⟨h1, h2, h3⟩ := hP
      refine ⟨h1, h2, fun x y hy => ⟨(h3 x y hy).1, ?_⟩⟩
      have hx : x < ps.length := by
        rcases Nat.lt_or_ge x ps.length with z | z
        · exact z
        · rw [List.getElem?_eq_none z] at hy; cases hy
      rw [iG_nk (by omega)]
      exact (h3 x y hy).2
  · intro hz
    obtain ⟨s1, a1, a2, a3⟩ := h.wr 3 x3 hx (by decide) (by decide)
    have a1' : f_X12_wrongs 3 (nI x3) s = ((), s1) := a1
    obtain ⟨s', q1, q2, q3⟩ := mp120X hn (nI (pls ps)) (nI t) a2
    have h114 : j_X12_part_114 (nI ps.length) (nI (pls ps)) (nI x3) (nI t) s = some (nI (pls ps) + nI t, s') := by
      unfold j_X12_part_114
      rw [a1', tb_mk, q1]
    refine ⟨s', nI (pls ps) + nI t, ?_, q2, a3.wd.de.tr q3⟩
    unfold j_X12_part_92
    rw [if_neg h.good]
    by_cases w : t = 0
    · rw [if_pos (z0.mpr w), h114]
    · rw [if_neg (fun v => w (z0.mp v)), if_neg (fun v => zp.mp v (hz.resolve_left w)), h114]
end
