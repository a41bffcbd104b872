/-! the class's tape, as it is read -/
def TR (tb : Nat → Nat) (e p : Nat) (s : cS) : Prop := iG s 1 3 = nI p ∧ iG s 1 2 = nI e ∧ iG s 1 4 = 0 ∧ e ≤ 200 ∧ p ≤ e ∧ (∀ i, tb i < 256) ∧ (∀ i, i < e → iG s 2 i = nI (tb i))
def TBd (f w : Nat) (s : cS) : Prop := iG s 1 4 = nI f ∧ iG s 1 5 = nI w ∧ 0 < f ∧ f ≤ 5
def xT (o k : Nat) : Prop := o = 1 ∧ 3 ≤ k ∧ k ≤ 5
section
variable {tb : Nat → Nat} {e p : Nat} {s : cS}
theorem TR.sg (h : TR tb e p s) : sgn s = if p < e then nI (tb p) else -1 := by
  obtain ⟨h1, h2, h3, h4, h5, h6, h7⟩ := h
  unfold sgn
  rw [h1, h2, h3]
  by_cases c : p < e
  · rw [if_pos c, if_pos ⟨rfl, (inb_n (by omega)).mpr (by omega), (nI_ltI (by omega) (by omega)).mpr c⟩, nI_clamp (by omega), h7 p c]
  · rw [if_neg c, if_neg]
    rintro ⟨-, -, z⟩
    exact c ((nI_ltI (by omega) (by omega)).mp z)
theorem m1_ne {c : Nat} (h : c < 2 ^ 31) : ¬ (-1 : Int32) = nI c := by
  intro z
  have := congrArg Int32.toInt z
  rw [nI_toInt h] at this
  have h1 : (-1 : Int32).toInt = -1 := rfl
  omega
theorem TR.is (h : TR tb e p s) {c : Nat} (hc : c < 256) : sgn s = nI c ↔ cq tb e p = c := by
  rw [h.sg]
  obtain ⟨h1, h2, h3, h4, h5, h6, h7⟩ := h
  have := h6 p
  unfold cq
  by_cases c' : p < e
  · rw [if_pos c', if_pos c', nI_eq (by omega) (by omega)]
  · rw [if_neg c', if_neg c']
    constructor
    · intro z; exact absurd z (m1_ne (by omega))
    · intro z; omega
theorem TR.eq (h : TR tb e p s) (hc : cq tb e p < 256) : sgn s = nI (cq tb e p) := (h.is hc).mpr rfl
theorem TBd.sg {f w : Nat} (h : TBd f w s) : sgn s = -1 := by
  unfold sgn
  rw [if_neg]
  rintro ⟨z, -⟩
  rw [h.1] at z
  exact nI_ne0 h.2.2.1 (by have := h.2.2.2; omega) z
theorem TBd.fail {f w : Nat} (h : TBd f w s) (a b : Int32) : f_X9_fail a b s = ((), s) := by
  unfold f_X9_fail
  rw [h.1, if_neg (nI_ne0 h.2.2.1 (by have := h.2.2.2; omega))]
theorem TBd.pass {f w : Nat} (h : TBd f w s) {c : Nat} (hc : c < 2 ^ 31) : f_X9_pass (nI c) s = ((), s) := by
  unfold f_X9_pass
  rw [h.sg, if_neg (m1_ne hc), h.fail, tb_mk]
theorem TBd.sound {f w : Nat} (h : TBd f w s) : f_X9_sound s = 0 := by
  unfold f_X9_sound
  rw [h.1, if_neg (nI_ne0 h.2.2.1 (by have := h.2.2.2; omega))]
theorem TBd.atEnd {f w : Nat} (h : TBd f w s) : f_X9_atEnd s = 0 := by
  unfold f_X9_atEnd
  rw [h.1, if_neg (nI_ne0 h.2.2.1 (by have := h.2.2.2; omega))]
theorem TBd.fw {f w : Nat} {P : Nat → Nat → Prop} {t : cS} (h : TBd f w s) (hF : Fw P s t) (h4 : ¬ P 1 4) (h5 : ¬ P 1 5) : TBd f w t := by
  unfold TBd
  rw [hF.int h4, hF.int h5]
  exact h
theorem TR.sound (h : TR tb e p s) : f_X9_sound s = 1 := by
  unfold f_X9_sound
  rw [h.2.2.1, if_pos rfl]
theorem TR.atEnd (h : TR tb e p s) : f_X9_atEnd s = if e ≤ p then 1 else 0 := by
  obtain ⟨h1, h2, h3, h4, h5, h6, h7⟩ := h
  unfold f_X9_atEnd
  rw [h3, if_pos rfl, h1, h2]
  by_cases c : e ≤ p
  · rw [if_pos c, if_neg (nI_nlt c (by omega))]
  · rw [if_neg c, if_pos (nI_lt (by omega) (by omega))]
theorem TR.fw {P : Nat → Nat → Prop} {t : cS} (h : TR tb e p s) (hF : Fw P s t) (h1 : ∀ k, 2 ≤ k → k ≤ 4 → ¬ P 1 k) (h2 : ∀ i, i < 200 → ¬ P 2 i) : TR tb e p t := by
  obtain ⟨g1, g2, g3, g4, g5, g6, g7⟩ := h
  exact ⟨(hF.int (h1 3 (by omega) (by omega))).trans g1, (hF.int (h1 2 (by omega) (by omega))).trans g2, (hF.int (h1 4 (by omega) (by omega))).trans g3, g4, g5, g6, fun i hi => (hF.int (h2 i (by omega))).trans (g7 i hi)⟩
theorem TR.pass (h : TR tb e p s) {c : Nat} (hc : cq tb e p = c) (h1 : c < 256) : ∃ s', f_X9_pass (nI c) s = ((), s') ∧ TR tb e (p + 1) s' ∧ Fw xT s s' := by
  have hlt : p < e := cq_lt (tb := tb) (by omega)
  have hs : sgn s = nI c := (h.is h1).mpr hc
  unfold f_X9_pass
  rw [hs, if_pos rfl, sb_mk]
  obtain ⟨g1, g2, g3, g4, g5, g6, g7⟩ := h
  refine ⟨_, rfl, ⟨by rw [iG_eq, g1, nI_1], g2, g3, g4, hlt, g6, g7⟩, Fw.rf.st ⟨rfl, by decide, by decide⟩⟩
theorem TR.fail (h : TR tb e p s) (f w : Nat) (h0 : 0 < f) (h1 : f ≤ 5) : ∃ s', f_X9_fail (nI f) (nI w) s = ((), s') ∧ TBd f w s' ∧ Fw xT s s' := by
  unfold f_X9_fail
  rw [h.2.2.1, if_pos rfl, sb_mk, sb_mk]
  exact ⟨_, rfl, ⟨rfl, rfl, h0, h1⟩, (Fw.rf.st ⟨rfl, by decide, by decide⟩).st ⟨rfl, by decide, by decide⟩⟩
theorem TR.failp (h : TR tb e p s) (f : Nat) (h0 : 0 < f) (h1 : f ≤ 5) : ∃ s', f_X9_fail (nI f) (iG s 1 3) s = ((), s') ∧ TBd f p s' ∧ Fw xT s s' := by
  rw [h.1]
  exact h.fail f p h0 h1
theorem TR.npass (h : TR tb e p s) {c : Nat} (hc : cq tb e p ≠ c) (h1 : c < 256) : ∃ s', f_X9_pass (nI c) s = ((), s') ∧ TBd 1 p s' ∧ Fw xT s s' := by
  obtain ⟨s', a1, a2, a3⟩ := h.failp 1 (by decide) (by decide)
  refine ⟨s', ?_, a2, a3⟩
  unfold f_X9_pass
  have a1' : f_X9_fail 1 (iG s 1 3) s = ((), s') := a1
  rw [if_neg (fun z => hc ((h.is h1).mp z)), a1', tb_mk]
theorem TR.dig (h : TR tb e p s) : f_X9_onDigit s = if 48 ≤ cq tb e p ∧ cq tb e p ≤ 57 then 1 else 0 := by
  have hs := h.sg
  have hb := h.2.2.2.2.2.1 p
  unfold f_X9_onDigit
  rw [hs]
  unfold cq
  by_cases c : p < e
  · rw [if_pos c, if_pos c]
    have e1 : nI (tb p) < (48 : Int32) ↔ tb p < 48 := nI_ltI (b := 48) (by omega) (by omega)
    have e2 : (57 : Int32) < nI (tb p) ↔ 57 < tb p := nI_ltI (a := 57) (by omega) (by omega)
    by_cases c1 : tb p < 48
    · rw [if_pos (e1.mpr c1), if_neg (by omega)]
    · rw [if_neg (fun z => c1 (e1.mp z))]
      by_cases c2 : 57 < tb p
      · rw [if_pos (e2.mpr c2), if_neg (by omega)]
      · rw [if_neg (fun z => c2 (e2.mp z)), if_pos (by omega)]
  · rw [if_neg c, if_neg c, if_pos (by decide), if_neg (by omega)]
theorem TBd.dig {f w : Nat} (h : TBd f w s) : f_X9_onDigit s = 0 := by
  unfold f_X9_onDigit
  rw [h.sg, if_pos (by decide)]
/-! a number -/
abbrev nB (m : Nat) (_ : Nat) (v : (Int32 × Int32) × cS) : Option (((Int32 × Int32) × cS) ⊕ (Int32 × cS)) := b_X9_number_20 (nI m) v.1.1 v.1.2 v.2
theorem nB_bad {m f w : Nat} {x y : Int32} {s : cS} (h : TBd f w s) : EL (nB m) ((x, y), s) (x, s) := by
  refine EL.en (Ev.of fun _ => ?_)
  show b_X9_number_20 (nI m) x y s = _
  unfold b_X9_number_20
  by_cases c : nI m < y
  · rw [if_pos c]; rfl
  · rw [if_neg c, h.dig, if_pos rfl]; rfl
theorem nB_lp {m : Nat} (hm : m < 100) : ∀ (k i p v : Nat) {s : cS}, i + k = m → TR tb e p s → match digS tb e k p v with
    | .inl (p', v') => ∃ s', EL (nB m) ((nI v, nI i), s) (nI v', s') ∧ TR tb e p' s' ∧ Fw xT s s'
    | .inr (f, w) => ∃ s' r, EL (nB m) ((nI v, nI i), s) (r, s') ∧ TBd f w s' ∧ Fw xT s s' := by
  intro k
  induction k with
  | zero =>
    intro i p v s hk h
    unfold digS
    by_cases c : 48 ≤ cq tb e p ∧ cq tb e p ≤ 57
    · rw [if_pos c]
      obtain ⟨s', a1, a2, a3⟩ := h.failp 2 (by decide) (by decide)
      have a1' : f_X9_fail 2 (iG s 1 3) s = ((), s') := a1
      refine ⟨s', nI v, EL.st (v' := ((nI v, nI (i + 1)), s')) (Ev.of fun _ => ?_) (nB_bad a2), a2, a3⟩
      show b_X9_number_20 (nI m) (nI v) (nI i) s = _
      unfold b_X9_number_20 j_X9_number_72
      rw [if_neg (nI_nlt (by omega) (by omega)), h.dig, if_pos c, if_neg (by decide), if_pos (by rw [show i = m by omega]), a1', tb_mk, nI_1]
    · rw [if_neg c]
      refine ⟨s, EL.en (Ev.of fun _ => ?_), h, Fw.rf⟩
      show b_X9_number_20 (nI m) (nI v) (nI i) s = _
      unfold b_X9_number_20
      rw [if_neg (nI_nlt (by omega) (by omega)), h.dig, if_neg c, if_pos rfl]
      rfl
  | succ k ih =>
    intro i p v s hk h
    unfold digS
    by_cases c : 48 ≤ cq tb e p ∧ cq tb e p ≤ 57
    · rw [if_pos c]
      have hlt : p < e := cq_lt (tb := tb) (by omega)
      have hh := h
      obtain ⟨g1, g2, g3, g4, g5, g6, g7⟩ := h
      have hT : TR tb e (p + 1) (iS s 1 3 (nI (p + 1))) := ⟨rfl, g2, g3, g4, hlt, g6, g7⟩
      have hF : Fw xT s (iS s 1 3 (nI (p + 1))) := Fw.rf.st ⟨rfl, by decide, by decide⟩
      have hsg : sgn (iS s 1 3 (nI (p + 1))) = sgn (iS s 1 3 (nI (p + 1))) := rfl
      have hst : b_X9_number_20 (nI m) (nI v) (nI i) s = some (.inl ((nI (v * 10 + (cq tb e p - 48)), nI (i + 1)), iS s 1 3 (nI (p + 1)))) := by
        unfold b_X9_number_20 j_X9_number_72
        have e1 : nI v * (10 : Int32) + sgn s - 48 = nI (v * 10 + (cq tb e p - 48)) := by
          rw [hh.eq (by omega)]
          show nI v * nI 10 + nI (cq tb e p) - nI 48 = _
          rw [pk_mul, nI_add, pk_sub (by omega)]
          congr 1
          omega
        rw [if_neg (nI_nlt (by omega) (by omega)), hh.dig, if_pos c, if_neg (by decide), if_neg (by rw [nI_eq (by omega) (by omega)]; omega), sb_mk, g1, nI_1, e1, nI_1]
      have := ih (i + 1) (p + 1) (v * 10 + (cq tb e p - 48)) (by omega) hT
      cases hx : digS tb e k (p + 1) (v * 10 + (cq tb e p - 48)) with
      | inl q =>
        rw [hx] at this
        obtain ⟨s', b1, b2, b3⟩ := this
        exact ⟨s', EL.st (Ev.of fun _ => hst) b1, b2, hF.tr b3⟩
      | inr q =>
        rw [hx] at this
        obtain ⟨s', r, b1, b2, b3⟩ := this
        exact ⟨s', r, EL.st (Ev.of fun _ => hst) b1, b2, hF.tr b3⟩
    · rw [if_neg c]
      refine ⟨s, EL.en (Ev.of fun _ => ?_), h, Fw.rf⟩
      show b_X9_number_20 (nI m) (nI v) (nI i) s = _
      unfold b_X9_number_20
      rw [if_neg (nI_nlt (by omega) (by omega)), h.dig, if_neg c, if_pos rfl]
      rfl
theorem TR.num (h : TR tb e p s) {m : Nat} (hm : m < 100) : match numS tb e m p with
    | .inl (p', v) => ∃ s', Ev (fun N => f_X9_number N (nI m) s) (nI v, s') ∧ TR tb e p' s' ∧ Fw xT s s'
    | .inr (f, w) => ∃ s' r, Ev (fun N => f_X9_number N (nI m) s) (r, s') ∧ TBd f w s' ∧ Fw xT s s' := by
  unfold numS
  by_cases c : 48 ≤ cq tb e p ∧ cq tb e p ≤ 57
  · rw [if_pos c]
    have hI := nB_lp hm m 0 p 0 (by omega) h
    have hN : ∀ N, f_X9_number N (nI m) s = itr (nB m N) N ((nI 0, nI 0), s) := by
      intro N
      unfold f_X9_number j_X9_number_16
      rw [h.dig, if_pos c, if_neg (by decide)]
      rfl
    cases hx : digS tb e m p 0 with
    | inl y =>
      rw [hx] at hI
      obtain ⟨s', b1, b2, b3⟩ := hI
      exact ⟨s', Ev.cg b1.ev hN, b2, b3⟩
    | inr y =>
      rw [hx] at hI
      obtain ⟨s', r, b1, b2, b3⟩ := hI
      exact ⟨s', r, Ev.cg b1.ev hN, b2, b3⟩
  · rw [if_neg c]
    obtain ⟨s', a1, a2, a3⟩ := h.failp 1 (by decide) (by decide)
    have a1' : f_X9_fail 1 (iG s 1 3) s = ((), s') := a1
    refine ⟨s', 0, Ev.cg (nB_bad (m := m) (x := 0) (y := 0) a2).ev (fun N => ?_), a2, a3⟩
    unfold f_X9_number j_X9_number_16
    rw [h.dig, if_neg c, if_pos rfl, a1', tb_mk]
    rfl
theorem TBd.num {f w : Nat} (h : TBd f w s) (m : Nat) : Ev (fun N => f_X9_number N (nI m) s) (0, s) := by
  refine Ev.cg (nB_bad (m := m) (x := 0) (y := 0) h).ev (fun N => ?_)
  unfold f_X9_number j_X9_number_16
  rw [h.dig, if_pos rfl, h.fail, tb_mk]
  rfl
end
/-! which letter -/
def ixF (x : Int32) : Nat → Int32
  | 0 => -1
  | k + 1 => if ((strB.getD 0 []).getD (10 - (k + 1)) 0) = x then nI (10 - (k + 1)) else ixF x k
theorem ix_lp (x : Int32) (s : cS) : ∀ k, k ≤ 10 → EL (fun _ (v : Int32 × cS) => b_J1_indexOfChar_4cfef_7 10 x v.1 v.2) (nI (10 - k), s) (ixF x k, s) := by
  intro k
  induction k with
  | zero =>
    intro _
    refine EL.en (Ev.of fun _ => ?_)
    show b_J1_indexOfChar_4cfef_7 10 x (nI 10) s = _
    unfold b_J1_indexOfChar_4cfef_7
    rw [if_pos (by decide)]
    rfl
  | succ k ih =>
    intro hk
    have e1 : 10 - (k + 1) + 1 = 10 - k := by omega
    unfold ixF
    by_cases c : ((strB.getD 0 []).getD (10 - (k + 1)) 0) = x
    · rw [if_pos c]
      refine EL.en (Ev.of fun _ => ?_)
      show b_J1_indexOfChar_4cfef_7 10 x (nI (10 - (k + 1))) s = _
      unfold b_J1_indexOfChar_4cfef_7
      rw [if_neg (c := (10 : Int32) ≤ nI (10 - (k + 1))) (nI_ge (b := 10) (by omega) (by omega)), if_pos ((inb_n (by omega)).mpr (by omega)), nI_clamp (by omega), if_pos c]
      rfl
    · rw [if_neg c]
      refine EL.st (v' := (nI (10 - k), s)) (Ev.of fun _ => ?_) (ih (by omega))
      show b_J1_indexOfChar_4cfef_7 10 x (nI (10 - (k + 1))) s = _
      unfold b_J1_indexOfChar_4cfef_7
      rw [if_neg (c := (10 : Int32) ≤ nI (10 - (k + 1))) (nI_ge (b := 10) (by omega) (by omega)), if_pos ((inb_n (by omega)).mpr (by omega)), nI_clamp (by omega), if_neg c, nI_1, e1]
theorem ix_val : ∀ c, c < 256 → ((c ∉ lets ∧ ixF (nI c).toInt8.toInt32 10 = -1) ∨ (∃ j, j < 10 ∧ lets.getD j 0 = c ∧ ixF (nI c).toInt8.toInt32 10 = nI j)) ∧ ((nI c).toUInt32 % 65536).toInt32 = nI c := by decide +kernel
theorem ix_f {c : Nat} (hc : c < 256) (s : cS) : Ev (fun N => f_J0_indexOf_0f7a4 N (((nI c).toUInt32 % 65536).toInt32) s) (ixF (nI c).toInt8.toInt32 10, s) := by
  rw [(ix_val c hc).2]
  refine Ev.cg (ix_lp (nI c).toInt8.toInt32 s 10 (by omega)).ev (fun N => ?_)
  unfold f_J0_indexOf_0f7a4 f_J0_indexOf_7cf53 f_J1_indexOf_4cfef f_J0_isLatin1_aae02 f_J1_canEncode_9a6ad f_J1_indexOfChar_4cfef w_J1_indexOfChar_4cfef_7 f_J0_length_8abf5 f_J0_coder_7d493
  rw [if_neg (by decide), if_neg (c := nI c < 0) (nI_pos (by omega)), if_neg (c := (255 : Int32) < nI c) (nI_nlt (a := 255) (b := c) (by omega) (by omega)), if_neg (by decide)]
  have e1 : (if (10 : Int32) < (10 : Int32) >>> ((0 : Int32) &&& 31) then (10 : Int32) else (10 : Int32) >>> ((0 : Int32) &&& 31)) = 10 := by decide
  have e2 : (if (0 : Int32) < (0 : Int32) then (0 : Int32) else 0) = 0 := by decide
  rw [e1, e2, if_pos (by decide)]
  show ob (ob (ob (itr _ N ((0 : Int32), s)) _) _) _ = itr _ N (nI (10 - 10), s)
  rw [show (nI (10 - 10)) = (0 : Int32) from rfl]
  cases itr (fun (v : Int32 × cS) => b_J1_indexOfChar_4cfef_7 10 (nI c).toInt8.toInt32 v.1 v.2) N (0, s) with
  | none => rfl
  | some y => rfl
