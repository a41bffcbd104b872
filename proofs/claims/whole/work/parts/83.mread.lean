/-! the reference's reader: its state, its small steps -/
/-- the sign that the reference sees -/
def hq (tb : Nat → Nat) (e p : Nat) : Nat := if p < e then tb p else 0
theorem hq_cq {tb : Nat → Nat} {e p c : Nat} (hb : ∀ i, tb i < 256) (h0 : 0 < c) (h1 : c < 256) : nI (hq tb e p) = nI c ↔ cq tb e p = c := by
  unfold hq cq
  have := hb p
  by_cases h : p < e
  · rw [if_pos h, if_pos h, nI_eq (by omega) (by omega)]
  · rw [if_neg h, if_neg h, nI_eq (by omega) (by omega)]
    omega
theorem cq_lt {tb : Nat → Nat} {e p : Nat} (h : cq tb e p < 256) : p < e := by
  unfold cq at h
  by_cases c : p < e
  · exact c
  · rw [if_neg c] at h; omega
theorem hq_of {tb : Nat → Nat} {e p : Nat} (h : cq tb e p < 256) : hq tb e p = cq tb e p := by
  have := cq_lt h
  unfold hq cq
  rw [if_pos this, if_pos this]
theorem hq_31 {tb : Nat → Nat} {e p : Nat} (hb : ∀ i, tb i < 256) : hq tb e p < 2 ^ 31 := by
  unfold hq
  have := hb p
  split <;> omega
/-- the codes that were written -/
def cdR (C : Cd) (s : cS) : Prop := ∀ i x, C[i]? = some x → iG s 212 i = nI x.1 ∧ iG s 213 i = nI x.2
/-- the stack, its top first -/
def stR : List Nat → (Nat → Int32) → Prop
  | [], _ => True
  | c :: σ, r => r σ.length = nI c ∧ stR σ r
theorem stR_fr {r r' : Nat → Int32} : ∀ {σ : List Nat}, stR σ r → (∀ i, i < σ.length → r' i = r i) → stR σ r'
  | [], _, _ => trivial
  | c :: σ, h, e => ⟨(e _ (by simp)).trans h.1, stR_fr h.2 fun i hi => e i (by simp; omega)⟩
/-- what reading leaves: the place, what is open, the stack, the codes -/
def MR (tb : Nat → Nat) (e : Nat) (p d : Nat) (σ : List Nat) (C : Cd) (s : cS) : Prop :=
  iG s 193 28 = nI p ∧ iG s 193 33 = nI d ∧ iG s 193 34 = nI σ.length ∧ stR σ (fun i => iG s 214 i) ∧ iG s 193 32 = nI C.length ∧ cdR C s ∧ iG s 193 30 = 0 ∧ iG s 193 29 = nI e ∧ e ≤ 160 ∧ p ≤ e ∧ C.length + σ.length ≤ p ∧ d ≤ 6 ∧ (∀ i, tb i < 256) ∧ (∀ i, i < e → iG s 194 i &&& 255 = nI (tb i)) ∧ (∀ c ∈ σ, 0 < c ∧ c < 256)
/-- a fault was told -/
def Mbd (f w : Nat) (s : cS) : Prop := iG s 193 30 = -1000 * nI f - nI w ∧ ¬ 0 ≤ iG s 193 30
def mP (o k : Nat) : Prop := (o = 193 ∧ (k = 28 ∨ k = 30 ∨ (32 ≤ k ∧ k ≤ 34))) ∨ o = 212 ∨ o = 213 ∨ o = 214
def mQ (o k : Nat) : Prop := mP o k ∨ (o = 193 ∧ k = 36)
theorem Fw.q {s t : cS} (h : Fw mP s t) : Fw mQ s t := h.mo fun _ _ z => Or.inl z
theorem Mbd.st {f w : Nat} {s : cS} {o k : Nat} {v : Int32} (h : Mbd f w s) (hk : o ≠ 193 ∨ k ≠ 30) : Mbd f w (iS s o k v) := by
  have e : iG (iS s o k v) 193 30 = iG s 193 30 := by
    rw [iG_if]
    by_cases e1 : 193 = o
    · by_cases e2 : 30 = k
      · omega
      · rw [if_pos e1, if_neg e2]
    · rw [if_neg e1]
  unfold Mbd
  rw [e]
  exact h
section
variable {tb : Nat → Nat} {e p d : Nat} {σ : List Nat} {C : Cd} {s : cS}
theorem MR.here (h : MR tb e p d σ C s) : f_X12_here s = some (nI (hq tb e p), s) := by
  obtain ⟨h1, h2, h3, h4, h5, h6, h7, h8, h9, h10, h11, h12, h13, h14, h15⟩ := h
  unfold f_X12_here hq
  rw [h1, h8]
  by_cases c : p < e
  · rw [if_neg (nI_ge c (by omega)), if_pos ((inb_n (by omega)).mpr (by omega)), if_pos c, nI_clamp (by omega), h14 p c]
  · rw [if_pos (nI_le (by omega) (by omega)), if_neg c]
    rfl
theorem MR.bt (h : MR tb e p d σ C s) : ∀ i, tb i < 256 := h.2.2.2.2.2.2.2.2.2.2.2.2.1
theorem MR.le (h : MR tb e p d σ C s) : p ≤ e ∧ e ≤ 160 := ⟨h.2.2.2.2.2.2.2.2.2.1, h.2.2.2.2.2.2.2.2.1⟩
theorem MR.ln (h : MR tb e p d σ C s) : C.length + σ.length ≤ p := h.2.2.2.2.2.2.2.2.2.2.1
theorem MR.dp (h : MR tb e p d σ C s) : d ≤ 6 := h.2.2.2.2.2.2.2.2.2.2.2.1
theorem MR.is (h : MR tb e p d σ C s) {c : Nat} (h0 : 0 < c) (h1 : c < 256) : nI (hq tb e p) = nI c ↔ cq tb e p = c := hq_cq h.bt h0 h1
theorem MR.dig (h : MR tb e p d σ C s) : f_X12_seesDigit s = some (if 48 ≤ cq tb e p ∧ cq tb e p ≤ 57 then 1 else 0, s) := by
  unfold f_X12_seesDigit
  rw [ob_some h.here, lIn_w (a' := 48) (b' := 57) rfl rfl]
  have hb := h.bt p
  have h31 := hq_31 (e := e) (p := p) h.bt
  unfold wB
  have e1 : (48 : Int32) ≤ nI (hq tb e p) ↔ 48 ≤ hq tb e p := nI_leI (a := 48) (by omega) h31
  have e2 : nI (hq tb e p) ≤ (57 : Int32) ↔ hq tb e p ≤ 57 := nI_leI (b := 57) h31 (by omega)
  have e3 : (48 ≤ hq tb e p ∧ hq tb e p ≤ 57) ↔ (48 ≤ cq tb e p ∧ cq tb e p ≤ 57) := by
    unfold hq cq
    by_cases c : p < e
    · rw [if_pos c, if_pos c]
    · rw [if_neg c, if_neg c]; omega
  by_cases c : 48 ≤ cq tb e p ∧ cq tb e p ≤ 57
  · rw [if_pos c, if_pos ⟨e1.mpr (e3.mpr c).1, e2.mpr (e3.mpr c).2⟩]
  · rw [if_neg c, if_neg (fun z => c (e3.mp ⟨e1.mp z.1, e2.mp z.2⟩))]
theorem MR.good (h : MR tb e p d σ C s) : f_X12_isGood s = 1 := by
  unfold f_X12_isGood
  rw [if_pos h.2.2.2.2.2.2.1]
theorem MR.ng (h : MR tb e p d σ C s) : ¬ f_X12_isGood s = 0 := by rw [h.good]; decide
theorem Mbd.bad {f w : Nat} (h : Mbd f w s) : f_X12_isGood s = 0 := by
  unfold f_X12_isGood
  rw [if_neg]
  intro z
  exact h.2 (by rw [z]; decide)
theorem MR.top (h : MR tb e p d σ C s) : f_X12_top s = some (nI (σ.headD 0), s) := by
  have hln := h.ln
  have hle := h.le
  obtain ⟨h1, h2, h3, h4, h5, h6, h7, h8, h9, h10, h11, h12, h13, h14, h15⟩ := h
  unfold f_X12_top
  rw [h3]
  cases σ with
  | nil => rw [if_pos (by decide)]; rfl
  | cons c σ =>
    have e1 : nI (c :: σ).length - 1 = nI σ.length := nI_pred _
    have hl : (c :: σ).length = σ.length + 1 := rfl
    rw [if_neg (nI_nle (by omega) (by omega)), e1, if_pos ((inb_n (by omega)).mpr (by omega)), nI_clamp (by omega)]
    show some (iG s 214 σ.length, s) = some (nI c, s)
    rw [show iG s 214 σ.length = nI c from h4.1]
theorem MR.hd (h : MR tb e p d σ C s) : σ.headD 0 < 256 := by
  cases σ with
  | nil => show 0 < 256; omega
  | cons c σ => exact (h.2.2.2.2.2.2.2.2.2.2.2.2.2.2 c (List.mem_cons_self)).2
/-- one more code, which the place has gone by -/
theorem MR.emit0 (h : MR tb e p d σ C s) (hc : C.length < 160) (c a : Nat) : ∃ s', f_X12_emit (nI c) (nI a) s = some ((), s') ∧ (∀ p' σ', iG s' 193 28 = nI p → stR σ' (fun i => iG s 214 i) → p ≤ p' → p' ≤ e → (C.length + 1) + σ'.length ≤ p' → (∀ c ∈ σ', 0 < c ∧ c < 256) → ∀ d', d' ≤ 6 → ∀ t, iG t 193 28 = nI p' → iG t 193 34 = nI σ'.length → iG t 193 33 = nI d' → (∀ o k, ¬ (o = 193 ∧ (k = 28 ∨ k = 33 ∨ k = 34)) → iG t o k = iG s' o k) → MR tb e p' d' σ' (C ++ [(c, a)]) t) ∧ iG s' 193 28 = nI p ∧ iG s' 193 33 = nI d ∧ iG s' 193 34 = nI σ.length ∧ Fw mP s s' := by
  have hg := h.good
  obtain ⟨h1, h2, h3, h4, h5, h6, h7, h8, h9, h10, h11, h12, h13, h14, h15⟩ := h
  unfold f_X12_emit
  rw [hg, if_neg (by decide), h5, if_pos ((inb_n (by omega)).mpr (by omega)), nI_clamp (by omega)]
  dsimp only [sb]
  have e1 : iG (iS s 212 C.length (nI c)) 193 32 = nI C.length := h5
  rw [e1, if_pos ((inb_n (by omega)).mpr (by omega)), nI_clamp (by omega)]
  have e2 : iG (iS (iS s 212 C.length (nI c)) 213 C.length (nI a)) 193 32 = nI C.length := h5
  rw [e2, nI_1]
  refine ⟨_, rfl, fun p' σ' g1 g2 g3 g4 g5 g6 d' gd t t1 t2 t3 t4 => ⟨t1, t3, t2, ?_, ?_, ?_, ?_, ?_, h9, g4, by simp; omega, gd, h13, ?_, g6⟩, h1, h2, h3, ((Fw.rf.st ?_).st ?_).st ?_⟩
  · refine stR_fr g2 fun i _ => ?_
    show iG t 214 i = _
    rw [t4 214 i (by omega)]
    rfl
  · rw [t4 193 32 (by omega)]
    simp [iG_if]
  · intro i x hx
    rw [t4 212 i (by omega), t4 213 i (by omega)]
    rw [List.getElem?_append] at hx
    by_cases hi : i < C.length
    · rw [if_pos hi] at hx
      obtain ⟨q1, q2⟩ := h6 i x hx
      have : i ≠ C.length := by omega
      simp [iG_if, this, q1, q2]
    · rw [if_neg hi] at hx
      have h0 : i - C.length = 0 := by
        rcases Nat.eq_zero_or_pos (i - C.length) with z | z
        · exact z
        · rw [List.getElem?_eq_none (by simp; omega)] at hx
          cases hx
      rw [h0] at hx
      cases hx
      have : i = C.length := by omega
      subst this
      simp [iG_if]
  · rw [t4 193 30 (by omega)]; exact h7
  · rw [t4 193 29 (by omega)]; exact h8
  · intro i hi
    rw [t4 194 i (by omega)]
    exact h14 i hi
  all_goals (unfold mP; omega)
theorem MR.emit (h : MR tb e p d σ C s) (hc : C.length + σ.length < p) (c a : Nat) : ∃ s', f_X12_emit (nI c) (nI a) s = some ((), s') ∧ MR tb e p d σ (C ++ [(c, a)]) s' ∧ Fw mP s s' := by
  have hle := h.le
  obtain ⟨s', a1, a2, a3, a4, a5, a6⟩ := h.emit0 (by omega) c a
  exact ⟨s', a1, a2 p σ a3 h.2.2.2.1 (Nat.le_refl _) hle.1 (by omega) h.2.2.2.2.2.2.2.2.2.2.2.2.2.2 d h.dp s' a3 a5 a4 (fun _ _ _ => rfl), a6⟩
/-- a code of the sign at hand -/
theorem MR.emita (h : MR tb e p d σ C s) (hp : p < e) (c a : Nat) : ∃ s', f_X12_emit (nI c) (nI a) s = some ((), s') ∧ MR tb e (p + 1) d σ (C ++ [(c, a)]) (iS s' 193 28 (iG s' 193 28 + 1)) ∧ Fw mP s (iS s' 193 28 (iG s' 193 28 + 1)) := by
  have hle := h.le
  have hln := h.ln
  obtain ⟨s', a1, a2, a3, a4, a5, a6⟩ := h.emit0 (by omega) c a
  refine ⟨s', a1, a2 (p + 1) σ a3 h.2.2.2.1 (by omega) hp (by omega) h.2.2.2.2.2.2.2.2.2.2.2.2.2.2 d h.dp _ (by rw [iG_eq, a3, nI_1]) a5 a4 (fun o k z => ?_), a6.st (by unfold mP; omega)⟩
  rw [iG_if]
  by_cases e1 : o = 193
  · rw [if_pos e1, if_neg (by omega)]
  · rw [if_neg e1]
/-- a code for what lay on the stack -/
theorem MR.emitp {c0 : Nat} (h : MR tb e p d (c0 :: σ) C s) (c a : Nat) : ∃ s', f_X12_emit (nI c) (nI a) s = some ((), s') ∧ MR tb e p d σ (C ++ [(c, a)]) (iS s' 193 34 (iG s' 193 34 - 1)) ∧ Fw mP s (iS s' 193 34 (iG s' 193 34 - 1)) := by
  have hle := h.le
  have hln := h.ln
  have hl : (c0 :: σ).length = σ.length + 1 := rfl
  obtain ⟨s', a1, a2, a3, a4, a5, a6⟩ := h.emit0 (by omega) c a
  refine ⟨s', a1, a2 p σ a3 h.2.2.2.1.2 (Nat.le_refl _) hle.1 (by omega) (fun x hx => h.2.2.2.2.2.2.2.2.2.2.2.2.2.2 x (List.mem_cons_of_mem _ hx)) d h.dp _ a3 (by rw [iG_eq, a5, hl, nI_pred]) a4 (fun o k z => ?_), a6.st (by unfold mP; omega)⟩
  rw [iG_if]
  by_cases e1 : o = 193
  · rw [if_pos e1, if_neg (by omega)]
  · rw [if_neg e1]
theorem MR.puts (h : MR tb e p d σ C s) (hp : p < e) {c : Nat} (h0 : 0 < c) (hc : c < 256) : ∃ s', f_X12_puts (nI c) s = some ((), s') ∧ MR tb e (p + 1) d (c :: σ) C s' ∧ Fw mP s s' := by
  obtain ⟨h1, h2, h3, h4, h5, h6, h7, h8, h9, h10, h11, h12, h13, h14, h15⟩ := h
  unfold f_X12_puts
  rw [h3, if_pos ((inb_n (by omega)).mpr (by omega)), nI_clamp (by omega)]
  dsimp only [sb]
  have e1 : iG (iS s 214 σ.length (nI c)) 193 34 = nI σ.length := h3
  have e2 : ∀ v, iG (iS (iS s 214 σ.length (nI c)) 193 34 v) 193 28 = nI p := fun _ => h1
  rw [e1, e2, nI_1, nI_1]
  refine ⟨_, rfl, ⟨by simp [iG_if], h2, by simp [iG_if], ⟨by simp [iG_if], stR_fr h4 fun i hi => ?_⟩, h5, h6, h7, h8, h9, hp, by simp; omega, h12, h13, h14, ?_⟩, ((Fw.rf.st ?_).st ?_).st ?_⟩
  · have : i ≠ σ.length := by omega
    simp [iG_if, this]
  · intro x hx
    rcases List.mem_cons.mp hx with rfl | hx
    · exact ⟨h0, hc⟩
    · exact h15 x hx
  all_goals (unfold mP; omega)
theorem MR.wrongs (h : MR tb e p d σ C s) (f : Nat) (h0 : 0 < f) (hf : f ≤ 5) : ∃ v, f_X12_wrongs (nI f) (iG s 193 28) s = ((), iS s 193 30 v) ∧ Mbd f p (iS s 193 30 v) := by
  obtain ⟨h1, h2, h3, h4, h5, h6, h7, h8, h9, h10, h11, h12, h13, h14, h15⟩ := h
  unfold f_X12_wrongs
  rw [h7, if_pos (by decide), h1]
  refine ⟨_, rfl, ⟨by simp [iG_if], ?_⟩⟩
  rw [iG_eq, lei]
  have e1 : ((-1000 : Int32) * nI f).toInt = -1000 * (f : Int) := by
    have : ∀ f, f ≤ 5 → ((-1000 : Int32) * nI f).toInt = -1000 * (f : Int) := by decide
    exact this f hf
  rw [subi (by rw [e1, nI_toInt (by omega)]; omega) (by rw [e1, nI_toInt (by omega)]; omega), e1, nI_toInt (by omega)]
  have : (0 : Int32).toInt = 0 := rfl
  omega
theorem MR.pop {c : Nat} (h : MR tb e p d (c :: σ) C s) : MR tb e p d σ C (iS s 193 34 (iG s 193 34 - 1)) ∧ Fw mP s (iS s 193 34 (iG s 193 34 - 1)) := by
  obtain ⟨h1, h2, h3, h4, h5, h6, h7, h8, h9, h10, h11, h12, h13, h14, h15⟩ := h
  have e1 : nI (c :: σ).length - 1 = nI σ.length := nI_pred _
  have hl : (c :: σ).length = σ.length + 1 := rfl
  refine ⟨⟨h1, h2, ?_, h4.2, h5, h6, h7, h8, h9, h10, by omega, h12, h13, h14, fun x hx => h15 x (List.mem_cons_of_mem _ hx)⟩, Fw.rf.st (by unfold mP; omega)⟩
  rw [iG_eq, h3, e1]
theorem MR.cls (h : MR tb e p (d + 1) σ C s) : MR tb e p d σ C (iS s 193 33 (iG s 193 33 - 1)) ∧ Fw mP s (iS s 193 33 (iG s 193 33 - 1)) := by
  obtain ⟨h1, h2, h3, h4, h5, h6, h7, h8, h9, h10, h11, h12, h13, h14, h15⟩ := h
  refine ⟨⟨h1, ?_, h3, h4, h5, h6, h7, h8, h9, h10, h11, by omega, h13, h14, h15⟩, Fw.rf.st (by unfold mP; omega)⟩
  rw [iG_eq, h2, nI_pred]
theorem MR.adv (h : MR tb e p d σ C s) (hp : p < e) : MR tb e (p + 1) d σ C (iS s 193 28 (iG s 193 28 + 1)) ∧ Fw mP s (iS s 193 28 (iG s 193 28 + 1)) := by
  obtain ⟨h1, h2, h3, h4, h5, h6, h7, h8, h9, h10, h11, h12, h13, h14, h15⟩ := h
  refine ⟨⟨?_, h2, h3, h4, h5, h6, h7, h8, h9, hp, by omega, h12, h13, h14, h15⟩, Fw.rf.st (by unfold mP; omega)⟩
  rw [iG_eq, h1, nI_1]
theorem MR.beh (h : MR tb e p d σ C s) (v : Int32) : MR tb e p d σ C (iS s 193 36 v) ∧ Fw mQ s (iS s 193 36 v) :=
  ⟨h, Fw.rf.st (Or.inr ⟨rfl, rfl⟩)⟩
/-- a bracket, a not: in, or too deep -/
theorem MR.opens (h : MR tb e p d σ C s) {c : Nat} (hc : cq tb e p = c) (h0 : 0 < c) (h1 : c < 256) : ∃ s', f_X12_opens s = some ((), s') ∧ Fw mP s s' ∧ ((d < 6 ∧ MR tb e (p + 1) (d + 1) (c :: σ) C s') ∨ (¬ d < 6 ∧ Mbd 5 p s')) := by
  have hlt : p < e := cq_lt (tb := tb) (by omega)
  have hdp := h.dp
  have hhq : hq tb e p = c := by rw [hq_of (by omega), hc]
  have h2 : iG s 193 33 = nI d := h.2.1
  unfold f_X12_opens
  rw [h2]
  by_cases hd : d = 6
  · subst hd
    rw [if_pos (c := nI 6 = 6) rfl]
    obtain ⟨v, w1, w2⟩ := h.wrongs 5 (by omega) (by omega)
    have w1' : f_X12_wrongs 5 (iG s 193 28) s = ((), iS s 193 30 v) := w1
    rw [w1', tb_mk]
    unfold j_X12_opens_18
    rw [sb_mk]
    generalize hs2 : iS (iS s 193 30 v) 193 33 (iG (iS s 193 30 v) 193 33 + 1) = s2
    have hh : f_X12_here s2 = some (nI (hq tb e p), s2) := by
      have hM := h.here
      unfold f_X12_here at hM ⊢
      have g1 : iG s2 193 28 = iG s 193 28 := by rw [← hs2]; rfl
      have g2 : iG s2 193 29 = iG s 193 29 := by rw [← hs2]; rfl
      have g3 : ∀ i, iG s2 194 i = iG s 194 i := by intro i; rw [← hs2]; rfl
      rw [g1, g2, g3]
      rw [h.1, h.2.2.2.2.2.2.2.1] at hM ⊢
      have hle := h.le
      rw [if_neg (nI_ge hlt (by omega)), if_pos ((inb_n (by omega)).mpr (by omega))] at hM ⊢
      simp only [Option.some.injEq, Prod.mk.injEq, and_true] at hM ⊢
      exact hM
    have h3 : iG s2 193 34 = nI σ.length := by rw [← hs2]; exact h.2.2.1
    have hln := h.ln
    have hle := h.le
    have hMB : Mbd 5 p s2 := by rw [← hs2]; exact w2.st (Or.inr (by decide))
    have hFw : Fw mP s s2 := by rw [← hs2]; exact (Fw.rf.st (by unfold mP; omega)).st (by unfold mP; omega)
    rw [ob_some hh]
    unfold f_X12_puts
    rw [h3, if_pos ((inb_n (by omega)).mpr (by omega))]
    refine ⟨_, rfl, ((hFw.st ?_).st ?_).st ?_, Or.inr ⟨by omega, ((hMB.st (Or.inl ?_)).st (Or.inr ?_)).st (Or.inr ?_)⟩⟩
    · unfold mP; omega
    · unfold mP; omega
    · unfold mP; omega
    · decide
    · decide
    · decide
  · rw [if_neg (c := nI d = 6) (fun z => hd ((nI_eq (b := 6) (by omega) (by omega)).mp z))]
    unfold j_X12_opens_18
    rw [sb_mk, h2, nI_1]
    have hM : MR tb e p (d + 1) σ C (iS s 193 33 (nI (d + 1))) := by
      obtain ⟨g1, g2, g3, g4, g5, g6, g7, g8, g9, g10, g11, g12, g13, g14, g15⟩ := h
      exact ⟨g1, iG_eq, g3, g4, g5, g6, g7, g8, g9, g10, g11, by omega, g13, g14, g15⟩
    obtain ⟨s', a1, a2, a3⟩ := hM.puts hlt h0 h1
    rw [ob_some hM.here, hhq, ob_some a1]
    exact ⟨s', rfl, (Fw.rf.st (by unfold mP; omega)).tr a3, Or.inl ⟨by omega, a2⟩⟩
end
/-! signs -/
def timesL : List Nat := [42, 47, 37]
def opsL : List Nat := [42, 47, 37, 43, 45]
theorem isTimes_n {c : Nat} (s : cS) (h : c < 2 ^ 31) : f_X12_isTimes (nI c) s = if c ∈ timesL then 1 else 0 := by
  unfold f_X12_isTimes timesL
  have a1 : nI c = 42 ↔ c = 42 := nI_eq (b := 42) h (by omega)
  have a2 : nI c = 47 ↔ c = 47 := nI_eq (b := 47) h (by omega)
  have a3 : nI c = 37 ↔ c = 37 := nI_eq (b := 37) h (by omega)
  simp only [a1, a2, a3]
  by_cases h1 : c = 42 <;> by_cases h2 : c = 47 <;> by_cases h3 : c = 37 <;> simp [h1, h2, h3]
theorem isPlus_n {c : Nat} (s : cS) (h : c < 2 ^ 31) : f_X12_isPlus (nI c) s = if c ∈ ([43, 45] : List Nat) then 1 else 0 := by
  unfold f_X12_isPlus
  have a1 : nI c = 43 ↔ c = 43 := nI_eq (b := 43) h (by omega)
  have a2 : nI c = 45 ↔ c = 45 := nI_eq (b := 45) h (by omega)
  simp only [a1, a2]
  by_cases h1 : c = 43 <;> by_cases h2 : c = 45 <;> simp [h1, h2]
theorem isSign_n {c : Nat} (s : cS) (h : c < 2 ^ 31) : f_X12_isSign (nI c) s = if c ∈ ([60, 62, 61] : List Nat) then 1 else 0 := by
  unfold f_X12_isSign
  have a1 : nI c = 60 ↔ c = 60 := nI_eq (b := 60) h (by omega)
  have a2 : nI c = 62 ↔ c = 62 := nI_eq (b := 62) h (by omega)
  have a3 : nI c = 61 ↔ c = 61 := nI_eq (b := 61) h (by omega)
  simp only [a1, a2, a3]
  by_cases h1 : c = 60 <;> by_cases h2 : c = 62 <;> by_cases h3 : c = 61 <;> simp [h1, h2, h3]
theorem isValue_n {c : Nat} (s : cS) (h : c < 2 ^ 31) : f_X12_isValue (nI c) s = if c ∈ lets then 1 else 0 := by
  unfold f_X12_isValue lets
  have a : ∀ n : Nat, n < 2 ^ 31 → (nI c = nI n ↔ c = n) := fun n hn => nI_eq h hn
  simp only [i_lit, a _ (by decide : (112 : Nat) < 2 ^ 31), a _ (by decide : (114 : Nat) < 2 ^ 31), a _ (by decide : (116 : Nat) < 2 ^ 31), a _ (by decide : (107 : Nat) < 2 ^ 31), a _ (by decide : (99 : Nat) < 2 ^ 31), a _ (by decide : (110 : Nat) < 2 ^ 31), a _ (by decide : (113 : Nat) < 2 ^ 31), a _ (by decide : (104 : Nat) < 2 ^ 31), a _ (by decide : (108 : Nat) < 2 ^ 31), a _ (by decide : (119 : Nat) < 2 ^ 31)]
  by_cases hm : c ∈ lets
  · have := hm
    unfold lets at this
    simp only [List.mem_cons, List.not_mem_nil, or_false] at this
    rcases this with rfl | rfl | rfl | rfl | rfl | rfl | rfl | rfl | rfl | rfl <;> decide
  · have := hm
    unfold lets at this
    simp only [List.mem_cons, List.not_mem_nil, or_false, not_or] at this
    obtain ⟨b1, b2, b3, b4, b5, b6, b7, b8, b9, b10⟩ := this
    simp [b1, b2, b3, b4, b5, b6, b7, b8, b9, b10]
    try rfl
