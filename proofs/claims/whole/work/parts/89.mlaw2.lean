/-! the reference's law: the clauses one by one, then taken over -/
abbrev lB (N : Nat) (v : Int32 × cS) : Option ((Int32 × cS) ⊕ (Int32 × cS)) := b_X12_law_54 N v.1 v.2
section
variable {tb : Nat → Nat} {e : Nat}
theorem ML.p28 {p : Nat} {K : List Cl} {s : cS} (h : ML tb e p K s) : iG s 193 28 = nI p := h.1.1
theorem ML.p29 {p : Nat} {K : List Cl} {s : cS} (h : ML tb e p K s) : iG s 193 29 = nI e := h.1.2.2.2.2.2.2.2.1
theorem ML.good {p : Nat} {K : List Cl} {s : cS} (h : ML tb e p K s) : f_X12_isGood s = 1 := h.1.good
theorem ML.adv {p : Nat} {K : List Cl} {s : cS} (h : ML tb e p K s) (hp : p < e) : ML tb e (p + 1) K (iS s 193 28 (nI (p + 1))) := by
  obtain ⟨⟨h1, h2, h3, h4, h5, h6, h7, h8, h9, h10, h11, h12, h13, h14, h15⟩, g1, g2, g3⟩ := h
  have : (cds K).length + ([] : List Nat).length ≤ p := h11
  exact ⟨⟨rfl, rfl, rfl, trivial, h5, h6, h7, h8, h9, hp, (by show (cds K).length + ([] : List Nat).length ≤ p + 1; omega), h12, h13, h14, h15⟩, g1, g2, g3⟩
theorem lB_bad {f w : Nat} {x : Int32} {s : cS} (h : Mbd f w s) {q : Int32 × cS} (k : Ev (fun N => j_X12_law_128 N s) q) : EL lB (x, s) q := by
  refine EL.en (Ev.cg k.ret (fun N => ?_))
  show b_X12_law_54 N x s = _
  unfold b_X12_law_54
  by_cases c : x = 0
  · rw [if_pos c]
  · rw [if_neg c, if_pos h.bad]
theorem lB_0 {s : cS} {q : Int32 × cS} (k : Ev (fun N => j_X12_law_128 N s) q) : EL lB (0, s) q := by
  refine EL.en (Ev.cg k.ret (fun N => ?_))
  show b_X12_law_54 N 0 s = _
  unfold b_X12_law_54
  rw [if_pos rfl]
theorem B_lawlp : ∀ (k p : Nat) (K : List Cl) (s : cS), K.length + k = 13 → ML tb e p K s → match lawS tb e k K.length p K with
    | .inl K' => ∃ s' p', ML tb e p' K' s' ∧ Fw mL s s' ∧ ∀ q, Ev (fun N => j_X12_law_128 N s') q → EL lB (1, s) q
    | .inr (f, w) => ∃ s', Mbd f w s' ∧ Fw mL s s' ∧ ∀ q, Ev (fun N => j_X12_law_128 N s') q → EL lB (1, s) q := by
  intro k
  induction k with
  | zero =>
    intro p K s hk h
    have := h.2.1
    omega
  | succ k ih =>
    intro p K s hk h
    have hC := B_clause h
    have hst : ∀ {s1 : cS} {v : Int32 × cS}, Ev (fun N => f_X12_clause N s) ((), s1) → (if (f_X12_isGood s1) = 0 then j_X12_law_91 s1 else if (iG s1 193 29) ≤ (iG s1 193 28) then j_X12_law_91 s1 else j_X12_law_92 (1 : Int32) s1) = some (.inl v) → ∀ {q}, EL lB v q → EL lB (1, s) q := by
      intro s1 v k1 k2 q k3
      refine EL.st (v' := v) ?_ k3
      refine Ev.cg (Ev.bnd k1 (k := fun _ _ s26 => if (f_X12_isGood s26) = 0 then j_X12_law_91 s26 else if (iG s26 193 29) ≤ (iG s26 193 28) then j_X12_law_91 s26 else j_X12_law_92 (1 : Int32) s26) (Ev.of fun N => k2)) (fun N => ?_)
      show b_X12_law_54 N 1 s = _
      unfold b_X12_law_54
      rw [if_neg (by decide), h.good, if_neg (by decide)]
    unfold lawS
    cases hx : claS tb e K.length p with
    | inr y =>
      obtain ⟨f, w⟩ := y
      rw [hx] at hC
      obtain ⟨s1, k1, k2, k3⟩ := hC
      exact ⟨s1, k2, k3, fun q kq => hst k1 (v := (0, s1)) (by rw [if_pos k2.bad]; rfl) (lB_0 kq)⟩
    | inl y =>
      obtain ⟨p1, c⟩ := y
      rw [hx] at hC
      obtain ⟨hlt, hl12, s1, k1, k2, k3⟩ := hC
      have hle := k2.1.le
      have hln : (K ++ [c]).length = K.length + 1 := by simp
      dsimp only
      by_cases c1 : e ≤ p1
      · rw [if_pos c1]
        exact ⟨s1, p1, k2, k3, fun q kq => hst k1 (v := (0, s1)) (by rw [k2.good, if_neg (by decide), k2.p28, k2.p29, if_pos (nI_le c1 (by omega))]; rfl) (lB_0 kq)⟩
      · rw [if_neg c1]
        have hgo : ∀ {v : Int32 × cS}, j_X12_law_92 1 s1 = some (.inl v) → ∀ {q}, EL lB v q → EL lB (1, s) q := by
          intro v hv q kq
          refine hst k1 (v := v) ?_ kq
          rw [k2.good, if_neg (by decide), k2.p28, k2.p29, if_neg (nI_ge (by omega) (by omega)), hv]
        by_cases c2 : cq tb e p1 = 59
        · rw [if_pos c2]
          have hA := k2.adv (by omega)
          have hI := ih (p1 + 1) (K ++ [c]) (iS s1 193 28 (nI (p1 + 1))) (by omega) hA
          rw [hln] at hI
          have hv : j_X12_law_92 1 s1 = some (.inl (1, iS s1 193 28 (nI (p1 + 1)))) := by
            unfold j_X12_law_92 j_X12_law_115
            rw [if_neg (by decide), ob_some k2.here, if_pos (c := nI (hq tb e p1) = 59) ((k2.1.is (c := 59) (by decide) (by decide)).mpr c2), k2.p28, nI_1]
            rfl
          cases hy : lawS tb e k (K.length + 1) (p1 + 1) (K ++ [c]) with
          | inl K' =>
            rw [hy] at hI
            obtain ⟨s', p', q1, q2, q3⟩ := hI
            exact ⟨s', p', q1, k3.tr ((Fw.rf.st (by unfold mL mC mQ mP; omega)).tr q2), fun q kq => hgo hv (q3 q kq)⟩
          | inr y =>
            rw [hy] at hI
            obtain ⟨s', q1, q2, q3⟩ := hI
            exact ⟨s', q1, k3.tr ((Fw.rf.st (by unfold mL mC mQ mP; omega)).tr q2), fun q kq => hgo hv (q3 q kq)⟩
        · rw [if_neg c2]
          obtain ⟨v, w1, w2⟩ := k2.wrongs 1 (by decide) (by decide)
          have w1' : f_X12_wrongs 1 (iG s1 193 28) s1 = ((), iS s1 193 30 v) := w1
          have hv : j_X12_law_92 1 s1 = some (.inl (1, iS (iS s1 193 30 v) 193 28 (nI (p1 + 1)))) := by
            unfold j_X12_law_92 j_X12_law_115
            rw [if_neg (by decide), ob_some k2.here, if_neg (c := nI (hq tb e p1) = 59) (fun z => c2 ((k2.1.is (c := 59) (by decide) (by decide)).mp z)), w1', tb_mk]
            have : iG (iS s1 193 30 v) 193 28 = nI p1 := k2.p28
            rw [this, nI_1]
            rfl
          have hb : Mbd 1 p1 (iS (iS s1 193 30 v) 193 28 (nI (p1 + 1))) := w2.st (Or.inr (by decide))
          refine ⟨_, hb, (k3.st ?_).st ?_, fun q kq => hgo hv (lB_bad hb kq)⟩ <;> (unfold mL mC mQ mP; omega)
end
/-! taking it over -/
def cpA (s : cS) : Nat → cS
  | 0 => s
  | i + 1 => iS (iS (iS (iS (cpA s i) 202 i (iG s 208 i)) 203 i (iG s 209 i)) 204 i (iG s 210 i)) 205 i (iG s 211 i)
def cpB (s : cS) : Nat → cS
  | 0 => s
  | i + 1 => iS (iS (cpB s i) 206 i (iG s 212 i)) 207 i (iG s 213 i)
theorem cpA_g (s : cS) : ∀ (n o k : Nat), iG (cpA s n) o k = if (202 ≤ o ∧ o ≤ 205) ∧ k < n then iG s (o + 6) k else iG s o k
  | 0, o, k => by rw [if_neg (by omega)]; rfl
  | n + 1, o, k => by
    unfold cpA
    simp only [iG_if, cpA_g s n o k]
    by_cases h5 : o = 205
    · subst h5
      by_cases hk : k = n
      · subst hk; simp
      · have e1 : k < n + 1 ↔ k < n := by omega
        simp [hk, e1]
    · by_cases h4 : o = 204
      · subst h4
        by_cases hk : k = n
        · subst hk; simp
        · have e1 : k < n + 1 ↔ k < n := by omega
          simp [hk, e1]
      · by_cases h3 : o = 203
        · subst h3
          by_cases hk : k = n
          · subst hk; simp
          · have e1 : k < n + 1 ↔ k < n := by omega
            simp [hk, e1]
        · by_cases h2 : o = 202
          · subst h2
            by_cases hk : k = n
            · subst hk; simp
            · have e1 : k < n + 1 ↔ k < n := by omega
              simp [hk, e1]
          · rw [if_neg h5, if_neg h4, if_neg h3, if_neg h2, if_neg (by omega), if_neg (by omega)]
theorem cpB_g (s : cS) : ∀ (n o k : Nat), iG (cpB s n) o k = if (206 ≤ o ∧ o ≤ 207) ∧ k < n then iG s (o + 6) k else iG s o k
  | 0, o, k => by rw [if_neg (by omega)]; rfl
  | n + 1, o, k => by
    unfold cpB
    simp only [iG_if, cpB_g s n o k]
    by_cases h5 : o = 207
    · subst h5
      by_cases hk : k = n
      · subst hk; simp
      · have e1 : k < n + 1 ↔ k < n := by omega
        simp [hk, e1]
    · by_cases h4 : o = 206
      · subst h4
        by_cases hk : k = n
        · subst hk; simp
        · have e1 : k < n + 1 ↔ k < n := by omega
          simp [hk, e1]
      · rw [if_neg h5, if_neg h4, if_neg (by omega), if_neg (by omega)]
def mW0 (o k : Nat) : Prop := mL o k ∨ (o = 193 ∧ (k = 1 ∨ k = 29))
def mW (o k : Nat) : Prop := mW0 o k ∨ (o = 193 ∧ k = 15) ∨ (202 ≤ o ∧ o ≤ 207)
theorem cpA_f (s : cS) : ∀ n, Fw mW s (cpA s n)
  | 0 => Fw.rf
  | n + 1 => ((((cpA_f s n).st (by unfold mW; omega)).st (by unfold mW; omega)).st (by unfold mW; omega)).st (by unfold mW; omega)
theorem cpB_f (s : cS) : ∀ n, Fw mW s (cpB s n)
  | 0 => Fw.rf
  | n + 1 => ((cpB_f s n).st (by unfold mW; omega)).st (by unfold mW; omega)
/-- the reference's law is K -/
def LwM (K : List Cl) (s : cS) : Prop := K.length ≤ 12 ∧ iG s 193 15 = nI K.length ∧ clR 202 203 204 205 K s ∧ (cds K).length ≤ 160 ∧ ∀ i x, (cds K)[i]? = some x → iG s 206 i = nI x.1 ∧ iG s 207 i = nI x.2
theorem law_take {s : cS} {k n : Nat} (hk : k ≤ 12) (hn : n ≤ 160) (h31 : iG s 193 31 = nI k) (h32 : iG s 193 32 = nI n) : Ev (fun N => w_X12_law_142 N 0 s) (nI k, iS (cpB (cpA s k) n) 193 15 (nI k)) := by
  have h31' : ∀ i, iG (cpA s i) 193 31 = nI k := fun i => by rw [cpA_g, if_neg (by omega), h31]
  have h32' : ∀ i, iG (cpA s i) 193 32 = nI n := fun i => by rw [cpA_g, if_neg (by omega), h32]
  have h31'' : ∀ i, iG (cpB (cpA s k) i) 193 31 = nI k := fun i => by rw [cpB_g, if_neg (by omega), h31']
  have h32'' : ∀ i, iG (cpB (cpA s k) i) 193 32 = nI n := fun i => by rw [cpB_g, if_neg (by omega), h32']
  have hB : ∀ N, 160 < N → w_X12_law_206 N 0 (cpA s k) = some (nI k, iS (cpB (cpA s k) n) 193 15 (nI k)) := by
    intro N hN
    unfold w_X12_law_206
    refine itr_cnt (st := fun j => (nI j, cpB (cpA s k) j)) (n := n) (fun j hj => ?_) ?_ 0 (Nat.zero_le _) N (by omega)
    · show b_X12_law_206 (nI j) (cpB (cpA s k) j) = _
      unfold b_X12_law_206
      rw [h32'', if_neg (nI_ge hj (by omega)), if_pos ((inb_n (by omega)).mpr (by omega)), nI_clamp (by omega), sb_mk, sb_mk, nI_1]
      have g1 : iG (cpB (cpA s k) j) 212 j = iG (cpA s k) 212 j := by rw [cpB_g, if_neg (by omega)]
      have g2 : iG (iS (cpB (cpA s k) j) 206 j (iG (cpB (cpA s k) j) 212 j)) 213 j = iG (cpA s k) 213 j := by
        show iG (cpB (cpA s k) j) 213 j = _
        rw [cpB_g, if_neg (by omega)]
      rw [g2, g1]
      rfl
    · show b_X12_law_206 (nI n) (cpB (cpA s k) n) = _
      unfold b_X12_law_206
      rw [h32'', if_pos (nI_le (Nat.le_refl _) (by omega)), sb_mk, h31'', iG_eq]
      rfl
  refine ⟨161, fun N hN => ?_⟩
  show w_X12_law_142 N 0 s = _
  unfold w_X12_law_142
  refine itr_cnt (st := fun j => (nI j, cpA s j)) (n := k) (fun j hj => ?_) ?_ 0 (Nat.zero_le _) N (by omega)
  · show b_X12_law_142 N (nI j) (cpA s j) = _
    unfold b_X12_law_142
    rw [h31', if_neg (nI_ge hj (by omega)), if_pos ((inb_n (by omega)).mpr (by omega)), nI_clamp (by omega), sb_mk, sb_mk, sb_mk, sb_mk, nI_1]
    have g : ∀ o, 208 ≤ o → iG (cpA s j) o j = iG s o j := fun o ho => by rw [cpA_g, if_neg (by omega)]
    have g1 : ∀ v, iG (iS (cpA s j) 202 j v) 209 j = iG s 209 j := fun v => g 209 (by decide)
    have g2 : ∀ v v', iG (iS (iS (cpA s j) 202 j v) 203 j v') 210 j = iG s 210 j := fun v v' => g 210 (by decide)
    have g3 : ∀ v v' v'', iG (iS (iS (iS (cpA s j) 202 j v) 203 j v') 204 j v'') 211 j = iG s 211 j := fun v v' v'' => g 211 (by decide)
    rw [g3, g2, g1, g 208 (by decide)]
    rfl
  · show b_X12_law_142 N (nI k) (cpA s k) = _
    unfold b_X12_law_142
    rw [h31', if_pos (nI_le (Nat.le_refl _) (by omega)), hB N (by omega)]
    rfl
theorem B_law {tb : Nat → Nat} {e n : Nat} {s : cS} (hb : ∀ i, tb i < 256) (hn : iG s 193 1 = nI n) (hn2 : n ≤ 200) (hby : ∀ i, i < 200 → iG s 194 i &&& 255 = nI (tb i)) (he0 : 1 ≤ e) (he1 : e ≤ 160) (hen : e ≤ n) : match lawS tb e 13 0 0 [] with
    | .inl K => ∃ s', Ev (fun N => f_X12_law N (nI e) s) (nI K.length, s') ∧ LwM K s' ∧ iG s' 193 1 = 0 ∧ Fw mW s s'
    | .inr (f, w) => ∃ s', Ev (fun N => f_X12_law N (nI e) s) (-1000 * nI f - nI w, s') ∧ iG s' 193 1 = 0 ∧ Fw mW0 s s' := by
  generalize hs9 : iS (iS (iS (iS (iS (iS s 193 1 0) 193 28 0) 193 29 (nI e)) 193 30 0) 193 31 0) 193 32 0 = s9
  have hF : Fw mW0 s s9 := by
    rw [← hs9]
    refine (((((Fw.rf.st ?_).st ?_).st ?_).st ?_).st ?_).st ?_ <;> (unfold mW0 mL mC mQ mP; omega)
  have hM : ML tb e 0 [] s9 := by
    rw [← hs9]
    refine ⟨⟨rfl, rfl, rfl, trivial, rfl, (fun i x hx => by simp [cds] at hx), rfl, rfl, he1, Nat.zero_le _, Nat.le_refl _, Nat.zero_le _, hb, fun i hi => hby i (by omega), (fun c hc => by cases hc)⟩, Nat.zero_le _, rfl, (fun i c hc => by simp at hc)⟩
  have h1 : iG s9 193 1 = 0 := by rw [← hs9]; rfl
  have hV : ∀ {q}, EL lB (1, s9) q → Ev (fun N => f_X12_law N (nI e) s) q := by
    intro q kq
    refine Ev.cg kq.ev (fun N => ?_)
    unfold f_X12_law
    have hl : lIn (nI e).toInt64 1 160 = 1 := by
      rw [lIn_w (a' := 1) (b' := 160) rfl rfl]
      unfold wB
      rw [if_pos ⟨nI_le (a := 1) he0 (by omega), nI_le (b := 160) he1 (by omega)⟩]
    rw [hl, if_neg (by decide), hn, if_pos (nI_le hen (by omega)), sb_mk, sb_mk, sb_mk, sb_mk, sb_mk, sb_mk, hs9]
    rfl
  have hL := B_lawlp 13 0 [] s9 (by rfl) hM
  show match lawS tb e 13 ([] : List Cl).length 0 [] with
    | .inl K => ∃ s', Ev (fun N => f_X12_law N (nI e) s) (nI K.length, s') ∧ LwM K s' ∧ iG s' 193 1 = 0 ∧ Fw mW s s'
    | .inr (f, w) => ∃ s', Ev (fun N => f_X12_law N (nI e) s) (-1000 * nI f - nI w, s') ∧ iG s' 193 1 = 0 ∧ Fw mW0 s s'
  cases hx : lawS tb e 13 ([] : List Cl).length 0 [] with
  | inl K =>
    rw [hx] at hL
    obtain ⟨s', p', q1, q2, q3⟩ := hL
    have hln := q1.1.ln
    have hle := q1.1.le
    have hK := q1.2.1
    have h31 := q1.2.2.1
    have h32 : iG s' 193 32 = nI (cds K).length := q1.1.2.2.2.2.1
    have hn0 : (cds K).length ≤ 160 := by
      have : (cds K).length + ([] : List Nat).length ≤ p' := hln
      omega
    have hT := law_take hK hn0 h31 h32
    have g : ∀ o k, ¬ (o = 193 ∧ k = 15) → iG (iS (cpB (cpA s' K.length) (cds K).length) 193 15 (nI K.length)) o k = iG (cpB (cpA s' K.length) (cds K).length) o k := by
      intro o k hok
      rw [iG_if]
      by_cases z : o = 193
      · rw [if_pos z, if_neg (by omega)]
      · rw [if_neg z]
    refine ⟨_, hV (q3 _ (Ev.cg hT (fun N => ?_))), ⟨hK, iG_eq, ?_, hn0, ?_⟩, ?_, ?_⟩
    · unfold j_X12_law_128
      have h30 : iG s' 193 30 = 0 := q1.1.2.2.2.2.2.2.1
      rw [h30, if_pos (by decide)]
    · intro i c hi
      have hil : i < K.length := (List.getElem?_eq_some_iff.mp hi).1
      have g' : ∀ o, 202 ≤ o → o ≤ 205 → iG (iS (cpB (cpA s' K.length) (cds K).length) 193 15 (nI K.length)) o i = iG s' (o + 6) i := by
        intro o a b
        rw [g o i (by omega), cpB_g, if_neg (by omega), cpA_g, if_pos ⟨⟨a, b⟩, hil⟩]
      rw [g' 202 (by decide) (by decide), g' 203 (by decide) (by decide), g' 204 (by decide) (by decide), g' 205 (by decide) (by decide)]
      exact q1.2.2.2 i c hi
    · intro i x hi
      have hil : i < (cds K).length := (List.getElem?_eq_some_iff.mp hi).1
      have g' : ∀ o, 206 ≤ o → o ≤ 207 → iG (iS (cpB (cpA s' K.length) (cds K).length) 193 15 (nI K.length)) o i = iG s' (o + 6) i := by
        intro o a b
        rw [g o i (by omega), cpB_g, if_pos ⟨⟨a, b⟩, hil⟩, cpA_g, if_neg (by omega)]
      rw [g' 206 (by decide) (by decide), g' 207 (by decide) (by decide)]
      exact q1.1.2.2.2.2.2.1 i x hi
    · rw [g 193 1 (by omega), cpB_g, if_neg (by omega), cpA_g, if_neg (by omega), q2.int (by unfold mL mC mQ mP; omega), h1]
    · refine ((hF.mo fun _ _ z => Or.inl z).tr ((q2.mo fun _ _ z => Or.inl (Or.inl z)).tr ((cpA_f _ _).tr (cpB_f _ _)))).st ?_
      exact Or.inr (Or.inl ⟨rfl, rfl⟩)
  | inr y =>
    obtain ⟨f, w⟩ := y
    rw [hx] at hL
    obtain ⟨s', q1, q2, q3⟩ := hL
    refine ⟨s', hV (q3 _ (Ev.of fun N => ?_)), ?_, hF.tr (q2.mo fun _ _ z => Or.inl z)⟩
    · unfold j_X12_law_128
      rw [if_neg q1.2, q1.1]
    · rw [q2.int (by unfold mL mC mQ mP; omega), h1]
