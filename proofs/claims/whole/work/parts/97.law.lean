/-! the law of both -/
abbrev rB (N : Nat) (v : Int32 × cS) : Option ((Int32 × cS) ⊕ (Unit × cS)) := b_X4_read_14 (F_clause N) v.1 v.2
section
variable {tb : Nat → Nat} {e T : Nat}
theorem rB_bad {f w : Nat} {x : Int32} {s : cS} (h : XB T f w s) : EL rB (x, s) ((), s) := by
  refine EL.en (Ev.of fun N => ?_)
  show b_X4_read_14 _ x s = _
  unfold b_X4_read_14
  by_cases c : (12 : Int32) < x
  · rw [if_pos c]; rfl
  · rw [if_neg c, h.1.sound, if_pos rfl]; rfl
theorem A_lawlp (hT : T = 11 ∨ T = 19) : ∀ (k p : Nat) (K : List Cl) (u : Nat) (W : Nat → Nat × Nat) (s : cS), K.length + k = 13 → XK tb e p T K u W s → match lawS tb e k K.length p K with
    | .inl K' => ∃ s' p' u' W', EL rB (nI K.length, s) ((), s') ∧ XK tb e p' T K' u' W' s' ∧ Fw (xC T) s s'
    | .inr (f, w) => ∃ s', EL rB (nI K.length, s) ((), s') ∧ XB T f w s' ∧ Fw (xC T) s s' := by
  intro k
  induction k with
  | zero =>
    intro p K u W s hk h
    have := h.2.2.1
    omega
  | succ k ih =>
    intro p K u W s hk h
    have hC := A_clause hT h
    have h12 := h.2.2.1
    have hgo : ∀ {s1 : cS} {v : Int32 × cS}, Ev (fun N => F_clause N (nI K.length) s) ((), s1) → f_X9_atEnd s1 = 0 → (nI K.length + 1, (f_X9_pass 59 s1).2) = v → ∀ {q}, EL rB v q → EL rB (nI K.length, s) q := by
      intro s1 v k1 k2 k3 q kq
      refine EL.st (v' := v) (Ev.cg (Ev.bnd k1 (k := fun _ _ s10 => if (f_X9_atEnd s10) = 0 then some (.inl ((nI K.length + 1), (f_X9_pass 59 s10).2)) else oR (some ((), s10))) (Ev.of fun N => ?_)) (fun N => ?_)) kq
      · rw [if_pos k2, k3]
      · show b_X4_read_14 _ (nI K.length) s = _
        unfold b_X4_read_14
        rw [if_neg (c := (12 : Int32) < nI K.length) (nI_nlt (a := 12) (by omega) (by omega)), h.1.1.sound, if_neg (by decide)]
        rfl
    unfold lawS
    cases hx : claS tb e K.length p with
    | inr y =>
      obtain ⟨f, w⟩ := y
      rw [hx] at hC
      obtain ⟨s1, k1, k2, k3⟩ := hC
      have hp : f_X9_pass 59 s1 = ((), s1) := k2.1.pass (c := 59) (by decide)
      exact ⟨s1, hgo k1 k2.1.atEnd rfl (by rw [hp]; exact rB_bad k2), k2, k3⟩
    | inl y =>
      obtain ⟨p1, c⟩ := y
      rw [hx] at hC
      obtain ⟨hlt, hl12, s1, u1, W1, k1, k2, k3⟩ := hC
      have hln : (K ++ [c]).length = K.length + 1 := by simp
      dsimp only
      by_cases c1 : e ≤ p1
      · rw [if_pos c1]
        refine ⟨s1, p1, u1, W1, EL.en (Ev.cg (Ev.bnd k1 (k := fun _ _ s10 => if (f_X9_atEnd s10) = 0 then some (.inl ((nI K.length + 1), (f_X9_pass 59 s10).2)) else oR (some ((), s10))) (Ev.of fun N => ?_)) (fun N => ?_)), k2, k3⟩
        · rw [k2.1.1.atEnd, if_pos c1, if_neg (by decide)]
          rfl
        · show b_X4_read_14 _ (nI K.length) s = _
          unfold b_X4_read_14
          rw [if_neg (c := (12 : Int32) < nI K.length) (nI_nlt (a := 12) (by omega) (by omega)), h.1.1.sound, if_neg (by decide)]
          rfl
      · rw [if_neg c1]
        have hae : f_X9_atEnd s1 = 0 := by rw [k2.1.1.atEnd, if_neg c1]
        by_cases c2 : cq tb e p1 = 59
        · rw [if_pos c2]
          obtain ⟨s2, a1, a2, a3⟩ := k2.1.1.pass c2 (by decide)
          have a1' : f_X9_pass 59 s1 = ((), s2) := a1
          have hX2 : XK tb e (p1 + 1) T (K ++ [c]) u1 W1 s2 := by
            obtain ⟨⟨g1, g2, g3, g4⟩, g5, g6, g7, g8, g9⟩ := k2
            refine ⟨⟨a2, g2.t hT a3, by omega, g4⟩, by rw [a3.int (by unfold xT; omega)]; exact g5, g6, fun i c hi => ?_, g8, g9⟩
            rw [a3.int (by unfold xT; omega), a3.int (by unfold xT; omega), a3.int (by unfold xT; omega), a3.int (by unfold xT; omega)]
            exact g7 i c hi
          have hI := ih (p1 + 1) (K ++ [c]) u1 W1 s2 (by omega) hX2
          rw [hln] at hI
          cases hy : lawS tb e k (K.length + 1) (p1 + 1) (K ++ [c]) with
          | inl K' =>
            rw [hy] at hI
            obtain ⟨s', p', u', W', q1, q2, q3⟩ := hI
            exact ⟨s', p', u', W', hgo k1 hae rfl (by rw [a1', nI_1]; exact q1), q2, k3.tr (a3.xt.xc.tr q3)⟩
          | inr y =>
            rw [hy] at hI
            obtain ⟨s', q1, q2, q3⟩ := hI
            exact ⟨s', hgo k1 hae rfl (by rw [a1', nI_1]; exact q1), q2, k3.tr (a3.xt.xc.tr q3)⟩
        · rw [if_neg c2]
          obtain ⟨s2, a1, a2, a3⟩ := k2.1.1.npass c2 (by decide)
          have a1' : f_X9_pass 59 s1 = ((), s2) := a1
          have hb : XB T 1 p1 s2 := ⟨a2, by rw [a3.1]; exact k2.1.2.1.1⟩
          exact ⟨s2, hgo k1 hae rfl (by rw [a1']; exact rB_bad hb), hb, k3.tr a3.xt.xc⟩
end
/-- what may change, the law's references too -/
def Fx (P : Nat → Nat → Prop) (s t : cS) : Prop := (∀ o k, ¬ P o k → iG t o k = iG s o k) ∧ (∀ o k, ¬ P o k → lG t o k = lG s o k)
theorem Fw.x {P : Nat → Nat → Prop} {s t : cS} (h : Fw P s t) : Fx P s t := ⟨h.2.1, h.2.2⟩
theorem Fx.tr {P : Nat → Nat → Prop} {s t u : cS} (h : Fx P s t) (h' : Fx P t u) : Fx P s u := ⟨fun o k z => (h'.1 o k z).trans (h.1 o k z), fun o k z => (h'.2 o k z).trans (h.2 o k z)⟩
theorem Fx.mo {P P' : Nat → Nat → Prop} {s t : cS} (h : Fx P s t) (hP : ∀ o k, P o k → P' o k) : Fx P' s t := ⟨fun o k z => h.1 o k fun y => z (hP o k y), fun o k z => h.2 o k fun y => z (hP o k y)⟩
theorem Fx.rf {P : Nat → Nat → Prop} {s : cS} : Fx P s s := ⟨fun _ _ _ => rfl, fun _ _ _ => rfl⟩
theorem Fx.st {P : Nat → Nat → Prop} {s t : cS} {o k : Nat} {v : Int32} (h : Fx P s t) (hp : P o k) : Fx P s (iS t o k v) := h.tr ((Fw.rf (P := P) (s := t)).st hp).x
theorem Rd.fx {Q P : Nat → Nat → Prop} {I : cS → Prop} (h : Rd Q I) {s t : cS} (f : Fx P s t) (hi : I s) (hd : ∀ o k, Q o k → ¬ P o k) : I t := h s t (fun o k q => f.1 o k (hd o k q)) (fun o k q => f.2 o k (hd o k q)) hi
/-- the class's law at T is K -/
def LwX (K : List Cl) (T : Nat) (s : cS) : Prop := ∃ W u, Wd s T W (cds K).length ∧ iG s T 8 = nI K.length ∧ K.length ≤ 12 ∧ clR (T + 2) (T + 3) (T + 4) (T + 5) K s ∧ us u (cds K) ∧ iG s T 9 = nI u ∧ u < 1024 ∧ SemK W K ∧ (cds K).length ≤ 160
def lwQ (T o k : Nat) : Prop := (o = T ∧ (k = 8 ∨ k = 9)) ∨ (T + 1 ≤ o ∧ o ≤ T + 5)
theorem LwX.rd {K : List Cl} {T : Nat} : Rd (lwQ T) (LwX K T) := by
  rintro s t h - ⟨W, u, h1, h2, h3, h4, h5, h6, h7, h8, h9⟩
  refine ⟨W, u, fun i hi => ?_, by rw [h T 8 (by unfold lwQ; omega)]; exact h2, h3, fun i c hi => ?_, h5, by rw [h T 9 (by unfold lwQ; omega)]; exact h6, h7, h8, h9⟩
  · rw [h (T + 1) i (by unfold lwQ; omega)]
    exact h1 i hi
  · rw [h (T + 2) i (by unfold lwQ; omega), h (T + 3) i (by unfold lwQ; omega), h (T + 4) i (by unfold lwQ; omega), h (T + 5) i (by unfold lwQ; omega)]
    exact h4 i c hi
def lmQ (o k : Nat) : Prop := (o = 193 ∧ k = 15) ∨ (202 ≤ o ∧ o ≤ 207)
theorem LwM.rd {K : List Cl} : Rd lmQ (LwM K) := by
  rintro s t h - ⟨h1, h2, h3, h4, h5⟩
  refine ⟨h1, by rw [h 193 15 (by unfold lmQ; omega)]; exact h2, fun i c hi => ?_, h4, fun i x hi => ?_⟩
  · rw [h 202 i (by unfold lmQ; omega), h 203 i (by unfold lmQ; omega), h 204 i (by unfold lmQ; omega), h 205 i (by unfold lmQ; omega)]
    exact h3 i c hi
  · rw [h 206 i (by unfold lmQ; omega), h 207 i (by unfold lmQ; omega)]
    exact h5 i x hi
def xE (T o k : Nat) : Prop := xC T o k ∨ (o = 1 ∧ 1 ≤ k ∧ k ≤ 2)
theorem A_law {tb : Nat → Nat} {e n T T0 : Nat} {s : cS} (hT : T = 11 ∨ T = 19) (h21 : s.1.2.1 = T) (h11 : s.1.1 = T0) (hb : ∀ i, tb i < 256) (hn : iG s 1 1 = nI n) (hn2 : n ≤ 200) (hby : ∀ i, i < 200 → iG s 2 i = nI (tb i)) (he0 : 1 ≤ e) (he1 : e ≤ 160) (hen : e ≤ n) : match lawS tb e 13 0 0 [] with
    | .inl K => ∃ s', Ev (fun N => f_X11_law N (nI e) s) (nI K.length, s') ∧ s'.1.1 = T ∧ s'.1.2.1 = T0 ∧ LwX K T s' ∧ iG s' 1 1 = 0 ∧ iG s' 3 8 = iG s 3 8 + 1 ∧ Fx (fun o k => xE T o k ∨ (o = 3 ∧ k = 8)) s s'
    | .inr (f, w) => ∃ s', Ev (fun N => f_X11_law N (nI e) s) (-1000 * nI f - nI w, s') ∧ s'.1.1 = T0 ∧ s'.1.2.1 = T ∧ iG s' 1 1 = 0 ∧ Fx (xE T) s s' := by
  generalize hs7 : iS (iS (iS (iS s 1 2 (nI e)) 1 3 0) 1 4 0) 1 5 0 = s7
  generalize hs4 : iS (iS (iS (qC s7 T) T 7 0) T 8 0) T 9 0 = s4
  have hF7 : Fx (xE T) s s7 := by
    rw [← hs7]
    refine (((Fx.rf.st ?_).st ?_).st ?_).st ?_ <;> (unfold xE xC xP xT; omega)
  have hF4 : Fx (xE T) s7 s4 := by
    rw [← hs4]
    have h0 : Fx (xE T) s7 (qC s7 T) := ⟨fun _ _ _ => rfl, fun _ _ _ => rfl⟩
    refine ((h0.st ?_).st ?_).st ?_ <;> (unfold xE xC xP xL; omega)
  have r7 : s7.1.1 = T0 ∧ s7.1.2.1 = T := by rw [← hs7]; exact ⟨h11, h21⟩
  have r4 : s4.1.1 = T0 ∧ s4.1.2.1 = T ∧ s4.1.2.2 = T := by rw [← hs4]; exact ⟨r7.1, r7.2, rfl⟩
  have hX : XK tb e 0 T [] 0 (fun _ => (0, 0)) s4 := by
    refine ⟨⟨⟨?_, ?_, ?_, by omega, by omega, hb, fun i hi => ?_⟩, ⟨r4.2.2, ?_, fun i hi => ?_, ?_, by decide⟩, Nat.zero_le _, he1⟩, ?_, by decide, ?_, ?_, ?_⟩
    · rw [← hs4, iG_ne (by omega), iG_ne (by omega), iG_ne (by omega), ← hs7]; rfl
    · rw [← hs4, iG_ne (by omega), iG_ne (by omega), iG_ne (by omega), ← hs7]; rfl
    · rw [← hs4, iG_ne (by omega), iG_ne (by omega), iG_ne (by omega), ← hs7]; rfl
    · rw [← hs4, iG_ne (by omega), iG_ne (by omega), iG_ne (by omega), ← hs7]
      exact hby i (by omega)
    · rw [← hs4, iG_nk (by omega), iG_nk (by omega), iG_eq]; rfl
    · have : i < 0 := hi
      omega
    · rw [← hs4, iG_eq]; rfl
    · rw [← hs4, iG_nk (by omega), iG_eq]; rfl
    · intro i c hi; simp at hi
    · intro x hx; simp [cds] at hx
    · intro i c hi; simp at hi
  have hgo : ∀ {s' : cS} {q : Int32 × cS}, EL rB (nI 0, s4) ((), s') → (if f_X9_sound (iS s' 1 1 0) = 0 then some (f_X9_faultTold (iS s' 1 1 0), iS s' 1 1 0) else some (f_X3_clauses T (f_X1_takeSpareLaw (iS s' 1 1 0)).2, (f_X1_takeSpareLaw (iS s' 1 1 0)).2)) = some q → Ev (fun N => f_X11_law N (nI e) s) q := by
    intro s' q k1 k2
    have hread : Ev (fun N => F_read N T s7) ((), s') := by
      refine Ev.cg k1.ev (fun N => ?_)
      show f_X4_read N (F_clause N) T s7 = _
      unfold f_X4_read f_X3_empty
      have e1 : (qC s7 T).1.2.2 = T := rfl
      rw [sb_mk, e1, if_pos (kdT hT), sb_mk, sb_mk, sb_mk, tb_mk, hs4]
      rfl
    refine Ev.cg (Ev.bnd hread (k := fun _ _ s11 => if f_X9_sound (iS s11 1 1 0) = 0 then some (f_X9_faultTold (iS s11 1 1 0), iS s11 1 1 0) else some (f_X3_clauses T (f_X1_takeSpareLaw (iS s11 1 1 0)).2, (f_X1_takeSpareLaw (iS s11 1 1 0)).2)) (Ev.of fun N => k2)) (fun N => ?_)
    have hw : wB (nI e) 1 160 = 1 := by
      unfold wB
      rw [if_pos ⟨nI_le (a := 1) he0 (by omega), nI_le (b := 160) he1 (by omega)⟩]
    unfold f_X11_law f_X9_size f_X9_open
    rw [hw, if_neg (by decide), hn, if_pos (nI_le hen (by omega)), sb_mk, sb_mk, sb_mk, sb_mk, tb_mk, h21, if_pos (kdT hT), hs7]
    rfl
  have hL := A_lawlp hT 13 0 [] 0 _ s4 (by rfl) hX
  show match lawS tb e 13 ([] : List Cl).length 0 [] with
    | .inl K => ∃ s', Ev (fun N => f_X11_law N (nI e) s) (nI K.length, s') ∧ s'.1.1 = T ∧ s'.1.2.1 = T0 ∧ LwX K T s' ∧ iG s' 1 1 = 0 ∧ iG s' 3 8 = iG s 3 8 + 1 ∧ Fx (fun o k => xE T o k ∨ (o = 3 ∧ k = 8)) s s'
    | .inr (f, w) => ∃ s', Ev (fun N => f_X11_law N (nI e) s) (-1000 * nI f - nI w, s') ∧ s'.1.1 = T0 ∧ s'.1.2.1 = T ∧ iG s' 1 1 = 0 ∧ Fx (xE T) s s'
  have hxe : ∀ {t : cS}, Fw (xC T) s4 t → Fx (xE T) s4 t := fun h => h.x.mo fun _ _ z => Or.inl z
  cases hx : lawS tb e 13 ([] : List Cl).length 0 [] with
  | inr y =>
    obtain ⟨f, w⟩ := y
    rw [hx] at hL
    obtain ⟨s', q1, q2, q3⟩ := hL
    have hb' : TBd f w (iS s' 1 1 0) := q2.1
    refine ⟨iS s' 1 1 0, hgo q1 ?_, by show s'.1.1 = T0; rw [q3.1]; exact r4.1, by show s'.1.2.1 = T; rw [q3.1]; exact r4.2.1, iG_eq, ((hF7.tr hF4).tr (hxe q3)).st (by unfold xE; omega)⟩
    rw [hb'.sound, if_pos rfl]
    unfold f_X9_faultTold
    rw [hb'.1, hb'.2.1]
  | inl K =>
    rw [hx] at hL
    obtain ⟨s', p', u', W', q1, q2, q3⟩ := hL
    have hTR : TR tb e p' (iS s' 1 1 0) := q2.1.1
    obtain ⟨⟨g1, ⟨g21, g22, g23, g24, g25⟩, g3, g4⟩, g5, g6, g7, g8, g9⟩ := q2
    have hple := g1.2.2.2.2.1
    have r' : s'.1.1 = T0 ∧ s'.1.2.1 = T := by rw [q3.1]; exact ⟨r4.1, r4.2.1⟩
    have h38 : iG s' 3 8 = iG s 3 8 := ((hF7.tr hF4).tr (hxe q3)).1 3 8 (by unfold xE xC xP xT xL; omega)
    have htk : f_X1_takeSpareLaw (iS s' 1 1 0) = ((), iS (qB (qA (iS s' 1 1 0) T) T0) 3 8 (iG s 3 8 + 1)) := by
      unfold f_X1_takeSpareLaw f_X1_changed
      have e1 : (iS s' 1 1 0).1.2.1 = T := r'.2
      have e2 : (iS s' 1 1 0).1.1 = T0 := r'.1
      have e3 : iG (qB (qA (iS s' 1 1 0) T) T0) 3 8 = iG s 3 8 := h38
      rw [e1, e2, sb_mk, sb_mk, e3, sb_mk, tb_mk]
    have hk3 : ∀ o k, ¬ (o = 3 ∧ k = 8) → ¬ (o = 1 ∧ k = 1) → iG (iS (qB (qA (iS s' 1 1 0) T) T0) 3 8 (iG s 3 8 + 1)) o k = iG s' o k := by
      intro o k z1 z2
      rw [iG_if]
      have e0 : iG (qB (qA (iS s' 1 1 0) T) T0) o k = iG s' o k := by
        show iG (iS s' 1 1 0) o k = _
        rw [iG_if]
        by_cases z : o = 1
        · rw [if_pos z, if_neg (by omega)]
        · rw [if_neg z]
      by_cases z : o = 3
      · rw [if_pos z, if_neg (by omega), e0]
      · rw [if_neg z, e0]
    refine ⟨iS (qB (qA (iS s' 1 1 0) T) T0) 3 8 (iG s 3 8 + 1), hgo q1 ?_, rfl, rfl, ⟨W', u', fun i hi => ?_, ?_, g6, fun i c hi => ?_, g8, ?_, g25, g9, by omega⟩, ?_, iG_eq, ?_⟩
    · rw [hTR.sound, if_neg (by decide), htk]
      unfold f_X3_clauses
      rw [hk3 T 8 (by omega) (by omega), g5]
    · rw [hk3 (T + 1) i (by omega) (by omega)]
      exact g23 i hi
    · rw [hk3 T 8 (by omega) (by omega)]; exact g5
    · rw [hk3 (T + 2) i (by omega) (by omega), hk3 (T + 3) i (by omega) (by omega), hk3 (T + 4) i (by omega) (by omega), hk3 (T + 5) i (by omega) (by omega)]
      exact g7 i c hi
    · rw [hk3 T 9 (by omega) (by omega)]; exact g24
    · rfl
    · have hA : Fx (fun o k => xE T o k ∨ (o = 3 ∧ k = 8)) s s' := ((hF7.tr hF4).tr (hxe q3)).mo fun _ _ z => Or.inl z
      have hB : Fx (fun o k => xE T o k ∨ (o = 3 ∧ k = 8)) s' (qB (qA (iS s' 1 1 0) T) T0) := (Fx.rf (P := fun o k => xE T o k ∨ (o = 3 ∧ k = 8)) (s := s')).st (o := 1) (k := 1) (v := 0) (Or.inl (by unfold xE; omega))
      exact (hA.tr hB).st (Or.inr ⟨rfl, rfl⟩)
/-! both -/
def TapI (s : cS) : Prop := ∃ (n : Nat) (tb : Nat → Nat), n ≤ 200 ∧ iG s 1 1 = nI n ∧ iG s 193 1 = nI n ∧ (∀ i, tb i < 256) ∧ ∀ i, i < 200 → iG s 2 i = nI (tb i) ∧ iG s 194 i &&& 255 = nI (tb i)
def tapQ (o k : Nat) : Prop := (o = 1 ∧ k = 1) ∨ (o = 193 ∧ k = 1) ∨ o = 2 ∨ o = 194
theorem TapI.rd : Rd tapQ TapI := by
  rintro s t h - ⟨n, tb, h1, h2, h3, h4, h5⟩
  refine ⟨n, tb, h1, by rw [h 1 1 (by unfold tapQ; omega)]; exact h2, by rw [h 193 1 (by unfold tapQ; omega)]; exact h3, h4, fun i hi => ?_⟩
  rw [h 2 i (by unfold tapQ; omega), h 194 i (by unfold tapQ; omega)]
  exact h5 i hi
/-- the law of both is K -/
def LawK (K : List Cl) (s : cS) : Prop := (s.1.1 = 11 ∧ s.1.2.1 = 19 ∨ s.1.1 = 19 ∧ s.1.2.1 = 11) ∧ LwX K s.1.1 s ∧ LwM K s
def lawQ (o k : Nat) : Prop := (o = 11 ∧ (k = 8 ∨ k = 9)) ∨ (12 ≤ o ∧ o ≤ 16) ∨ (o = 19 ∧ (k = 8 ∨ k = 9)) ∨ (20 ≤ o ∧ o ≤ 24) ∨ lmQ o k
theorem LawK.fx {K : List Cl} {P : Nat → Nat → Prop} {s t : cS} (h : LawK K s) (r1 : t.1.1 = s.1.1) (r2 : t.1.2.1 = s.1.2.1) (hF : Fx P s t) (hd : ∀ o k, lawQ o k → ¬ P o k) : LawK K t := by
  obtain ⟨h1, h2, h3⟩ := h
  refine ⟨by rw [r1, r2]; exact h1, ?_, LwM.rd.fx hF h3 fun o k z => hd o k (by unfold lawQ; exact Or.inr (Or.inr (Or.inr (Or.inr z))))⟩
  rw [r1]
  refine LwX.rd.fx hF h2 fun o k z => hd o k ?_
  unfold lwQ at z
  unfold lawQ
  rcases h1 with ⟨h1, -⟩ | ⟨h1, -⟩ <;> rw [h1] at z <;> omega
def lawP (o k : Nat) : Prop := (o = 1 ∧ 1 ≤ k ∧ k ≤ 5) ∨ (11 ≤ o ∧ o ≤ 16) ∨ (19 ≤ o ∧ o ≤ 24) ∨ (o = 193 ∧ (k = 1 ∨ k = 15 ∨ (28 ≤ k ∧ k ≤ 36))) ∨ (202 ≤ o ∧ o ≤ 214) ∨ (o = 3 ∧ k = 8)
theorem m_law {s : cS} (hTp : TapI s) (hLw : ∃ K, LawK K s) (a0 : Int32) : ∃ r s1 s2, r_X11_law a0 s r s1 ∧ r_X12_law a0 s1 r s2 ∧ TapI s2 ∧ (∃ K, LawK K s2) ∧ ((iG s2 3 8 = iG s 3 8 ∧ ∀ K, LawK K s → LawK K s2) ∨ iG s2 3 8 = iG s 3 8 + 1) ∧ Fx lawP s s2 := by
  have hTp0 := hTp
  obtain ⟨n, tb, hn, hx, hm, hb, hby⟩ := hTp
  have hnone : ∀ a0 : Int32, (wB a0 1 160 = 0 ∨ ¬ a0 ≤ nI n) → ∃ r s1 s2, r_X11_law a0 s r s1 ∧ r_X12_law a0 s1 r s2 ∧ TapI s2 ∧ (∃ K, LawK K s2) ∧ ((iG s2 3 8 = iG s 3 8 ∧ ∀ K, LawK K s → LawK K s2) ∨ iG s2 3 8 = iG s 3 8 + 1) ∧ Fx lawP s s2 := by
    intro a0 h
    refine ⟨-1, s, s, ⟨0, ?_⟩, ⟨0, ?_⟩, hTp0, hLw, Or.inl ⟨rfl, fun _ h => h⟩, Fx.rf⟩
    · unfold f_X11_law f_X9_size
      rw [hx]
      by_cases c : wB a0 1 160 = 0
      · rw [if_pos c]
      · rw [if_neg c, if_neg (h.resolve_left c)]
    · unfold f_X12_law
      rw [lIn_w (a' := 1) (b' := 160) rfl rfl, hm]
      by_cases c : wB a0 1 160 = 0
      · rw [if_pos c]
      · rw [if_neg c, if_neg (h.resolve_left c)]
  rcases wB_c a0 1 160 (by decide) (by decide) with c1 | ⟨e, he0, he1, rfl, c1⟩
  · exact hnone a0 (Or.inl c1)
  · by_cases hen : e ≤ n
    · obtain ⟨K0, hK0⟩ := hLw
      obtain ⟨T, T0, hT, h21, h11, hne⟩ : ∃ T T0, (T = 11 ∨ T = 19) ∧ s.1.2.1 = T ∧ s.1.1 = T0 ∧ (T0 = 11 ∧ T = 19 ∨ T0 = 19 ∧ T = 11) := by
        rcases hK0.1 with ⟨a, b⟩ | ⟨a, b⟩
        · exact ⟨19, 11, Or.inr rfl, b, a, Or.inl ⟨rfl, rfl⟩⟩
        · exact ⟨11, 19, Or.inl rfl, b, a, Or.inr ⟨rfl, rfl⟩⟩
      have hA := A_law hT h21 h11 hb hx hn (fun i hi => (hby i hi).1) he0 he1 hen
      cases hl : lawS tb e 13 0 0 [] with
      | inr y =>
        obtain ⟨f, w⟩ := y
        rw [hl] at hA
        obtain ⟨s1, a1, a2, a3, a4, a5⟩ := hA
        have hm1 : iG s1 193 1 = nI n := by rw [a5.1 193 1 (by unfold xE xC xP xT xL; omega)]; exact hm
        have hB := B_law (tb := tb) (e := e) (n := n) (s := s1) hb hm1 hn (fun i hi => by rw [a5.1 194 i (by unfold xE xC xP xT xL; omega)]; exact (hby i hi).2) he0 he1 hen
        rw [hl] at hB
        obtain ⟨s2, b1, b2, b3⟩ := hB
        have hF : Fx (fun o k => xE T o k ∨ mW0 o k) s s2 := (a5.mo fun _ _ z => Or.inl z).tr (b3.x.mo fun _ _ z => Or.inr z)
        have hkeep : ∀ K, LawK K s → LawK K s2 := by
          intro K hK
          obtain ⟨q1, q2, q3⟩ := hK
          refine ⟨?_, ?_, LwM.rd.fx hF q3 fun o k z => ?_⟩
          · rw [b3.1, a2, a3]; rcases hne with ⟨rfl, rfl⟩ | ⟨rfl, rfl⟩ <;> simp
          · rw [b3.1, a2]
            rw [h11] at q2
            refine LwX.rd.fx hF q2 fun o k z => ?_
            unfold lwQ at z
            unfold xE xC xP xT xL mW0 mL mC mQ mP
            rcases hne with ⟨rfl, rfl⟩ | ⟨rfl, rfl⟩ <;> omega
          · unfold lmQ at z
            unfold xE xC xP xT xL mW0 mL mC mQ mP
            omega
        refine ⟨_, s1, s2, a1.ex, b1.ex, ⟨0, tb, by omega, ?_, by rw [b2]; rfl, hb, fun i hi => ?_⟩, ⟨K0, hkeep K0 hK0⟩, Or.inl ⟨hF.1 3 8 (by unfold xE xC xP xT xL mW0 mL mC mQ mP; omega), hkeep⟩, hF.mo fun o k z => ?_⟩
        · rw [b3.int (by unfold mW0 mL mC mQ mP; omega), a4]; rfl
        · rw [hF.1 2 i (by unfold xE xC xP xT xL mW0 mL mC mQ mP; omega), hF.1 194 i (by unfold xE xC xP xT xL mW0 mL mC mQ mP; omega)]
          exact hby i hi
        · unfold xE xC xP xT xL mW0 mL mC mQ mP at z
          unfold lawP
          omega
      | inl K =>
        rw [hl] at hA
        obtain ⟨s1, a1, a2, a3, a4, a5, a6, a7⟩ := hA
        have hm1 : iG s1 193 1 = nI n := by rw [a7.1 193 1 (by unfold xE xC xP xT xL; omega)]; exact hm
        have hB := B_law (tb := tb) (e := e) (n := n) (s := s1) hb hm1 hn (fun i hi => by rw [a7.1 194 i (by unfold xE xC xP xT xL; omega)]; exact (hby i hi).2) he0 he1 hen
        rw [hl] at hB
        obtain ⟨s2, b1, b2, b3, b4⟩ := hB
        have hF : Fx (fun o k => (xE T o k ∨ (o = 3 ∧ k = 8)) ∨ mW o k) s s2 := (a7.mo fun _ _ z => Or.inl z).tr (b4.x.mo fun _ _ z => Or.inr z)
        have hX2 : LwX K T s2 := LwX.rd.fx b4.x a4 fun o k z => by
          unfold lwQ at z
          unfold mW mW0 mL mC mQ mP
          omega
        refine ⟨_, s1, s2, a1.ex, b1.ex, ⟨0, tb, by omega, ?_, by rw [b3]; rfl, hb, fun i hi => ?_⟩, ⟨K, ?_, by rw [b4.1, a2]; exact hX2, b2⟩, Or.inr ?_, hF.mo fun o k z => ?_⟩
        · rw [b4.int (by unfold mW mW0 mL mC mQ mP; omega), a5]; rfl
        · rw [hF.1 2 i (by unfold xE xC xP xT xL mW mW0 mL mC mQ mP; omega), hF.1 194 i (by unfold xE xC xP xT xL mW mW0 mL mC mQ mP; omega)]
          exact hby i hi
        · rw [b4.1, a2, a3]; rcases hne with ⟨rfl, rfl⟩ | ⟨rfl, rfl⟩ <;> simp
        · rw [b4.int (by unfold mW mW0 mL mC mQ mP; omega), a6]
        · unfold xE xC xP xT xL mW mW0 mL mC mQ mP at z
          unfold lawP
          omega
    · exact hnone _ (Or.inr (nI_ge (by omega) (by omega)))
