/-! a value's text: the reference's loop comes to what the grammar says -/
def VG (tb : Nat → Nat) (e : Nat) (x : PR) (p d : Nat) (τ : List Nat) (C : Cd) (s : cS) : Prop := match x with
  | .inl (p', L) => p < p' ∧ ∃ s', MR tb e p' d τ (C ++ L) s' ∧ Fw mQ s s' ∧ ∀ q, EB s' q → EF s q
  | .inr (f, w) => ∃ s', Mbd f w s' ∧ Fw mQ s s' ∧ EF s s'
def VT (tb : Nat → Nat) (e : Nat) (ops : List Nat) (x : PR) (p d : Nat) (τ : List Nat) (C : Cd) (s : cS) : Prop := match x with
  | .inl (p', L) => p < p' ∧ cq tb e p' ∉ ops ∧ ∃ s' u C', MR tb e p' d (u ++ τ) C' s' ∧ (∀ c ∈ u, c ∈ ops) ∧ C' ++ pnd u = C ++ L ∧ Fw mQ s s' ∧ ∀ q, EB s' q → EF s q
  | .inr (f, w) => ∃ s', Mbd f w s' ∧ Fw mQ s s' ∧ EF s s'
def VL (tb : Nat → Nat) (e : Nat) (ops : List Nat) (x : PR) (p d : Nat) (τ : List Nat) (C : Cd) (s : cS) : Prop := match x with
  | .inl (p', L) => p ≤ p' ∧ cq tb e p' ∉ ops ∧ ∃ s' u C', MR tb e p' d (u ++ τ) C' s' ∧ (∀ c ∈ u, c ∈ ops) ∧ C' ++ pnd u = C ++ L ∧ Fw mQ s s' ∧ ∀ q, EB s' q → EB s q
  | .inr (f, w) => ∃ s', Mbd f w s' ∧ Fw mQ s s' ∧ EB s s'
theorem cq_end {tb : Nat → Nat} {e p : Nat} (h : e ≤ p) : cq tb e p = 256 := by
  unfold cq
  rw [if_neg (by omega)]
section
variable {tb : Nat → Nat} {e : Nat}
theorem B_lpt {d : Nat} {fac : Nat → Nat → PR} (HF : ∀ (p : Nat) (τ : List Nat) (C : Cd) (s : cS), MR tb e p d τ C s → VG tb e (fac d p) p d τ C s) {τ : List Nat} {C : Cd} (ht : τ.headD 0 ∉ timesL) : ∀ (k p : Nat) (L : Cd) (u : List Nat) (C' : Cd) (s : cS), MR tb e p d (u ++ τ) C' s → (∀ c ∈ u, c ∈ timesL) → C' ++ pnd u = C ++ L → 160 ≤ k + p → VL tb e timesL (lpS tb e timesL fac k d p L) p d τ C s := by
  intro k
  induction k with
  | zero =>
    intro p L u C' s h hu hC hk
    have hle := h.le
    exact ⟨Nat.le_refl _, by rw [cq_end (by omega)]; decide, s, u, C', h, hu, hC, Fw.rf, fun q kq => kq⟩
  | succ k ih =>
    intro p L u C' s h hu hC hk
    unfold lpS
    by_cases hc : cq tb e p ∈ timesL
    · rw [if_pos hc]
      obtain ⟨t, a1, a2, a3⟩ := stays_t h hc hu ht
      rw [hC] at a1
      have hF := HF (p + 1) (cq tb e p :: τ) (C ++ L) t a1
      cases hx : fac d (p + 1) with
      | inl y =>
        obtain ⟨p1, L1⟩ := y
        rw [hx] at hF
        obtain ⟨b1, s1, b2, b3, b4⟩ := hF
        have hI := ih p1 (L ++ L1 ++ [(cq tb e p, 0)]) [cq tb e p] (C ++ L ++ L1) s1 b2 (fun c hz => by rw [List.mem_singleton.mp hz]; exact hc) (by simp [pnd]) (by omega)
        show VL tb e timesL (lpS tb e timesL fac k d p1 (L ++ L1 ++ [(cq tb e p, 0)])) p d τ C s
        cases hy : lpS tb e timesL fac k d p1 (L ++ L1 ++ [(cq tb e p, 0)]) with
        | inl z =>
          rw [hy] at hI
          obtain ⟨c1, c2, s', u', C'', c3, c4, c5, c6, c7⟩ := hI
          exact ⟨by omega, c2, s', u', C'', c3, c4, c5, a2.tr (b3.tr c6), fun q kq => a3 q (b4 q (c7 q kq))⟩
        | inr z =>
          rw [hy] at hI
          obtain ⟨s', c1, c2, c3⟩ := hI
          exact ⟨s', c1, a2.tr (b3.tr c2), a3 _ (b4 _ c3)⟩
      | inr y =>
        rw [hx] at hF
        obtain ⟨s', b1, b2, b3⟩ := hF
        exact ⟨s', b1, a2.tr b2, a3 _ b3⟩
    · rw [if_neg hc]
      exact ⟨Nat.le_refl _, hc, s, u, C', h, hu, hC, Fw.rf, fun q kq => kq⟩
theorem B_term {d : Nat} {sum : Nat → Nat → PR} (HF : ∀ (p : Nat) (τ : List Nat) (C : Cd) (s : cS), MR tb e p d τ C s → VG tb e (facS tb e sum d p) p d τ C s) (p : Nat) (τ : List Nat) (C : Cd) (s : cS) (h : MR tb e p d τ C s) (ht : τ.headD 0 ∉ timesL) : VT tb e timesL (termS tb e sum d p) p d τ C s := by
  show VT tb e timesL (match facS tb e sum d p with | .inl (p', L) => lpS tb e timesL (facS tb e sum) 160 d p' L | .inr f => .inr f) p d τ C s
  have hF := HF p τ C s h
  cases hx : facS tb e sum d p with
  | inl y =>
    obtain ⟨p1, L1⟩ := y
    rw [hx] at hF
    obtain ⟨b1, s1, b2, b3, b4⟩ := hF
    have hI := B_lpt HF (C := C) ht 160 p1 L1 [] (C ++ L1) s1 b2 (fun c hz => by cases hz) (by simp [pnd]) (by omega)
    show VT tb e timesL (lpS tb e timesL (facS tb e sum) 160 d p1 L1) p d τ C s
    cases hy : lpS tb e timesL (facS tb e sum) 160 d p1 L1 with
    | inl z =>
      rw [hy] at hI
      obtain ⟨c1, c2, s', u', C'', c3, c4, c5, c6, c7⟩ := hI
      exact ⟨by omega, c2, s', u', C'', c3, c4, c5, b3.tr c6, fun q kq => b4 q (c7 q kq)⟩
    | inr z =>
      rw [hy] at hI
      obtain ⟨s', c1, c2, c3⟩ := hI
      exact ⟨s', c1, b3.tr c2, b4 _ c3⟩
  | inr y =>
    rw [hx] at hF
    exact hF
theorem ops_join {c : Nat} (h1 : c ∉ timesL) (h2 : c ∉ ([43, 45] : List Nat)) : c ∉ opsL := by
  unfold timesL at h1
  unfold opsL
  simp only [List.mem_cons, List.not_mem_nil, or_false] at h1 h2 ⊢
  omega
theorem times_ops {c : Nat} (h : c ∈ timesL) : c ∈ opsL := Classical.not_not.mp fun z => (ops_split z).1 h
theorem plus_ops {c : Nat} (h : c ∈ ([43, 45] : List Nat)) : c ∈ opsL ∧ c ∉ timesL := by
  unfold opsL timesL
  simp only [List.mem_cons, List.not_mem_nil, or_false] at h ⊢
  omega
theorem B_lps {d : Nat} {term : Nat → Nat → PR} (HT : ∀ (p : Nat) (τ : List Nat) (C : Cd) (s : cS), MR tb e p d τ C s → τ.headD 0 ∉ timesL → VT tb e timesL (term d p) p d τ C s) {τ : List Nat} {C : Cd} (ht : τ.headD 0 ∉ opsL) : ∀ (k p : Nat) (L : Cd) (u : List Nat) (C' : Cd) (s : cS), MR tb e p d (u ++ τ) C' s → (∀ c ∈ u, c ∈ opsL) → C' ++ pnd u = C ++ L → 160 ≤ k + p → cq tb e p ∉ timesL → VL tb e opsL (lpS tb e [43, 45] term k d p L) p d τ C s := by
  intro k
  induction k with
  | zero =>
    intro p L u C' s h hu hC hk _
    have hle := h.le
    exact ⟨Nat.le_refl _, by rw [cq_end (by omega)]; decide, s, u, C', h, hu, hC, Fw.rf, fun q kq => kq⟩
  | succ k ih =>
    intro p L u C' s h hu hC hk hnt
    unfold lpS
    by_cases hc : cq tb e p ∈ ([43, 45] : List Nat)
    · rw [if_pos hc]
      obtain ⟨t, a1, a2, a3⟩ := stays_p h hc hu ht
      rw [hC] at a1
      have hF := HT (p + 1) (cq tb e p :: τ) (C ++ L) t a1 (plus_ops hc).2
      cases hx : term d (p + 1) with
      | inl y =>
        obtain ⟨p1, L1⟩ := y
        rw [hx] at hF
        obtain ⟨b1, b5, s1, u1, C1, b2, b6, b7, b3, b4⟩ := hF
        have hI := ih p1 (L ++ L1 ++ [(cq tb e p, 0)]) (u1 ++ [cq tb e p]) C1 s1 (by simpa using b2) (fun c hz => by
          rcases List.mem_append.mp hz with z | z
          · exact times_ops (b6 c z)
          · rw [List.mem_singleton.mp z]; exact (plus_ops hc).1) (by
            have : pnd (u1 ++ [cq tb e p]) = pnd u1 ++ [(cq tb e p, 0)] := by simp [pnd]
            rw [this, ← List.append_assoc, b7]
            simp) (by omega) b5
        show VL tb e opsL (lpS tb e [43, 45] term k d p1 (L ++ L1 ++ [(cq tb e p, 0)])) p d τ C s
        cases hy : lpS tb e [43, 45] term k d p1 (L ++ L1 ++ [(cq tb e p, 0)]) with
        | inl z =>
          rw [hy] at hI
          obtain ⟨c1, c2, s', u', C'', c3, c4, c5, c6, c7⟩ := hI
          exact ⟨by omega, c2, s', u', C'', c3, c4, c5, a2.tr (b3.tr c6), fun q kq => a3 q (b4 q (c7 q kq))⟩
        | inr z =>
          rw [hy] at hI
          obtain ⟨s', c1, c2, c3⟩ := hI
          exact ⟨s', c1, a2.tr (b3.tr c2), a3 _ (b4 _ c3)⟩
      | inr y =>
        rw [hx] at hF
        obtain ⟨s', b1, b2, b3⟩ := hF
        exact ⟨s', b1, a2.tr b2, a3 _ b3⟩
    · rw [if_neg hc]
      exact ⟨Nat.le_refl _, ops_join hnt hc, s, u, C', h, hu, hC, Fw.rf, fun q kq => kq⟩
theorem B_sumk {d : Nat} {term : Nat → Nat → PR} (HT : ∀ (p : Nat) (τ : List Nat) (C : Cd) (s : cS), MR tb e p d τ C s → τ.headD 0 ∉ timesL → VT tb e timesL (term d p) p d τ C s) (p : Nat) (τ : List Nat) (C : Cd) (s : cS) (h : MR tb e p d τ C s) (ht : τ.headD 0 ∉ opsL) : VT tb e opsL (chS tb e [43, 45] term d p) p d τ C s := by
  show VT tb e opsL (match term d p with | .inl (p', L) => lpS tb e [43, 45] term 160 d p' L | .inr f => .inr f) p d τ C s
  have hF := HT p τ C s h (ops_split ht).1
  cases hx : term d p with
  | inl y =>
    obtain ⟨p1, L1⟩ := y
    rw [hx] at hF
    obtain ⟨b1, b5, s1, u1, C1, b2, b6, b7, b3, b4⟩ := hF
    have hI := B_lps HT (C := C) ht 160 p1 L1 u1 C1 s1 b2 (fun c hz => times_ops (b6 c hz)) b7 (by omega) b5
    show VT tb e opsL (lpS tb e [43, 45] term 160 d p1 L1) p d τ C s
    cases hy : lpS tb e [43, 45] term 160 d p1 L1 with
    | inl z =>
      rw [hy] at hI
      obtain ⟨c1, c2, s', u', C'', c3, c4, c5, c6, c7⟩ := hI
      exact ⟨by omega, c2, s', u', C'', c3, c4, c5, b3.tr c6, fun q kq => b4 q (c7 q kq)⟩
    | inr z =>
      rw [hy] at hI
      obtain ⟨s', c1, c2, c3⟩ := hI
      exact ⟨s', c1, b3.tr c2, b4 _ c3⟩
  | inr y =>
    rw [hx] at hF
    exact hF
theorem fB_23 {N : Nat} {s : cS} {p d : Nat} {τ : List Nat} {C : Cd} (h : MR tb e p d τ C s) (hc : cq tb e p ≠ 91) : fB N ((), s) = oR (j_X12_factor_23 N s) := by
  show b_X12_factor_0 N s = _
  unfold b_X12_factor_0
  rw [if_neg h.ng, ob_some h.here, if_neg (c := nI (hq tb e p) = 91) (fun z => hc ((h.is (c := 91) (by decide) (by decide)).mp z))]
theorem EF.rt {s s' q : cS} (h : ∀ N, fB N ((), s) = oR (j_X12_factor_23 N s)) (k : Ev (fun N => j_X12_factor_23 N s) ((), s')) (g : EB s' q) : EF s q := by
  refine EF.of ?_ g
  obtain ⟨n, k⟩ := k
  refine ⟨n + 1, fun N K hN hK => ?_⟩
  obtain ⟨K', rfl⟩ : ∃ K', K = K' + 1 := ⟨K - 1, by omega⟩
  rw [itr_oR (h N)]
  exact k N (by omega)
theorem EF.badst {f w : Nat} {s : cS} (h : Mbd f w s) : EF s (iS s 193 36 0) := by
  refine EF.rt (s' := s) (fun N => ?_) (Ev.of fun N => ?_) (EB.bad h)
  · show b_X12_factor_0 N s = _
    unfold b_X12_factor_0
    rw [if_pos h.bad]
  · unfold j_X12_factor_23
    rw [if_pos h.bad]
theorem lets_nd {c : Nat} (h : c ∈ lets) : 97 ≤ c ∧ c < 128 := by
  unfold lets at h
  simp only [List.mem_cons, List.not_mem_nil, or_false] at h
  omega
theorem B_fac {k d : Nat} (IH : ∀ (d p : Nat) (τ : List Nat) (C : Cd) (s : cS), 7 ≤ k + d → MR tb e p d τ C s → τ.headD 0 ∉ opsL → VT tb e opsL (sumS tb e k d p) p d τ C s) (hk : 7 ≤ k + 1 + d) (p : Nat) (τ : List Nat) (C : Cd) (s : cS) (h : MR tb e p d τ C s) : VG tb e (facS tb e (sumS tb e k) d p) p d τ C s := by
  have h31 := hq_31 (e := e) (p := p) h.bt
  unfold facS
  by_cases hl : cq tb e p ∈ lets
  · rw [if_pos hl]
    have hr := lets_nd hl
    have hlt : p < e := cq_lt (tb := tb) (by omega)
    obtain ⟨s1, a1, a2, a3⟩ := h.emita hlt 1 (cq tb e p)
    refine ⟨by omega, _, a2, a3.q, fun q kq => EF.rt (fun N => fB_23 h (by omega)) (Ev.of fun N => ?_) kq⟩
    unfold j_X12_factor_23
    have a1' : f_X12_emit 1 (nI (cq tb e p)) s = some ((), s1) := a1
    rw [if_neg h.ng, ob_some h.dig, if_neg (c := 48 ≤ cq tb e p ∧ cq tb e p ≤ 57) (by omega), if_pos rfl, ob_some h.here, hq_of (by omega), isValue_n _ (by omega), if_pos hl, if_neg (by decide), ob_some h.here, hq_of (by omega), ob_some a1']
    rfl
  · rw [if_neg hl]
    by_cases hb : cq tb e p = 91
    · rw [if_pos hb]
      obtain ⟨s1, a1, a2, a3⟩ := h.opens hb (by decide) (by decide)
      have hst : ∀ N, fB N ((), s) = some (.inl ((), s1)) := by
        intro N
        show b_X12_factor_0 N s = _
        unfold b_X12_factor_0
        rw [if_neg h.ng, ob_some h.here, if_pos (c := nI (hq tb e p) = 91) ((h.is (c := 91) (by decide) (by decide)).mpr hb), ob_some a1]
      by_cases hd : d < 6
      · rw [if_pos hd]
        have a3' : MR tb e (p + 1) (d + 1) (91 :: τ) C s1 := by
          rcases a3 with ⟨-, z⟩ | ⟨z, -⟩
          · exact z
          · exact absurd hd z
        have hI := IH (d + 1) (p + 1) (91 :: τ) C s1 (by omega) a3' (by show 91 ∉ opsL; decide)
        cases hx : sumS tb e k (d + 1) (p + 1) with
        | inl y =>
          obtain ⟨p1, L1⟩ := y
          rw [hx] at hI
          obtain ⟨b1, b5, s2, u1, C1, b2, b6, b7, b3, b4⟩ := hI
          show VG tb e (if cq tb e p1 = 93 then .inl (p1 + 1, L1) else .inr (1, p1)) p d τ C s
          by_cases h93 : cq tb e p1 = 93
          · rw [if_pos h93]
            obtain ⟨t, c1, c2, c3⟩ := stays_b b2 h93 b6
            rw [b7] at c1
            exact ⟨by omega, t, c1, a2.q.tr (b3.tr c2), fun q kq => EF.st hst (b4 q (c3 q kq))⟩
          · rw [if_neg h93]
            obtain ⟨t, c1, c2, c3⟩ := stays_nb b2 b5 h93 b6
            exact ⟨t, c1, a2.q.tr (b3.tr c2), EF.st hst (b4 _ c3)⟩
        | inr y =>
          rw [hx] at hI
          obtain ⟨s', b1, b2, b3⟩ := hI
          exact ⟨s', b1, a2.q.tr b2, EF.st hst b3⟩
      · rw [if_neg hd]
        have a3' : Mbd 5 p s1 := by
          rcases a3 with ⟨z, -⟩ | ⟨-, z⟩
          · exact absurd z hd
          · exact z
        exact ⟨_, a3'.st (Or.inr (by decide)), a2.q.tr (Fw.rf.st (Or.inr ⟨rfl, rfl⟩)), EF.st hst (EF.badst a3')⟩
    · rw [if_neg hb]
      unfold numS
      by_cases hdg : 48 ≤ cq tb e p ∧ cq tb e p ≤ 57
      · rw [if_pos hdg]
        have hr := reads_5 (p0 := p) 5 p 0 (by omega) (by omega) h
        cases hx : digS tb e 5 p 0 with
        | inl y =>
          obtain ⟨p1, v1⟩ := y
          rw [hx] at hr
          obtain ⟨s1, a1, a2, a3, a4⟩ := hr
          have hlt : p < p1 := by
            have := numS_lt (tb := tb) (e := e) (m := 5) (p := p) (p' := p1) (v' := v1) (by decide) (by unfold numS; rw [if_pos hdg, hx])
            exact this
          have hln := h.ln
          obtain ⟨s2, b1, b2, b3⟩ := a2.emit (by omega) 0 v1
          refine ⟨hlt, s2, b2, (a3.tr b3).q, fun q kq => EF.rt (fun N => fB_23 h hb) ?_ kq⟩
          refine Ev.cg (g := fun N => ob (f_X12_reads N s) fun r24 s25 => ob (f_X12_emit 0 r24 s25) fun _ s28 => some ((), s28)) (Ev.bnd (r := nI v1) (s := s1) ?_ (Ev.of fun N => ?_)) (fun N => ?_)
          · refine Ev.cg a1.ev (fun N => ?_)
            unfold f_X12_reads w_X12_reads_7
            rw [h.1]
            rfl
          · rw [ob_some (show f_X12_emit 0 (nI v1) s1 = some ((), s2) from b1)]
          · unfold j_X12_factor_23
            rw [if_neg h.ng, ob_some h.dig, if_pos hdg, if_neg (by decide)]
        | inr y =>
          obtain ⟨f, w⟩ := y
          rw [hx] at hr
          obtain ⟨s1, r, a1, a2, a3⟩ := hr
          refine ⟨iS s1 193 36 0, a2.st (Or.inr (by decide)), a3.q.tr (Fw.rf.st (Or.inr ⟨rfl, rfl⟩)), EF.rt (fun N => fB_23 h hb) (s' := s1) ?_ (EB.bad a2)⟩
          refine Ev.cg (g := fun N => ob (f_X12_reads N s) fun r24 s25 => ob (f_X12_emit 0 r24 s25) fun _ s28 => some ((), s28)) (Ev.bnd (r := r) (s := s1) ?_ (Ev.of fun N => ?_)) (fun N => ?_)
          · refine Ev.cg a1.ev (fun N => ?_)
            unfold f_X12_reads w_X12_reads_7
            rw [h.1]
            rfl
          · unfold f_X12_emit
            rw [if_pos a2.bad, ob_mk]
          · unfold j_X12_factor_23
            rw [if_neg h.ng, ob_some h.dig, if_pos hdg, if_neg (by decide)]
      · rw [if_neg hdg]
        obtain ⟨v, w1, w2⟩ := h.wrongs 1 (by decide) (by decide)
        have w1' : f_X12_wrongs 1 (iG s 193 28) s = ((), iS s 193 30 v) := w1
        refine ⟨_, w2.st (Or.inr (by decide)), (Fw.rf.st (Or.inl (by unfold mP; omega))).st (Or.inr ⟨rfl, rfl⟩), EF.rt (fun N => fB_23 h hb) (Ev.of fun N => ?_) (EB.bad w2)⟩
        have hnl : hq tb e p ∉ lets := by
          intro z
          have hz := lets_nd z
          exact hl (by rw [(hq_cq h.bt (by omega) (by omega)).mp rfl]; exact z)
        unfold j_X12_factor_23
        rw [if_neg h.ng, ob_some h.dig, if_neg hdg, if_pos rfl, ob_some h.here, isValue_n _ h31, if_neg hnl, if_pos rfl, w1', tb_mk]
theorem B_sum : ∀ (k d p : Nat) (τ : List Nat) (C : Cd) (s : cS), 7 ≤ k + d → MR tb e p d τ C s → τ.headD 0 ∉ opsL → VT tb e opsL (sumS tb e k d p) p d τ C s
  | 0, d, p, τ, C, s, hk, h, _ => by
    have := h.dp
    omega
  | k + 1, d, p, τ, C, s, hk, h, ht => B_sumk (fun p τ C s h ht => B_term (fun p τ C s h => B_fac (B_sum k) hk p τ C s h) p τ C s h ht) p τ C s h ht
/-- a value: where a bracket's end stands behind it, the fault is told here already -/
theorem B_value {p d : Nat} {τ : List Nat} {C : Cd} {s : cS} (h : MR tb e p d τ C s) (ht : τ.headD 0 ∉ opsL) (h91 : τ.headD 0 ≠ 91) : match sumS tb e 8 d p with
    | .inl (p', L) => p < p' ∧ cq tb e p' ∉ opsL ∧ ∃ s', Ev (fun N => f_X12_value N s) ((), s') ∧ Fw mQ s s' ∧ ((cq tb e p' = 93 ∧ Mbd 1 p' s') ∨ (cq tb e p' ≠ 93 ∧ MR tb e p' d τ (C ++ L) s'))
    | .inr (f, w) => ∃ s', Ev (fun N => f_X12_value N s) ((), s') ∧ Fw mQ s s' ∧ Mbd f w s' := by
  have hM := (h.beh 0).1
  have hS := (h.beh 0).2
  have hV : ∀ q, EF (iS s 193 36 0) q → Ev (fun N => f_X12_value N s) ((), q) := by
    intro q kq
    obtain ⟨n, hn⟩ := kq.hd hM.good iG_eq
    exact ⟨n, fun N hN => hn N N hN hN⟩
  have hI := B_sum 8 d p τ C _ (by omega) hM ht
  cases hx : sumS tb e 8 d p with
  | inl y =>
    obtain ⟨p1, L1⟩ := y
    rw [hx] at hI
    obtain ⟨b1, b5, s2, u1, C1, b2, b6, b7, b3, b4⟩ := hI
    refine ⟨b1, b5, ?_⟩
    by_cases h93 : cq tb e p1 = 93
    · obtain ⟨t, c1, c2, c3⟩ := stays_e b2 h93 b6 ht h91
      exact ⟨t, hV _ (b4 _ c3), hS.tr (b3.tr c2), Or.inl ⟨h93, c1⟩⟩
    · obtain ⟨t, c1, c2, c3⟩ := stays_o b2 b5 h93 b6 ht h91
      rw [b7] at c1
      exact ⟨t, hV _ (b4 _ c3), hS.tr (b3.tr c2), Or.inr ⟨h93, c1⟩⟩
  | inr y =>
    rw [hx] at hI
    obtain ⟨s', b1, b2, b3⟩ := hI
    exact ⟨s', hV _ b3, hS.tr b2, b1⟩
end
