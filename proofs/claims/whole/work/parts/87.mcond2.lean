/-! a condition's text: the reference's loops come to what the grammar says -/
def VJ (tb : Nat → Nat) (e : Nat) (ops : List Nat) (x : PR) (p d : Nat) (τ : List Nat) (C : Cd) (s : cS) : Prop := match x with
  | .inl (p', L) => p < p' ∧ ((cq tb e p' = 93 ∧ ∃ s', Mbd 1 p' s' ∧ Fw mC s s' ∧ EP s s') ∨ (cq tb e p' ∉ ops ∧ ∃ s' u C', MR tb e p' d (u ++ τ) C' s' ∧ iG s' 193 35 = 0 ∧ (∀ c ∈ u, c ∈ ops) ∧ C' ++ pnd u = C ++ L ∧ Fw mC s s' ∧ ∀ q, EQ s' q → EP s q))
  | .inr (f, w) => ∃ s', Mbd f w s' ∧ Fw mC s s' ∧ EP s s'
def VP (tb : Nat → Nat) (e : Nat) (x : PR) (p d : Nat) (τ : List Nat) (C : Cd) (s : cS) : Prop := match x with
  | .inl (p', L) => p < p' ∧ ((cq tb e p' = 93 ∧ ∃ s', Mbd 1 p' s' ∧ Fw mC s s' ∧ EP s s') ∨ (∃ s', MR tb e p' d τ (C ++ L) s' ∧ iG s' 193 35 = 0 ∧ Fw mC s s' ∧ ∀ q, EE s' q → EP s q))
  | .inr (f, w) => ∃ s', Mbd f w s' ∧ Fw mC s s' ∧ EP s s'
def VK (tb : Nat → Nat) (e : Nat) (ops : List Nat) (x : PR) (p d : Nat) (τ : List Nat) (C : Cd) (s : cS) : Prop := match x with
  | .inl (p', L) => p ≤ p' ∧ ((cq tb e p' = 93 ∧ ∃ s', Mbd 1 p' s' ∧ Fw mC s s' ∧ EQ s s') ∨ (cq tb e p' ∉ ops ∧ ∃ s' u C', MR tb e p' d (u ++ τ) C' s' ∧ iG s' 193 35 = 0 ∧ (∀ c ∈ u, c ∈ ops) ∧ C' ++ pnd u = C ++ L ∧ Fw mC s s' ∧ ∀ q, EQ s' q → EQ s q))
  | .inr (f, w) => ∃ s', Mbd f w s' ∧ Fw mC s s' ∧ EQ s s'
section
variable {tb : Nat → Nat} {e : Nat}
theorem lpS_no {ops : List Nat} {sub : Nat → Nat → PR} {k d p : Nat} {L : Cd} (h : cq tb e p ∉ ops) : lpS tb e ops sub k d p L = .inl (p, L) := by
  cases k with
  | zero => rfl
  | succ k =>
    unfold lpS
    rw [if_neg h]
theorem B_lpj {a : Int32} {c : Nat} {ops' : List Nat} (hca : c = 38 ∧ a = 0 ∨ c = 124 ∧ a = 1) (hops : ∀ x, x ∈ jsOf a ↔ (x ∈ ops' ∨ x = c)) {d : Nat} {sub : Nat → Nat → PR} {τ : List Nat} {C : Cd} (ht : τ.headD 0 ∉ jsOf a) (HS : ∀ (p : Nat) (C : Cd) (s : cS), MR tb e p d (c :: τ) C s → iG s 193 35 = 0 → VJ tb e ops' (sub d p) p d (c :: τ) C s) : ∀ (k p : Nat) (L : Cd) (u : List Nat) (C' : Cd) (s : cS), MR tb e p d (u ++ τ) C' s → iG s 193 35 = 0 → (∀ c ∈ u, c ∈ jsOf a) → C' ++ pnd u = C ++ L → 160 ≤ k + p → cq tb e p ∉ ops' → VK tb e (jsOf a) (lpS tb e [c] sub k d p L) p d τ C s := by
  intro k
  induction k with
  | zero =>
    intro p L u C' s h h35 hu hC hk _
    have hle := h.le
    refine ⟨Nat.le_refl _, Or.inr ⟨?_, s, u, C', h, h35, hu, hC, Fw.rf, fun q kq => kq⟩⟩
    rw [cq_end (by omega)]
    unfold jsOf
    split <;> decide
  | succ k ih =>
    intro p L u C' s h h35 hu hC hk hno
    by_cases hc : cq tb e p = c
    · unfold lpS
      rw [if_pos (by rw [hc]; exact List.mem_singleton.mpr rfl)]
      obtain ⟨t, a1, a4, a2, a3⟩ := goes_j hca h h35 hc hu ht
      rw [hC] at a1
      have hF := HS (p + 1) (C ++ L) t a1 a4
      cases hx : sub d (p + 1) with
      | inl y =>
        obtain ⟨p1, L1⟩ := y
        rw [hx] at hF
        obtain ⟨b1, hF⟩ := hF
        show VK tb e (jsOf a) (lpS tb e [c] sub k d p1 (L ++ L1 ++ [(cq tb e p, 0)])) p d τ C s
        rcases hF with ⟨h93', s', b2, b3, b4⟩ | ⟨b5, s1, u1, C1, b2, b8, b6, b7, b3, b4⟩
        · rw [lpS_no (by rw [h93']; rcases hca with ⟨rfl, -⟩ | ⟨rfl, -⟩ <;> decide)]
          exact ⟨by omega, Or.inl ⟨h93', s', b2, a2.pc.tr b3, a3 _ b4⟩⟩
        · have hI := ih p1 (L ++ L1 ++ [(cq tb e p, 0)]) (u1 ++ [c]) C1 s1 (by simpa using b2) b8 (fun x hz => by
            rcases List.mem_append.mp hz with z | z
            · exact (hops x).mpr (Or.inl (b6 x z))
            · exact (hops x).mpr (Or.inr (List.mem_singleton.mp z))) (by
              have : pnd (u1 ++ [c]) = pnd u1 ++ [(c, 0)] := by simp [pnd]
              rw [this, ← List.append_assoc, b7, hc]
              simp) (by omega) b5
          cases hy : lpS tb e [c] sub k d p1 (L ++ L1 ++ [(cq tb e p, 0)]) with
          | inl z =>
            obtain ⟨p2, L2⟩ := z
            rw [hy] at hI
            obtain ⟨c1, hI⟩ := hI
            rcases hI with ⟨h93'', s', c2, c3, c4⟩ | ⟨c5, s', u', C'', c2, c6, c7, c8, c3, c4⟩
            · exact ⟨by omega, Or.inl ⟨h93'', s', c2, a2.pc.tr (b3.tr c3), a3 _ (b4 _ c4)⟩⟩
            · exact ⟨by omega, Or.inr ⟨c5, s', u', C'', c2, c6, c7, c8, a2.pc.tr (b3.tr c3), fun q kq => a3 q (b4 q (c4 q kq))⟩⟩
          | inr z =>
            rw [hy] at hI
            obtain ⟨s', c2, c3, c4⟩ := hI
            exact ⟨s', c2, a2.pc.tr (b3.tr c3), a3 _ (b4 _ c4)⟩
      | inr y =>
        rw [hx] at hF
        obtain ⟨s', b1, b2, b3⟩ := hF
        exact ⟨s', b1, a2.pc.tr b2, a3 _ b3⟩
    · rw [lpS_no (by simpa using hc)]
      refine ⟨Nat.le_refl _, Or.inr ⟨fun z => ?_, s, u, C', h, h35, hu, hC, Fw.rf, fun q kq => kq⟩⟩
      rcases (hops _).mp z with z | z
      · exact hno z
      · exact hc z
theorem B_chain {a : Int32} {c : Nat} {ops' : List Nat} (hca : c = 38 ∧ a = 0 ∨ c = 124 ∧ a = 1) (hops : ∀ x, x ∈ jsOf a ↔ (x ∈ ops' ∨ x = c)) {d : Nat} {sub : Nat → Nat → PR} {τ : List Nat} (ht : τ.headD 0 ∉ jsOf a) (HS : ∀ (p : Nat) (C : Cd) (s : cS), MR tb e p d (c :: τ) C s → iG s 193 35 = 0 → VJ tb e ops' (sub d p) p d (c :: τ) C s) {p : Nat} {C : Cd} {s : cS} (h0 : VJ tb e ops' (sub d p) p d τ C s) : VJ tb e (jsOf a) (chS tb e [c] sub d p) p d τ C s := by
  unfold chS
  cases hx : sub d p with
  | inl y =>
    obtain ⟨p1, L1⟩ := y
    rw [hx] at h0
    obtain ⟨b1, hF⟩ := h0
    show VJ tb e (jsOf a) (lpS tb e [c] sub 160 d p1 L1) p d τ C s
    rcases hF with ⟨h93', s', b2, b3, b4⟩ | ⟨b5, s1, u1, C1, b2, b8, b6, b7, b3, b4⟩
    · rw [lpS_no (by rw [h93']; rcases hca with ⟨rfl, -⟩ | ⟨rfl, -⟩ <;> decide)]
      exact ⟨by omega, Or.inl ⟨h93', s', b2, b3, b4⟩⟩
    · have hI := B_lpj hca hops (C := C) ht HS 160 p1 L1 u1 C1 s1 b2 b8 (fun x z => (hops x).mpr (Or.inl (b6 x z))) b7 (by omega) b5
      cases hy : lpS tb e [c] sub 160 d p1 L1 with
      | inl z =>
        obtain ⟨p2, L2⟩ := z
        rw [hy] at hI
        obtain ⟨c1, hI⟩ := hI
        rcases hI with ⟨h93'', s', c2, c3, c4⟩ | ⟨c5, s', u', C'', c2, c6, c7, c8, c3, c4⟩
        · exact ⟨by omega, Or.inl ⟨h93'', s', c2, b3.tr c3, b4 _ c4⟩⟩
        · exact ⟨by omega, Or.inr ⟨c5, s', u', C'', c2, c6, c7, c8, b3.tr c3, fun q kq => b4 q (c4 q kq)⟩⟩
      | inr z =>
        rw [hy] at hI
        obtain ⟨s', c2, c3, c4⟩ := hI
        exact ⟨s', c2, b3.tr c3, b4 _ c4⟩
  | inr y =>
    rw [hx] at h0
    exact h0
def hdL : List Nat := [33, 40, 38, 124]
/-- pieces joined by and, joined by or -/
theorem B_choice {d : Nat} {pie : Nat → Nat → PR} (HP : ∀ (p : Nat) (τ : List Nat) (C : Cd) (s : cS), MR tb e p d τ C s → iG s 193 35 = 0 → τ ≠ [] → τ.headD 0 ∈ hdL → VP tb e (pie d p) p d τ C s) {τ : List Nat} {p : Nat} {C : Cd} {s : cS} (h : MR tb e p d (40 :: τ) C s) (h35 : iG s 193 35 = 0) : VJ tb e [38, 124] (choS tb e pie d p) p d (40 :: τ) C s := by
  have H0 : ∀ (p : Nat) (τ : List Nat) (C : Cd) (s : cS), MR tb e p d τ C s → iG s 193 35 = 0 → τ ≠ [] → τ.headD 0 ∈ hdL → τ.headD 0 ≠ 33 → VJ tb e [] (pie d p) p d τ C s := by
    intro p τ C s h h35 hn hh h33
    have hF := HP p τ C s h h35 hn hh
    cases hx : pie d p with
    | inl y =>
      obtain ⟨p1, L1⟩ := y
      rw [hx] at hF
      obtain ⟨b1, hF⟩ := hF
      refine ⟨b1, ?_⟩
      rcases hF with hF | ⟨s', b2, b3, b4, b5⟩
      · exact Or.inl hF
      · exact Or.inr ⟨by simp, s', [], C ++ L1, b2, b3, (fun c hc => by cases hc), by simp [pnd], b4, fun q kq => b5 q (EE.fin b2 h33 b3 kq)⟩
    | inr y =>
      rw [hx] at hF
      exact hF
  have H1 : ∀ (p : Nat) (τ : List Nat) (C : Cd) (s : cS), MR tb e p d τ C s → iG s 193 35 = 0 → τ ≠ [] → (τ.headD 0 = 40 ∨ τ.headD 0 = 124) → VJ tb e (jsOf 0) (chS tb e [38] pie d p) p d τ C s := by
    intro p τ C s h h35 hn hh
    refine B_chain (a := 0) (c := 38) (ops' := []) (Or.inl ⟨rfl, rfl⟩) (fun x => by unfold jsOf; simp) (by unfold jsOf; rcases hh with z | z <;> rw [z] <;> decide) (fun p C s h h35 => H0 p _ C s h h35 (by simp) (by show 38 ∈ hdL; decide) (by show 38 ≠ 33; decide)) (H0 p τ C s h h35 hn (by rcases hh with z | z <;> rw [z] <;> decide) (by rcases hh with z | z <;> rw [z] <;> decide))
  exact B_chain (a := 1) (c := 124) (ops' := jsOf 0) (Or.inr ⟨rfl, rfl⟩) (fun x => by unfold jsOf; simp) (by show 40 ∉ jsOf 1; decide) (fun p C s h h35 => H1 p _ C s h h35 (by simp) (Or.inr rfl)) (H1 p _ C s h h35 (by simp) (Or.inl rfl))
theorem hdL_no {c : Nat} (h : c ∈ hdL) : c ∉ opsL ∧ c ≠ 91 := by
  unfold hdL at h
  unfold opsL
  simp only [List.mem_cons, List.not_mem_nil, or_false] at h ⊢
  omega
theorem sgL_no {c : Nat} (h : c ∈ ([60, 62, 61] : List Nat)) : c ∉ opsL ∧ c ≠ 91 ∧ 0 < c ∧ c < 256 := by
  unfold opsL
  simp only [List.mem_cons, List.not_mem_nil, or_false] at h ⊢
  omega
/-- two values and what is between them -/
theorem B_cmp {d p : Nat} {τ : List Nat} {C : Cd} {s : cS} (h : MR tb e p d τ C s) (h35 : iG s 193 35 = 0) (hh : τ.headD 0 ∈ hdL) (n33 : cq tb e p ≠ 33) (n40 : cq tb e p ≠ 40) : VP tb e (match sumS tb e 8 d p with
    | .inl (p', L) => if cq tb e p' ∈ ([60, 62, 61] : List Nat) then match sumS tb e 8 d (p' + 1) with
        | .inl (p'', L') => .inl (p'', L ++ L' ++ [(cq tb e p', 0)])
        | .inr f => .inr f
      else .inr (1, p')
    | .inr f => .inr f) p d τ C s := by
  have hB : ∀ N, qB' N ((), s) = oR (j_X12_pieceOfC_32 N s) := by
    intro N
    show b_X12_pieceOfC_0 N s = _
    unfold b_X12_pieceOfC_0
    rw [if_neg h.ng, ob_some h.here, if_neg (c := nI (hq tb e p) = 33) (fun z => n33 ((h.is (c := 33) (by decide) (by decide)).mp z)), ob_some h.here, if_neg (c := nI (hq tb e p) = 40) (fun z => n40 ((h.is (c := 40) (by decide) (by decide)).mp z))]
  have h32 : ∀ {s1 s'}, Ev (fun N => f_X12_value N s) ((), s1) → Ev (fun N => j_X12_pieceOfC_43 N s1) ((), s') → Ev (fun N => j_X12_pieceOfC_32 N s) ((), s') := by
    intro s1 s' k1 k2
    refine Ev.cg (Ev.bnd (k := fun N _ s34 => j_X12_pieceOfC_43 N s34) k1 k2) (fun N => ?_)
    unfold j_X12_pieceOfC_32
    rw [if_neg h.ng]
  obtain ⟨g1, g2⟩ := hdL_no hh
  have hV := B_value h g1 g2
  cases hx : sumS tb e 8 d p with
  | inr y =>
    obtain ⟨f, w⟩ := y
    rw [hx] at hV
    obtain ⟨s1, k1, k2, k3⟩ := hV
    refine ⟨s1, k3, k2.c, EP.rt hB (h32 k1 (Ev.of fun N => ?_)) (EQ.bad k3)⟩
    unfold j_X12_pieceOfC_43
    rw [if_pos k3.bad]
  | inl y =>
    obtain ⟨p1, L1⟩ := y
    rw [hx] at hV
    obtain ⟨hlt, hno, s1, k1, k2, k3⟩ := hV
    show VP tb e (if cq tb e p1 ∈ ([60, 62, 61] : List Nat) then match sumS tb e 8 d (p1 + 1) with
        | .inl (p'', L') => .inl (p'', L1 ++ L' ++ [(cq tb e p1, 0)])
        | .inr f => .inr f
      else .inr (1, p1)) p d τ C s
    rcases k3 with ⟨h93, k3⟩ | ⟨h93, k3⟩
    · rw [if_neg (by rw [h93]; decide)]
      refine ⟨s1, k3, k2.c, EP.rt hB (h32 k1 (Ev.of fun N => ?_)) (EQ.bad k3)⟩
      unfold j_X12_pieceOfC_43
      rw [if_pos k3.bad]
    · by_cases hs : cq tb e p1 ∈ ([60, 62, 61] : List Nat)
      · rw [if_pos hs]
        obtain ⟨q1, q2, q3, q4⟩ := sgL_no hs
        have hlt1 : p1 < e := cq_lt (tb := tb) q4
        obtain ⟨s2, a1, a2, a3⟩ := k3.puts hlt1 q3 q4
        have h43 : ∀ {s3 s'}, Ev (fun N => f_X12_value N s2) ((), s3) → Ev (fun N => if f_X12_isGood s3 = 0 then some ((), s3) else ob (f_X12_top s3) fun r20 s21 => ob (f_X12_emit r20 (0 : Int32) s21) fun _ s24 => sb (iS s24 193 34 ((iG s24 193 34) - (1 : Int32))) fun s26 => ob (f_X12_ends N s26) fun _ s28 => some (((), s28))) ((), s') → Ev (fun N => j_X12_pieceOfC_43 N s1) ((), s') := by
          intro s3 s' w1 w2
          refine Ev.cg (Ev.bnd (k := fun N _ s16 => if f_X12_isGood s16 = 0 then some ((), s16) else ob (f_X12_top s16) fun r20 s21 => ob (f_X12_emit r20 (0 : Int32) s21) fun _ s24 => sb (iS s24 193 34 ((iG s24 193 34) - (1 : Int32))) fun s26 => ob (f_X12_ends N s26) fun _ s28 => some (((), s28))) w1 w2) (fun N => ?_)
          unfold j_X12_pieceOfC_43
          rw [if_neg k3.ng, ob_some k3.here, hq_of q4, isSign_n _ (by omega), if_pos hs, if_neg (by decide), ob_some a1]
        have hV2 := B_value a2 q1 q2
        cases hy : sumS tb e 8 d (p1 + 1) with
        | inr y =>
          obtain ⟨f, w⟩ := y
          rw [hy] at hV2
          obtain ⟨s3, w1, w2, w3⟩ := hV2
          refine ⟨s3, w3, (k2.tr (a3.q.tr w2)).c, EP.rt hB (h32 k1 (h43 w1 (Ev.of fun N => ?_))) (EQ.bad w3)⟩
          rw [if_pos w3.bad]
        | inl y =>
          obtain ⟨p2, L2⟩ := y
          rw [hy] at hV2
          obtain ⟨hlt2, hno2, s3, w1, w2, w3⟩ := hV2
          refine ⟨by omega, ?_⟩
          rcases w3 with ⟨h93', w3⟩ | ⟨h93', w3⟩
          · refine Or.inl ⟨h93', s3, w3, (k2.tr (a3.q.tr w2)).c, EP.rt hB (h32 k1 (h43 w1 (Ev.of fun N => ?_))) (EQ.bad w3)⟩
            rw [if_pos w3.bad]
          · obtain ⟨s4, b1, b2, b3⟩ := w3.emitp (cq tb e p1) 0
            have hF := k2.tr (a3.q.tr (w2.tr b3.q))
            refine Or.inr ⟨_, by rw [List.append_assoc] at b2; simpa using b2, by rw [mQ35 hF, h35], hF.c, fun q kq => ?_⟩
            obtain ⟨s', e1, e2, e3, e4⟩ := kq
            refine EP.rt hB (h32 k1 (h43 w1 ?_)) e4
            refine Ev.cg (Ev.bnd (r := ()) (s := s') (Ev.cg e1.ev.up (fun N => ends_itr N _)) (k := fun _ _ s28 => some ((), s28)) (Ev.of fun _ => rfl)) (fun N => ?_)
            have b1' : f_X12_emit (nI (cq tb e p1)) 0 s3 = some ((), s4) := b1
            have ht : f_X12_top s3 = some (nI (cq tb e p1), s3) := w3.top
            rw [if_neg w3.ng, ob_some ht, ob_some b1']
            rfl
      · rw [if_neg hs]
        obtain ⟨v, w1, w2⟩ := k3.wrongs 1 (by decide) (by decide)
        have w1' : f_X12_wrongs 1 (iG s1 193 28) s1 = ((), iS s1 193 30 v) := w1
        refine ⟨_, w2, (k2.tr (Fw.rf.st (Or.inl (by unfold mP; omega)))).c, EP.rt hB (h32 k1 (Ev.of fun N => ?_)) (EQ.bad w2)⟩
        have hns : hq tb e p1 ∉ ([60, 62, 61] : List Nat) := by
          intro z
          have hz := sgL_no z
          exact hs (by rw [(hq_cq h.bt hz.2.2.1 hz.2.2.2).mp rfl]; exact z)
        unfold j_X12_pieceOfC_43
        rw [if_neg k3.ng, ob_some k3.here, isSign_n _ (hq_31 h.bt), if_neg hns, if_pos rfl, w1', tb_mk]
theorem B_piece : ∀ (k d p : Nat) (τ : List Nat) (C : Cd) (s : cS), 7 ≤ k + d → MR tb e p d τ C s → iG s 193 35 = 0 → τ ≠ [] → τ.headD 0 ∈ hdL → VP tb e (pieceS tb e k d p) p d τ C s
  | 0, d, p, τ, C, s, hk, h, _, _, _ => by
    have := h.dp
    omega
  | k + 1, d, p, τ, C, s, hk, h, h35, hn, hh => by
    show VP tb e (pieS tb e (pieceS tb e k) (choS tb e (pieceS tb e k)) (sumS tb e 8) d p) p d τ C s
    unfold pieS
    by_cases c33 : cq tb e p = 33
    · rw [if_pos c33]
      obtain ⟨s1, a1, a2, a3⟩ := h.opens c33 (by decide) (by decide)
      have hst : ∀ N, qB' N ((), s) = some (.inl ((), s1)) := by
        intro N
        show b_X12_pieceOfC_0 N s = _
        unfold b_X12_pieceOfC_0 j_X12_pieceOfC_25b
        rw [if_neg h.ng, ob_some h.here, if_pos (c := nI (hq tb e p) = 33) ((h.is (c := 33) (by decide) (by decide)).mpr c33), ob_some a1]
      by_cases hd : d < 6
      · rw [if_pos hd]
        have a3' : MR tb e (p + 1) (d + 1) (33 :: τ) C s1 := by
          rcases a3 with ⟨-, z⟩ | ⟨z, -⟩
          · exact z
          · exact absurd hd z
        have hI := B_piece k (d + 1) (p + 1) (33 :: τ) C s1 (by omega) a3' (by rw [mP35 a2, h35]) (by simp) (by show 33 ∈ hdL; decide)
        cases hx : pieceS tb e k (d + 1) (p + 1) with
        | inl y =>
          obtain ⟨p1, L1⟩ := y
          rw [hx] at hI
          obtain ⟨b1, hI⟩ := hI
          refine ⟨by omega, ?_⟩
          rcases hI with ⟨h93, s', b2, b3, b4⟩ | ⟨s', b2, b3, b4, b5⟩
          · exact Or.inl ⟨h93, s', b2, a2.pc.tr b3, EP.st hst b4⟩
          · obtain ⟨t, c1, c2, c3⟩ := EE.pop b2
            exact Or.inr ⟨t, by rw [List.append_assoc] at c1; exact c1, by rw [mP35 c2, b3], a2.pc.tr (b4.tr c2.pc), fun q kq => EP.st hst (b5 q (c3 q kq))⟩
        | inr y =>
          rw [hx] at hI
          obtain ⟨s', b1, b2, b3⟩ := hI
          exact ⟨s', b1, a2.pc.tr b2, EP.st hst b3⟩
      · rw [if_neg hd]
        have a3' : Mbd 5 p s1 := by
          rcases a3 with ⟨z, -⟩ | ⟨-, z⟩
          · exact absurd z hd
          · exact z
        exact ⟨s1, a3', a2.pc, EP.st hst (EP.badst a3')⟩
    · rw [if_neg c33]
      by_cases c40 : cq tb e p = 40
      · rw [if_pos c40]
        obtain ⟨s1, a1, a2, a3⟩ := h.opens c40 (by decide) (by decide)
        have hst : ∀ N, qB' N ((), s) = some (.inl ((), s1)) := by
          intro N
          show b_X12_pieceOfC_0 N s = _
          unfold b_X12_pieceOfC_0 j_X12_pieceOfC_25b
          rw [if_neg h.ng, ob_some h.here, if_neg (c := nI (hq tb e p) = 33) (fun z => c33 ((h.is (c := 33) (by decide) (by decide)).mp z)), ob_some h.here, if_pos (c := nI (hq tb e p) = 40) ((h.is (c := 40) (by decide) (by decide)).mpr c40), ob_some a1]
        by_cases hd : d < 6
        · rw [if_pos hd]
          have a3' : MR tb e (p + 1) (d + 1) (40 :: τ) C s1 := by
            rcases a3 with ⟨-, z⟩ | ⟨z, -⟩
            · exact z
            · exact absurd hd z
          have hI := B_choice (pie := pieceS tb e k) (fun p τ C s h h35 hn hh => B_piece k (d + 1) p τ C s (by omega) h h35 hn hh) a3' (by rw [mP35 a2, h35])
          cases hx : choS tb e (pieceS tb e k) (d + 1) (p + 1) with
          | inl y =>
            obtain ⟨p1, L1⟩ := y
            rw [hx] at hI
            obtain ⟨b1, hI⟩ := hI
            show VP tb e (if cq tb e p1 = 41 then .inl (p1 + 1, L1) else .inr (1, p1)) p d τ C s
            rcases hI with ⟨h93, s', b2, b3, b4⟩ | ⟨b5, s', u', C', b2, b6, b7, b8, b3, b4⟩
            · rw [if_neg (by omega)]
              exact ⟨s', b2, a2.pc.tr b3, EP.st hst b4⟩
            · by_cases c41 : cq tb e p1 = 41
              · rw [if_pos c41]
                obtain ⟨t, c1, c4, c2, c3⟩ := goes_e b2 c41 b7 hn
                rw [b8] at c1
                exact ⟨by omega, Or.inr ⟨t, c1, c4, a2.pc.tr (b3.tr c2), fun q kq => EP.st hst (b4 q (c3 q kq))⟩⟩
              · rw [if_neg c41]
                have n38 : cq tb e p1 ≠ 38 ∧ cq tb e p1 ≠ 124 := by simpa using b5
                obtain ⟨t, c1, c2, c3⟩ := goes_x b2 n38.1 n38.2 c41
                exact ⟨t, c1, a2.pc.tr (b3.tr c2.pc), EP.st hst (b4 _ c3)⟩
          | inr y =>
            rw [hx] at hI
            obtain ⟨s', b1, b2, b3⟩ := hI
            exact ⟨s', b1, a2.pc.tr b2, EP.st hst b3⟩
        · rw [if_neg hd]
          have a3' : Mbd 5 p s1 := by
            rcases a3 with ⟨z, -⟩ | ⟨-, z⟩
            · exact absurd z hd
            · exact z
          exact ⟨s1, a3', a2.pc, EP.st hst (EP.badst a3')⟩
      · rw [if_neg c40]
        exact B_cmp h h35 hh c33 c40
end
