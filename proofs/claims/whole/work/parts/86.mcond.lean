/-! the reference's reader of a condition: what comes of it from where a piece is due (EP), behind a piece (EQ), behind a piece whose nots are still open (EE) -/
def mC (o k : Nat) : Prop := mQ o k ∨ (o = 193 ∧ k = 35)
theorem Fw.c {s t : cS} (h : Fw mQ s t) : Fw mC s t := h.mo fun _ _ z => Or.inl z
theorem Fw.pc {s t : cS} (h : Fw mP s t) : Fw mC s t := h.q.c
theorem mQ35 {s t : cS} (h : Fw mQ s t) : iG t 193 35 = iG s 193 35 := h.int (by unfold mQ mP; omega)
theorem mP35 {s t : cS} (h : Fw mP s t) : iG t 193 35 = iG s 193 35 := mQ35 h.q
abbrev cB (N : Nat) (v : Int32 × cS) : Option ((Int32 × cS) ⊕ (Unit × cS)) := b_X12_condition_37 N v.1 v.2
abbrev qB' (N : Nat) (v : Unit × cS) : Option ((Unit × cS) ⊕ (Unit × cS)) := b_X12_pieceOfC_0 N v.2
abbrev eB (_ : Nat) (v : Unit × cS) : Option ((Unit × cS) ⊕ (Unit × cS)) := b_X12_ends_0 v.2
def EQ (s q : cS) : Prop := ∃ n, ∀ N M x, n ≤ N → n ≤ M → aft (cB N) M (j_X12_condition_59 N x s) = some ((), q)
def EE (s q : cS) : Prop := ∃ s', EL eB ((), s) ((), s') ∧ f_X12_isGood s' = 1 ∧ iG s' 193 35 = 0 ∧ EQ s' q
def EP (s q : cS) : Prop := ∃ n, ∀ N M K x, n ≤ N → n ≤ M → n ≤ K → aft (cB N) M (ob (itr (qB' N) K ((), s)) fun _ s21 => j_X12_condition_59 N x s21) = some ((), q)
theorem pie_itr (N : Nat) (s : cS) : f_X12_pieceOfC N s = itr (qB' N) (N + 1) ((), s) := by
  rw [itr_aft]
  show _ = aft _ N (b_X12_pieceOfC_0 N s)
  unfold f_X12_pieceOfC b_X12_pieceOfC_0 j_X12_pieceOfC_25 j_X12_pieceOfC_25b w_X12_pieceOfC_0
  by_cases c1 : f_X12_isGood s = 0
  · rw [if_pos c1, if_pos c1]
    cases j_X12_pieceOfC_32 N s <;> rfl
  · rw [if_neg c1, if_neg c1]
    rcases f_X12_here s with _ | ⟨r1, s1⟩
    · rfl
    · simp only [ob_mk]
      by_cases c2 : r1 = 33
      · rw [if_pos c2, if_pos c2]
        rcases f_X12_opens s1 with _ | ⟨r2, s2⟩ <;> rfl
      · rw [if_neg c2, if_neg c2]
        rcases f_X12_here s1 with _ | ⟨r3, s3⟩
        · rfl
        · simp only [ob_mk]
          by_cases c3 : r3 = 40
          · rw [if_pos c3, if_pos c3]
            rcases f_X12_opens s3 with _ | ⟨r2, s2⟩ <;> rfl
          · rw [if_neg c3, if_neg c3]
            cases j_X12_pieceOfC_32 N s3 <;> rfl
theorem ends_itr (N : Nat) (s : cS) : f_X12_ends N s = itr (eB N) (N + 1) ((), s) := by
  rw [itr_aft]
  show _ = aft _ N (b_X12_ends_0 s)
  unfold f_X12_ends b_X12_ends_0 w_X12_ends_0
  rcases f_X12_top s with _ | ⟨r1, s1⟩
  · rfl
  · simp only [ob_mk]
    by_cases c2 : r1 = 33
    · rw [if_pos c2, if_pos c2]
      rcases f_X12_emit 2 0 s1 with _ | ⟨r2, s2⟩ <;> rfl
    · rw [if_neg c2, if_neg c2]
      rfl
theorem joins_itr (N : Nat) (a : Int32) (s : cS) : f_X12_joins N a s = itr (fun (v : Unit × cS) => b_X12_joins_0 a v.2) (N + 1) ((), s) := by
  rw [itr_aft]
  show _ = aft _ N (b_X12_joins_0 a s)
  unfold f_X12_joins b_X12_joins_0 j_X12_joins_22 j_X12_joins_22b w_X12_joins_0
  rcases f_X12_top s with _ | ⟨r1, s1⟩
  · rfl
  · simp only [ob_mk]
    by_cases c1 : r1 = 38
    · rw [if_pos c1, if_pos c1]
      rcases f_X12_top s1 with _ | ⟨r3, s3⟩
      · rfl
      · simp only [ob_mk]
        rcases f_X12_emit r3 0 s3 with _ | ⟨r4, s4⟩ <;> rfl
    · rw [if_neg c1, if_neg c1]
      by_cases c2 : a = 0
      · rw [if_pos c2, if_pos c2]; rfl
      · rw [if_neg c2, if_neg c2]
        rcases f_X12_top s1 with _ | ⟨r2, s2⟩
        · rfl
        · simp only [ob_mk]
          by_cases c3 : r2 = 124
          · rw [if_pos c3, if_pos c3]
            rcases f_X12_top s2 with _ | ⟨r3, s3⟩
            · rfl
            · simp only [ob_mk]
              rcases f_X12_emit r3 0 s3 with _ | ⟨r4, s4⟩ <;> rfl
          · rw [if_neg c3, if_neg c3]; rfl
def jsOf (a : Int32) : List Nat := if a = 0 then [38] else [38, 124]
theorem mem_jsOf {a : Int32} {c : Nat} : c ∈ jsOf a ↔ (c = 38 ∨ (a ≠ 0 ∧ c = 124)) := by
  unfold jsOf
  by_cases h : a = 0
  · simp [h]
  · simp [h]
section
variable {tb : Nat → Nat} {e p d : Nat} {σ τ u : List Nat} {C : Cd} {s : cS}
theorem MR.topi (h : MR tb e p d σ C s) {c : Nat} (hc : c < 256) : nI (σ.headD 0) = nI c ↔ σ.headD 0 = c := by
  have := h.hd
  exact nI_eq (by omega) (by omega)
theorem MR.joins (a : Int32) : ∀ (u : List Nat) {C : Cd} {s : cS}, MR tb e p d (u ++ τ) C s → (∀ c ∈ u, c ∈ jsOf a) → τ.headD 0 ∉ jsOf a → ∃ s', EL (fun _ (v : Unit × cS) => b_X12_joins_0 a v.2) ((), s) ((), s') ∧ MR tb e p d τ (C ++ pnd u) s' ∧ Fw mP s s'
  | [], C, s, h, hu, ht => by
    refine ⟨s, EL.en (Ev.of fun _ => ?_), by show MR tb e p d τ (C ++ []) s; rw [List.append_nil]; exact h, Fw.rf⟩
    show b_X12_joins_0 a s = _
    unfold b_X12_joins_0
    have h' : MR tb e p d τ C s := h
    have n0 : τ.headD 0 ≠ 38 := fun z => ht (mem_jsOf.mpr (Or.inl z))
    rw [ob_some h'.top, if_neg (c := nI (τ.headD 0) = 38) fun z => n0 ((h'.topi (c := 38) (by decide)).mp z)]
    by_cases ha : a = 0
    · rw [if_pos ha]; rfl
    · have n2 : τ.headD 0 ≠ 124 := fun z => ht (mem_jsOf.mpr (Or.inr ⟨ha, z⟩))
      rw [if_neg ha, ob_some h'.top, if_neg (c := nI (τ.headD 0) = 124) fun z => n2 ((h'.topi (c := 124) (by decide)).mp z)]
      rfl
  | c :: u, C, s, h, hu, ht => by
    have hc : c < 256 := h.hd
    obtain ⟨s1, b1, b2, b3⟩ := (show MR tb e p d (c :: (u ++ τ)) C s from h).emitp c 0
    obtain ⟨s', k1, k2, k3⟩ := MR.joins a u b2 (fun x hx => hu x (List.mem_cons_of_mem _ hx)) ht
    refine ⟨s', EL.st (v' := ((), iS s1 193 34 (iG s1 193 34 - 1))) (Ev.of fun _ => ?_) k1, ?_, b3.tr k3⟩
    · show b_X12_joins_0 a s = _
      have ht : f_X12_top s = some (nI c, s) := h.top
      have hj : j_X12_joins_22b a s = some (.inl ((), iS s1 193 34 (iG s1 193 34 - 1))) := by
        unfold j_X12_joins_22b
        have b1' : f_X12_emit (nI c) 0 s = some ((), s1) := b1
        rw [ob_some ht, ob_some b1']
        rfl
      unfold b_X12_joins_0
      rw [ob_some ht]
      rcases mem_jsOf.mp (hu c (List.mem_cons_self)) with z | ⟨z1, z2⟩
      · subst z
        rw [if_pos (by rfl), hj]
      · subst z2
        rw [if_neg (by decide), if_neg z1, ob_some ht, if_pos (by rfl), hj]
    · have e1 : C ++ pnd (c :: u) = C ++ [(c, 0)] ++ pnd u := by simp [pnd]
      rw [e1]
      exact k2
theorem MR.joinf (a : Int32) (u : List Nat) {C : Cd} {s : cS} (h : MR tb e p d (u ++ τ) C s) (hu : ∀ c ∈ u, c ∈ jsOf a) (ht : τ.headD 0 ∉ jsOf a) : ∃ s', Ev (fun N => f_X12_joins N a s) ((), s') ∧ MR tb e p d τ (C ++ pnd u) s' ∧ Fw mP s s' := by
  obtain ⟨s', k1, k2, k3⟩ := MR.joins a u h hu ht
  exact ⟨s', Ev.cg k1.ev.up (fun N => joins_itr N a s), k2, k3⟩
theorem EP.hd {s q : cS} (h : EP s q) (hg : f_X12_isGood s = 1) (h35 : iG s 193 35 = 0) : ∃ n, ∀ N M, n ≤ N → n ≤ M → itr (cB N) M (1, s) = some ((), q) := by
  obtain ⟨n, h⟩ := h
  refine ⟨n + 1, fun N M hN hM => ?_⟩
  obtain ⟨M', rfl⟩ : ∃ M', M = M' + 1 := ⟨M - 1, by omega⟩
  rw [itr_aft]
  show aft (cB N) M' (b_X12_condition_37 N 1 s) = _
  unfold b_X12_condition_37
  rw [hg, if_neg (by decide), h35, if_pos rfl, if_neg (by decide), pie_itr]
  exact h N M' (N + 1) 1 (by omega) (by omega) (by omega)
theorem EQ.hd {s q : cS} (h : EQ s q) (hg : f_X12_isGood s = 1) (h35 : iG s 193 35 = 0) : ∃ n, ∀ N M, n ≤ N → n ≤ M → itr (cB N) M (0, s) = some ((), q) := by
  obtain ⟨n, h⟩ := h
  refine ⟨n + 1, fun N M hN hM => ?_⟩
  obtain ⟨M', rfl⟩ : ∃ M', M = M' + 1 := ⟨M - 1, by omega⟩
  rw [itr_aft]
  show aft (cB N) M' (b_X12_condition_37 N 0 s) = _
  unfold b_X12_condition_37
  rw [hg, if_neg (by decide), h35, if_pos rfl, if_pos rfl]
  exact h N M' 0 (by omega) (by omega)
theorem cB_bad {f w N : Nat} {x : Int32} {s : cS} (h : Mbd f w s) : cB N (x, s) = oR (some ((), s)) := by
  show b_X12_condition_37 N x s = _
  unfold b_X12_condition_37
  rw [if_pos h.bad]
theorem EQ.bad {f w : Nat} {s : cS} (h : Mbd f w s) : EQ s s := by
  refine ⟨1, fun N M x hN hM => ?_⟩
  obtain ⟨M', rfl⟩ : ∃ M', M = M' + 1 := ⟨M - 1, by omega⟩
  unfold j_X12_condition_59
  rw [if_pos h.bad]
  show itr (cB N) (M' + 1) (x, s) = _
  rw [itr_oR (cB_bad h)]
theorem EQ.of {s t q : cS} {r : Int32} (hg : f_X12_isGood s = 1) (hs : Ev (fun N => f_X12_goesBehind N s) (r, t)) (k : ∃ n, ∀ N M, n ≤ N → n ≤ M → itr (cB N) M (r, t) = some ((), q)) : EQ s q := by
  obtain ⟨n1, h1⟩ := hs
  obtain ⟨n2, h2⟩ := k
  refine ⟨n1 + n2, fun N M x hN hM => ?_⟩
  unfold j_X12_condition_59
  rw [hg, if_neg (by decide), ob_some (h1 N (by omega))]
  exact h2 N M (by omega) (by omega)
theorem EP.of {s s' q : cS} (h : ∃ n, ∀ N K, n ≤ N → n ≤ K → itr (qB' N) K ((), s) = some ((), s')) (k : EQ s' q) : EP s q := by
  obtain ⟨n1, h⟩ := h
  obtain ⟨n2, k⟩ := k
  refine ⟨n1 + n2, fun N M K x hN hM hK => ?_⟩
  rw [h N K (by omega) (by omega)]
  exact k N M x (by omega) (by omega)
theorem EP.st {s s' q : cS} (h : ∀ N, qB' N ((), s) = some (.inl ((), s'))) (k : EP s' q) : EP s q := by
  obtain ⟨n, k⟩ := k
  refine ⟨n + 1, fun N M K x hN hM hK => ?_⟩
  obtain ⟨K', rfl⟩ : ∃ K', K = K' + 1 := ⟨K - 1, by omega⟩
  rw [itr_l (h N)]
  exact k N M K' x (by omega) (by omega) (by omega)
theorem EP.rt {s s' q : cS} (h : ∀ N, qB' N ((), s) = oR (j_X12_pieceOfC_32 N s)) (k : Ev (fun N => j_X12_pieceOfC_32 N s) ((), s')) (g : EQ s' q) : EP s q := by
  refine EP.of ?_ g
  obtain ⟨n, k⟩ := k
  refine ⟨n + 1, fun N K hN hK => ?_⟩
  obtain ⟨K', rfl⟩ : ∃ K', K = K' + 1 := ⟨K - 1, by omega⟩
  rw [itr_oR (h N)]
  exact k N (by omega)
theorem EP.badst {f w : Nat} {s : cS} (h : Mbd f w s) : EP s s := by
  refine EP.rt (s' := s) (fun N => ?_) (Ev.of fun N => ?_) (EQ.bad h)
  · show b_X12_pieceOfC_0 N s = _
    unfold b_X12_pieceOfC_0
    rw [if_pos h.bad]
  · unfold j_X12_pieceOfC_32 j_X12_pieceOfC_43
    rw [if_pos h.bad, if_pos h.bad]
/-- a not is over -/
theorem EE.pop (h : MR tb e p (d + 1) (33 :: τ) C s) : ∃ t, MR tb e p d τ (C ++ [(2, 0)]) t ∧ Fw mP s t ∧ ∀ q, EE t q → EE s q := by
  obtain ⟨s1, b1, b2, b3⟩ := h.emitp 2 0
  obtain ⟨c1, c2⟩ := b2.cls
  refine ⟨_, c1, b3.tr c2, fun q kq => ?_⟩
  obtain ⟨s', g1, g2⟩ := kq
  refine ⟨s', EL.st (Ev.of fun _ => ?_) g1, g2⟩
  show b_X12_ends_0 s = _
  unfold b_X12_ends_0
  have b1' : f_X12_emit 2 0 s = some ((), s1) := b1
  rw [ob_some h.top, if_pos (by rfl), ob_some b1']
  rfl
theorem EE.fin (h : MR tb e p d τ C s) (ht : τ.headD 0 ≠ 33) (h35 : iG s 193 35 = 0) {q : cS} (k : EQ s q) : EE s q := by
  refine ⟨s, EL.en (Ev.of fun _ => ?_), h.good, h35, k⟩
  show b_X12_ends_0 s = _
  unfold b_X12_ends_0
  rw [ob_some h.top, if_neg (c := nI (τ.headD 0) = 33) fun z => ht ((h.topi (c := 33) (by decide)).mp z)]
  rfl
/-- behind a piece: one more -/
theorem goes_j {a : Int32} {c : Nat} (hca : c = 38 ∧ a = 0 ∨ c = 124 ∧ a = 1) (h : MR tb e p d (u ++ τ) C s) (h35 : iG s 193 35 = 0) (hc : cq tb e p = c) (hu : ∀ c ∈ u, c ∈ jsOf a) (ht : τ.headD 0 ∉ jsOf a) : ∃ t, MR tb e (p + 1) d (c :: τ) (C ++ pnd u) t ∧ iG t 193 35 = 0 ∧ Fw mP s t ∧ ∀ q, EP t q → EQ s q := by
  have hc' : 0 < c ∧ c < 256 := by omega
  have hlt : p < e := cq_lt (tb := tb) (by omega)
  obtain ⟨s1, k1, k2, k3⟩ := MR.joinf a u h hu ht
  obtain ⟨s2, b1, b2, b3⟩ := k2.puts hlt hc'.1 hc'.2
  have h35' : iG s2 193 35 = 0 := by rw [mP35 (k3.tr b3), h35]
  refine ⟨s2, b2, h35', k3.tr b3, fun q kq => EQ.of h.good (r := 1) (t := s2) ?_ (kq.hd b2.good h35')⟩
  have e1 : ∀ N, f_X12_goesBehind N s = ob (f_X12_joins N a s) fun _ s7 => ob (f_X12_puts (nI c) s7) fun _ s10 => some (1, s10) := by
    intro N
    unfold f_X12_goesBehind j_X12_goesBehind_17 j_X12_goesBehind_29
    have hh : hq tb e p = c := by rw [hq_of (by omega), hc]
    rw [ob_some h.here, hh]
    rcases hca with ⟨rfl, rfl⟩ | ⟨rfl, rfl⟩
    · rw [if_pos (by rfl), if_neg (by decide)]
    · rw [if_neg (by decide), if_pos (by rfl), if_pos (by rfl)]
  refine Ev.cg (Ev.bnd k1 (Ev.of fun N => ?_)) e1
  rw [ob_some b1]
/-- behind a piece: what can't stand there -/
theorem goes_x (h : MR tb e p d σ C s) (h1 : cq tb e p ≠ 38) (h2 : cq tb e p ≠ 124) (h3 : cq tb e p ≠ 41) : ∃ t, Mbd 1 p t ∧ Fw mP s t ∧ EQ s t := by
  obtain ⟨v, w1, w2⟩ := h.wrongs 1 (by decide) (by decide)
  have w1' : f_X12_wrongs 1 (iG s 193 28) s = ((), iS s 193 30 v) := w1
  refine ⟨_, w2, Fw.rf.st (by unfold mP; omega), EQ.of h.good (r := 0) (t := iS s 193 30 v) (Ev.of fun N => ?_) ⟨1, fun N M hN hM => ?_⟩⟩
  · unfold f_X12_goesBehind
    rw [ob_some h.here, if_neg (c := nI (hq tb e p) = 38) (fun z => h1 ((h.is (c := 38) (by decide) (by decide)).mp z)), if_neg (c := nI (hq tb e p) = 124) (fun z => h2 ((h.is (c := 124) (by decide) (by decide)).mp z)), if_neg (c := nI (hq tb e p) = 41) (fun z => h3 ((h.is (c := 41) (by decide) (by decide)).mp z)), w1', tb_mk]
  · obtain ⟨M', rfl⟩ : ∃ M', M = M' + 1 := ⟨M - 1, by omega⟩
    rw [itr_oR (cB_bad w2)]
/-- the sign that ends a condition -/
theorem goes_p (h : MR tb e p (d + 1) (u ++ 40 :: τ) C s) (hc : cq tb e p = 41) (hu : ∀ c ∈ u, c ∈ jsOf 1) : ∃ t, MR tb e (p + 1) d τ (C ++ pnd u) t ∧ Fw mP s t ∧ ∀ r t', Ev (fun N => j_X12_goesBehind_104 N (if τ = [] then 1 else 0) t) (r, t') → Ev (fun N => f_X12_goesBehind N s) (r, t') := by
  have hlt : p < e := cq_lt (tb := tb) (by omega)
  obtain ⟨s1, k1, k2, k3⟩ := MR.joinf (τ := 40 :: τ) 1 u h hu (by show 40 ∉ jsOf 1; decide)
  obtain ⟨b1, b2⟩ := k2.pop
  obtain ⟨c1, c2⟩ := b1.cls
  obtain ⟨d1, d2⟩ := c1.adv hlt
  refine ⟨_, d1, k3.tr ((b2.tr c2).tr d2), fun r t' hr => ?_⟩
  refine Ev.cg (g := fun N => ob (f_X12_joins N 1 s) fun _ s15 => sb (iS s15 193 34 ((iG s15 193 34) - (1 : Int32))) fun s17 => sb (iS s17 193 33 ((iG s17 193 33) - (1 : Int32))) fun s18 => sb (iS s18 193 28 ((iG s18 193 28) + (1 : Int32))) fun s19 => if (iG s19 193 34) = 0 then j_X12_goesBehind_104 N (1 : Int32) s19 else j_X12_goesBehind_104 N (0 : Int32) s19) (Ev.bnd k1 (Ev.cg hr fun N => ?_)) (fun N => ?_)
  · dsimp only [sb]
    rw [d1.2.2.1]
    cases τ with
    | nil => rw [if_pos rfl, if_pos (by rfl)]
    | cons c τ =>
      have hl : (c :: τ).length = τ.length + 1 := rfl
      have hln := d1.ln
      have hle := d1.le
      rw [if_neg (nI_ne0 (n := (c :: τ).length) (by omega) (by omega)), if_neg (List.cons_ne_nil c τ)]
  · unfold f_X12_goesBehind
    have hh : hq tb e p = 41 := by rw [hq_of (by omega), hc]
    rw [ob_some h.here, hh, if_neg (by decide), if_neg (by decide), if_pos (by rfl)]
theorem goes_e (h : MR tb e p (d + 1) (u ++ 40 :: τ) C s) (hc : cq tb e p = 41) (hu : ∀ c ∈ u, c ∈ jsOf 1) (ht : τ ≠ []) : ∃ t, MR tb e (p + 1) d τ (C ++ pnd u) t ∧ iG t 193 35 = 0 ∧ Fw mC s t ∧ ∀ q, EE t q → EQ s q := by
  obtain ⟨t, a1, a2, a3⟩ := goes_p h hc hu
  have hM : MR tb e (p + 1) d τ (C ++ pnd u) (iS t 193 35 0) := a1
  refine ⟨iS t 193 35 0, hM, iG_eq, a2.pc.tr (Fw.rf.st (Or.inr ⟨rfl, rfl⟩)), fun q kq => ?_⟩
  obtain ⟨s', g1, g2, g3, g4⟩ := kq
  refine EQ.of h.good (a3 0 s' ?_) (g4.hd g2 g3)
  refine Ev.cg (g := fun N => ob (f_X12_ends N (iS t 193 35 0)) fun _ s25 => some ((0 : Int32), s25)) (Ev.bnd (r := ()) (s := s') (Ev.cg g1.ev.up (fun N => ends_itr N _)) (Ev.of fun _ => rfl)) (fun N => ?_)
  rw [if_neg ht]
  unfold j_X12_goesBehind_104
  rw [if_pos (Or.inl rfl), sb_mk, iG_eq, if_pos rfl]
theorem goes_f (h : MR tb e p (d + 1) (u ++ [40]) C s) (hc : cq tb e p = 41) (hu : ∀ c ∈ u, c ∈ jsOf 1) : ∃ t, MR tb e (p + 1) d [] (C ++ pnd u) t ∧ Fw mC s t ∧ EQ s t := by
  obtain ⟨t, a1, a2, a3⟩ := goes_p (τ := []) h hc hu
  have hM : MR tb e (p + 1) d [] (C ++ pnd u) (iS t 193 35 1) := a1
  refine ⟨iS t 193 35 1, hM, a2.pc.tr (Fw.rf.st (Or.inr ⟨rfl, rfl⟩)), EQ.of h.good (a3 0 (iS t 193 35 1) (Ev.of fun N => ?_)) ⟨1, fun N M hN hM' => ?_⟩⟩
  · rw [if_pos rfl]
    unfold j_X12_goesBehind_104
    rw [if_pos (Or.inr rfl), sb_mk, iG_eq, if_neg (by decide)]
  · obtain ⟨M', rfl⟩ : ∃ M', M = M' + 1 := ⟨M - 1, by omega⟩
    refine itr_oR ?_
    show b_X12_condition_37 N 0 _ = _
    unfold b_X12_condition_37
    rw [hM.good, if_neg (by decide), iG_eq, if_neg (by decide)]
end
