/-! the reference's reader of a value -/
theorem itr_oR {V ρ : Type} {B : V → Option (V ⊕ ρ)} {n : Nat} {v : V} {x : Option ρ} (h : B v = oR x) : itr B (n + 1) v = x := by
  rw [itr_s, h]
  cases x <;> rfl
def aft {V ρ : Type} (B : V → Option (V ⊕ ρ)) (M : Nat) (x : Option (V ⊕ ρ)) : Option ρ := match x with
  | none => none
  | some (.inl v) => itr B M v
  | some (.inr q) => some q
theorem itr_aft {V ρ : Type} (B : V → Option (V ⊕ ρ)) (n : Nat) (v : V) : itr B (n + 1) v = aft B n (B v) := by
  rw [itr_s]; rfl
section
variable {tb : Nat → Nat} {e p d : Nat} {σ τ : List Nat} {C : Cd} {s : cS}
/-! digits -/
theorem reads_5 {p0 : Nat} : ∀ (k p v : Nat) {s : cS}, k ≤ 5 → p0 + 5 = p + k → MR tb e p d σ C s → match digS tb e k p v with
    | .inl (p', v') => ∃ s', EL (fun _ (w : Int32 × cS) => b_X12_reads_7 (nI p0) w.1 w.2) (nI v, s) (nI v', s') ∧ MR tb e p' d σ C s' ∧ Fw mP s s' ∧ p ≤ p'
    | .inr (f, w) => ∃ s' r, EL (fun _ (w : Int32 × cS) => b_X12_reads_7 (nI p0) w.1 w.2) (nI v, s) (r, s') ∧ Mbd f w s' ∧ Fw mP s s' := by
  intro k
  induction k with
  | zero =>
    intro p v s hk5 hk h
    unfold digS
    by_cases c : 48 ≤ cq tb e p ∧ cq tb e p ≤ 57
    · rw [if_pos c]
      have hlt : p < e := cq_lt (tb := tb) (by omega)
      obtain ⟨x, w1, w2⟩ := h.wrongs 2 (by omega) (by omega)
      have w1' : f_X12_wrongs 2 (iG s 193 28) s = ((), iS s 193 30 x) := w1
      have hh : f_X12_here (iS s 193 30 x) = some (nI (hq tb e p), iS s 193 30 x) := by
        have hM := h.here
        unfold f_X12_here at hM ⊢
        have g1 : iG (iS s 193 30 x) 193 28 = iG s 193 28 := rfl
        have g2 : iG (iS s 193 30 x) 193 29 = iG s 193 29 := rfl
        have g3 : ∀ i, iG (iS s 193 30 x) 194 i = iG s 194 i := fun _ => rfl
        rw [g1, g2, g3]
        rw [h.1, h.2.2.2.2.2.2.2.1] at hM ⊢
        have hle := h.le
        rw [if_neg (nI_ge hlt (by omega)), if_pos ((inb_n (by omega)).mpr (by omega))] at hM ⊢
        simp only [Option.some.injEq, Prod.mk.injEq, and_true] at hM ⊢
        exact hM
      refine ⟨iS (iS s 193 30 x) 193 28 (iG (iS s 193 30 x) 193 28 + 1), (10 : Int32) * nI v + nI (hq tb e p) - 48, EL.st (v' := ((10 : Int32) * nI v + nI (hq tb e p) - 48, iS (iS s 193 30 x) 193 28 (iG (iS s 193 30 x) 193 28 + 1))) (Ev.of fun _ => ?_) (EL.en (Ev.of fun _ => ?_)), w2.st (Or.inr (by decide)), (Fw.rf.st (by unfold mP; omega)).st (by unfold mP; omega)⟩
      · show b_X12_reads_7 (nI p0) (nI v) s = _
        unfold b_X12_reads_7
        rw [if_neg h.ng, ob_some h.dig, if_pos c, if_neg (by decide), h.1, if_pos (by rw [show (5 : Int32) = nI 5 from rfl, nI_add, hk]; rfl), ← h.1, w1', tb_mk]
        unfold j_X12_reads_40
        rw [ob_some hh]
        rfl
      · show b_X12_reads_7 (nI p0) _ _ = _
        unfold b_X12_reads_7
        rw [if_pos (Mbd.bad (w2.st (Or.inr (by decide))))]
        rfl
    · rw [if_neg c]
      refine ⟨s, EL.en (Ev.of fun _ => ?_), h, Fw.rf, Nat.le_refl _⟩
      show b_X12_reads_7 (nI p0) (nI v) s = _
      unfold b_X12_reads_7
      rw [if_neg h.ng, ob_some h.dig, if_neg c, if_pos rfl]
      rfl
  | succ k ih =>
    intro p v s hk5 hk h
    unfold digS
    by_cases c : 48 ≤ cq tb e p ∧ cq tb e p ≤ 57
    · rw [if_pos c]
      have hlt : p < e := cq_lt (tb := tb) (by omega)
      obtain ⟨a1, a2⟩ := h.adv hlt
      have hle := h.le
      have hst : b_X12_reads_7 (nI p0) (nI v) s = some (.inl (nI (v * 10 + (cq tb e p - 48)), iS s 193 28 (iG s 193 28 + 1))) := by
        unfold b_X12_reads_7
        rw [if_neg h.ng, ob_some h.dig, if_pos c, if_neg (by decide), h.1, if_neg (by rw [show (5 : Int32) = nI 5 from rfl, nI_add, nI_eq (by omega) (by omega)]; omega)]
        unfold j_X12_reads_40
        rw [ob_some h.here, hq_of (by omega), h.1]
        have e1 : (10 : Int32) * nI v + nI (cq tb e p) - 48 = nI (v * 10 + (cq tb e p - 48)) := by
          show nI 10 * nI v + nI (cq tb e p) - nI 48 = _
          rw [pk_mul, nI_add, pk_sub (by omega)]
          congr 1
          omega
        rw [e1]
        rfl
      have := ih (p + 1) (v * 10 + (cq tb e p - 48)) (by omega) (by omega) a1
      cases hx : digS tb e k (p + 1) (v * 10 + (cq tb e p - 48)) with
      | inl q =>
        rw [hx] at this
        obtain ⟨s', b1, b2, b3, b4⟩ := this
        exact ⟨s', EL.st (Ev.of fun _ => hst) b1, b2, a2.tr b3, by omega⟩
      | inr q =>
        rw [hx] at this
        obtain ⟨s', r, b1, b2, b3⟩ := this
        exact ⟨s', r, EL.st (Ev.of fun _ => hst) b1, b2, a2.tr b3⟩
    · rw [if_neg c]
      refine ⟨s, EL.en (Ev.of fun _ => ?_), h, Fw.rf, Nat.le_refl _⟩
      show b_X12_reads_7 (nI p0) (nI v) s = _
      unfold b_X12_reads_7
      rw [if_neg h.ng, ob_some h.dig, if_neg c, if_pos rfl]
      rfl
theorem digS_le {k p v p' v' : Nat} (h : digS tb e k p v = .inl (p', v')) : p ≤ p' := by
  induction k generalizing p v with
  | zero =>
    unfold digS at h
    split at h
    · cases h
    · cases h; exact Nat.le_refl _
  | succ k ih =>
    unfold digS at h
    split at h
    · have := ih h; omega
    · cases h; exact Nat.le_refl _
/-- a number: at least one digit -/
theorem numS_lt {m p p' v' : Nat} (hm : 0 < m) (h : numS tb e m p = .inl (p', v')) : p < p' := by
  unfold numS at h
  split at h
  · rename_i c
    obtain ⟨m, rfl⟩ : ∃ k, m = k + 1 := ⟨m - 1, by omega⟩
    unfold digS at h
    rw [if_pos c] at h
    have := digS_le h
    omega
  · cases h
/-! pending signs -/
def pnd (u : List Nat) : Cd := u.map fun c => (c, 0)
def opsOf (a : Int32) : List Nat := if a = 0 then timesL else opsL
theorem mem_opsOf {a : Int32} {c : Nat} : c ∈ opsOf a ↔ (c ∈ timesL ∨ (a ≠ 0 ∧ c ∈ ([43, 45] : List Nat))) := by
  unfold opsOf timesL opsL
  by_cases h : a = 0
  · simp [h]
  · simp only [if_neg h, List.mem_cons, List.not_mem_nil, or_false]
    constructor
    · rintro (z | z | z | z | z) <;> simp [z, h]
    · rintro ((z | z | z) | ⟨-, z | z⟩) <;> simp [z]
theorem sums_itr (N : Nat) (a : Int32) (s : cS) : f_X12_sums N a s = itr (fun (v : Unit × cS) => b_X12_sums_0 a v.2) (N + 1) ((), s) := by
  rw [itr_aft]
  unfold f_X12_sums
  show _ = aft _ N (b_X12_sums_0 a s)
  unfold b_X12_sums_0 j_X12_sums_24 j_X12_sums_24b w_X12_sums_0
  rcases f_X12_top s with _ | ⟨r1, s1⟩
  · rfl
  · simp only [ob_mk]
    by_cases c1 : f_X12_isTimes r1 s1 = 0
    · rw [if_pos c1, if_pos c1]
      by_cases c2 : a = 0
      · rw [if_pos c2, if_pos c2]; rfl
      · rw [if_neg c2, if_neg c2]
        rcases f_X12_top s1 with _ | ⟨r2, s2⟩
        · rfl
        · simp only [ob_mk]
          by_cases c3 : f_X12_isPlus r2 s2 = 0
          · rw [if_pos c3, if_pos c3]; rfl
          · rw [if_neg c3, if_neg c3]
            rcases f_X12_top s2 with _ | ⟨r3, s3⟩
            · rfl
            · simp only [ob_mk]
              rcases f_X12_emit r3 0 s3 with _ | ⟨r4, s4⟩ <;> rfl
    · rw [if_neg c1, if_neg c1]
      rcases f_X12_top s1 with _ | ⟨r3, s3⟩
      · rfl
      · simp only [ob_mk]
        rcases f_X12_emit r3 0 s3 with _ | ⟨r4, s4⟩ <;> rfl
theorem Ev.up {β : Type} {f : Nat → Option β} {q : β} (h : Ev f q) : Ev (fun N => f (N + 1)) q := by
  obtain ⟨n, h⟩ := h
  exact ⟨n, fun N hN => h (N + 1) (by omega)⟩
theorem MR.sums (a : Int32) : ∀ (u : List Nat) {C : Cd} {s : cS}, MR tb e p d (u ++ τ) C s → (∀ c ∈ u, c ∈ opsOf a) → τ.headD 0 ∉ opsOf a → ∃ s', EL (fun _ (v : Unit × cS) => b_X12_sums_0 a v.2) ((), s) ((), s') ∧ MR tb e p d τ (C ++ pnd u) s' ∧ Fw mP s s'
  | [], C, s, h, hu, ht => by
    refine ⟨s, EL.en (Ev.of fun _ => ?_), by show MR tb e p d τ (C ++ []) s; rw [List.append_nil]; exact h, Fw.rf⟩
    show b_X12_sums_0 a s = _
    unfold b_X12_sums_0
    have h' : MR tb e p d τ C s := h
    have hd := h'.hd
    rw [ob_some h'.top, isTimes_n s (by omega)]
    have n1 : τ.headD 0 ∉ timesL := fun z => ht (mem_opsOf.mpr (Or.inl z))
    rw [if_neg n1, if_pos rfl]
    by_cases ha : a = 0
    · rw [if_pos ha]; rfl
    · have n2 : τ.headD 0 ∉ ([43, 45] : List Nat) := fun z => ht (mem_opsOf.mpr (Or.inr ⟨ha, z⟩))
      rw [if_neg ha, ob_some h'.top, isPlus_n s (by omega), if_neg n2, if_pos rfl]
      rfl
  | c :: u, C, s, h, hu, ht => by
    have hc : c < 256 := h.hd
    obtain ⟨s1, b1, b2, b3⟩ := (show MR tb e p d (c :: (u ++ τ)) C s from h).emitp c 0
    obtain ⟨s', k1, k2, k3⟩ := MR.sums a u b2 (fun x hx => hu x (List.mem_cons_of_mem _ hx)) ht
    refine ⟨s', EL.st (v' := ((), iS s1 193 34 (iG s1 193 34 - 1))) (Ev.of fun _ => ?_) k1, ?_, b3.tr k3⟩
    · show b_X12_sums_0 a s = _
      have ht : f_X12_top s = some (nI c, s) := h.top
      have hj : j_X12_sums_24b a s = some (.inl ((), iS s1 193 34 (iG s1 193 34 - 1))) := by
        unfold j_X12_sums_24b
        have b1' : f_X12_emit (nI c) 0 s = some ((), s1) := b1
        rw [ob_some ht, ob_some b1']
        rfl
      unfold b_X12_sums_0
      rw [ob_some ht, isTimes_n s (by omega)]
      rcases mem_opsOf.mp (hu c (List.mem_cons_self)) with z | ⟨z1, z2⟩
      · rw [if_pos z, if_neg (by decide), hj]
      · by_cases z : c ∈ timesL
        · rw [if_pos z, if_neg (by decide), hj]
        · rw [if_neg z, if_pos rfl, if_neg z1, ob_some ht, isPlus_n s (by omega), if_pos z2, if_neg (by decide), hj]
    · have e1 : C ++ pnd (c :: u) = C ++ [(c, 0)] ++ pnd u := by simp [pnd]
      rw [e1]
      exact k2
theorem MR.sumf (a : Int32) (u : List Nat) {C : Cd} {s : cS} (h : MR tb e p d (u ++ τ) C s) (hu : ∀ c ∈ u, c ∈ opsOf a) (ht : τ.headD 0 ∉ opsOf a) : ∃ s', Ev (fun N => f_X12_sums N a s) ((), s') ∧ MR tb e p d τ (C ++ pnd u) s' ∧ Fw mP s s' := by
  obtain ⟨s', k1, k2, k3⟩ := MR.sums a u h hu ht
  exact ⟨s', Ev.cg k1.ev.up (fun N => sums_itr N a s), k2, k3⟩
end
/-! the loop of value: what comes of it from where a factor is due (EF), from behind one (EB) -/
abbrev vB (N : Nat) (v : Int32 × cS) : Option ((Int32 × cS) ⊕ (Unit × cS)) := b_X12_value_7 N v.1 v.2
abbrev fB (N : Nat) (v : Unit × cS) : Option ((Unit × cS) ⊕ (Unit × cS)) := b_X12_factor_0 N v.2
def EB (s q : cS) : Prop := ∃ n, ∀ N M, n ≤ N → n ≤ M → aft (vB N) M (j_X12_value_29 N s) = some ((), q)
def EF (s q : cS) : Prop := ∃ n, ∀ N M K, n ≤ N → n ≤ M → n ≤ K → aft (vB N) M (ob (itr (fB N) K ((), s)) fun _ s23 => j_X12_value_29 N s23) = some ((), q)
theorem fac_itr (N : Nat) (s : cS) : f_X12_factor N s = itr (fB N) (N + 1) ((), s) := by
  rw [itr_aft]
  show _ = aft _ N (b_X12_factor_0 N s)
  unfold f_X12_factor b_X12_factor_0 w_X12_factor_0
  by_cases c1 : f_X12_isGood s = 0
  · rw [if_pos c1, if_pos c1]
    cases j_X12_factor_23 N s <;> rfl
  · rw [if_neg c1, if_neg c1]
    rcases f_X12_here s with _ | ⟨r1, s1⟩
    · rfl
    · simp only [ob_mk]
      by_cases c2 : r1 = 91
      · rw [if_pos c2, if_pos c2]
        rcases f_X12_opens s1 with _ | ⟨r2, s2⟩ <;> rfl
      · rw [if_neg c2, if_neg c2]
        cases j_X12_factor_23 N s1 <;> rfl
/-- at the loop's head -/
theorem EF.hd {s q : cS} (h : EF s q) (hg : f_X12_isGood s = 1) (h36 : iG s 193 36 = 0) : ∃ n, ∀ N M, n ≤ N → n ≤ M → itr (vB N) M (1, s) = some ((), q) := by
  obtain ⟨n, h⟩ := h
  refine ⟨n + 1, fun N M hN hM => ?_⟩
  obtain ⟨M', rfl⟩ : ∃ M', M = M' + 1 := ⟨M - 1, by omega⟩
  rw [itr_aft]
  show aft (vB N) M' (b_X12_value_7 N 1 s) = _
  unfold b_X12_value_7
  rw [if_neg (by decide), hg, if_neg (by decide), h36, if_pos rfl, fac_itr]
  exact h N M' (N + 1) (by omega) (by omega) (by omega)
theorem EB.hd {s q : cS} (h : EB s q) (hg : f_X12_isGood s = 1) (h36 : iG s 193 36 = 1) : ∃ n, ∀ N M, n ≤ N → n ≤ M → itr (vB N) M (1, s) = some ((), q) := by
  obtain ⟨n, h⟩ := h
  refine ⟨n + 1, fun N M hN hM => ?_⟩
  obtain ⟨M', rfl⟩ : ∃ M', M = M' + 1 := ⟨M - 1, by omega⟩
  rw [itr_aft]
  show aft (vB N) M' (b_X12_value_7 N 1 s) = _
  unfold b_X12_value_7
  rw [if_neg (by decide), hg, if_neg (by decide), h36, if_neg (by decide)]
  exact h N M' (by omega) (by omega)
theorem EF.of {s s' q : cS} (h : ∃ n, ∀ N K, n ≤ N → n ≤ K → itr (fB N) K ((), s) = some ((), s')) (k : EB s' q) : EF s q := by
  obtain ⟨n1, h⟩ := h
  obtain ⟨n2, k⟩ := k
  refine ⟨n1 + n2, fun N M K hN hM hK => ?_⟩
  rw [h N K (by omega) (by omega)]
  exact k N M (by omega) (by omega)
theorem EF.st {s s' q : cS} (h : ∀ N, fB N ((), s) = some (.inl ((), s'))) (k : EF s' q) : EF s q := by
  obtain ⟨n, k⟩ := k
  refine ⟨n + 1, fun N M K hN hM hK => ?_⟩
  obtain ⟨K', rfl⟩ : ∃ K', K = K' + 1 := ⟨K - 1, by omega⟩
  rw [itr_l (h N)]
  exact k N M K' (by omega) (by omega) (by omega)
/-- the last of a value: 0 at the loop's head -/
theorem vB_0 (N : Nat) (s : cS) : vB N (0, s) = oR (j_X12_value_57 s) := by
  show b_X12_value_7 N 0 s = _
  unfold b_X12_value_7
  rw [if_pos rfl]
theorem EB.bad {f w : Nat} {s : cS} (h : Mbd f w s) : EB s (iS s 193 36 0) := by
  refine ⟨1, fun N M hN hM => ?_⟩
  obtain ⟨M', rfl⟩ : ∃ M', M = M' + 1 := ⟨M - 1, by omega⟩
  have h' : Mbd f w (iS s 193 36 0) := h.st (Or.inr (by decide))
  unfold j_X12_value_29
  rw [sb_mk, if_pos h'.bad]
  unfold j_X12_value_52 j_X12_value_53
  show itr (vB N) (M' + 1) (0, iS s 193 36 0) = _
  rw [itr_oR (vB_0 N _)]
  unfold j_X12_value_57
  rw [if_pos h'.bad]
/-- behind a factor: it goes on -/
theorem EB.go {s t q : cS} (hg : f_X12_isGood (iS s 193 36 0) = 1) (hs : Ev (fun N => f_X12_stays N (iS s 193 36 0)) (1, t)) (k : ∃ n, ∀ N M, n ≤ N → n ≤ M → itr (vB N) M (1, t) = some ((), q)) : EB s q := by
  obtain ⟨n1, h1⟩ := hs
  obtain ⟨n2, h2⟩ := k
  refine ⟨n1 + n2, fun N M hN hM => ?_⟩
  unfold j_X12_value_29
  rw [sb_mk, hg, if_neg (by decide), ob_some (h1 N (by omega)), if_neg (by decide)]
  exact h2 N M (by omega) (by omega)
/-- behind a factor: it is over -/
theorem EB.fin {s t q : cS} (hg : f_X12_isGood (iS s 193 36 0) = 1) (hs : Ev (fun N => f_X12_stays N (iS s 193 36 0)) (0, t)) (k : j_X12_value_57 t = some ((), q)) : EB s q := by
  obtain ⟨n1, h1⟩ := hs
  refine ⟨n1 + 1, fun N M hN hM => ?_⟩
  obtain ⟨M', rfl⟩ : ∃ M', M = M' + 1 := ⟨M - 1, by omega⟩
  unfold j_X12_value_29
  rw [sb_mk, hg, if_neg (by decide), ob_some (h1 N (by omega)), if_pos rfl]
  unfold j_X12_value_52 j_X12_value_53
  show itr (vB N) (M' + 1) (0, t) = _
  rw [itr_oR (vB_0 N _), k]
section
variable {tb : Nat → Nat} {e p d : Nat} {σ τ u : List Nat} {C : Cd} {s : cS}
theorem MR.g36 (h : MR tb e p d σ C s) : f_X12_isGood (iS s 193 36 0) = 1 := (h.beh 0).1.good
/-- a sign between factors: times -/
theorem stays_t (h : MR tb e p d (u ++ τ) C s) (hc : cq tb e p ∈ timesL) (hu : ∀ c ∈ u, c ∈ timesL) (ht : τ.headD 0 ∉ timesL) : ∃ t, MR tb e (p + 1) d (cq tb e p :: τ) (C ++ pnd u) t ∧ Fw mQ s t ∧ ∀ q, EF t q → EB s q := by
  have hc' : 0 < cq tb e p ∧ cq tb e p < 256 := by
    unfold timesL at hc
    simp only [List.mem_cons, List.not_mem_nil, or_false] at hc
    omega
  have hlt : p < e := cq_lt (tb := tb) hc'.2
  have hM := (h.beh 0).1
  have hS := (h.beh 0).2
  have hnp : cq tb e p ∉ ([43, 45] : List Nat) := by
    unfold timesL at hc
    simp only [List.mem_cons, List.not_mem_nil, or_false] at hc ⊢
    omega
  obtain ⟨s1, k1, k2, k3⟩ := MR.sumf (a := 0) u hM hu ht
  obtain ⟨s2, b1, b2, b3⟩ := k2.puts hlt hc'.1 hc'.2
  refine ⟨s2, b2, hS.tr (k3.tr b3).q, fun q kq => EB.go h.g36 (t := s2) ?_ (kq.hd b2.good ?_)⟩
  · have e1 : ∀ N, f_X12_stays N (iS s 193 36 0) = ob (f_X12_sums N 0 (iS s 193 36 0)) fun _ s8 => ob (f_X12_puts (nI (cq tb e p)) s8) fun _ s11 => some (1, s11) := by
      intro N
      unfold f_X12_stays
      rw [ob_some hM.here, hq_of hc'.2, isTimes_n _ (by omega), if_pos hc, if_neg (by decide)]
      unfold j_X12_stays_19
      rw [isPlus_n _ (by omega), if_neg hnp]
    refine Ev.cg (Ev.bnd k1 (Ev.of fun N => ?_)) e1
    rw [ob_some b1]
  · rw [(k3.tr b3).int (by unfold mP; omega)]
    rfl
theorem opsOf1 : opsOf 1 = opsL := rfl
theorem stays_p (h : MR tb e p d (u ++ τ) C s) (hc : cq tb e p ∈ ([43, 45] : List Nat)) (hu : ∀ c ∈ u, c ∈ opsL) (ht : τ.headD 0 ∉ opsL) : ∃ t, MR tb e (p + 1) d (cq tb e p :: τ) (C ++ pnd u) t ∧ Fw mQ s t ∧ ∀ q, EF t q → EB s q := by
  have hc' : 0 < cq tb e p ∧ cq tb e p < 256 := by
    simp only [List.mem_cons, List.not_mem_nil, or_false] at hc
    omega
  have hlt : p < e := cq_lt (tb := tb) hc'.2
  have hM := (h.beh 0).1
  have hS := (h.beh 0).2
  have hnt : cq tb e p ∉ timesL := by
    unfold timesL
    simp only [List.mem_cons, List.not_mem_nil, or_false] at hc ⊢
    omega
  obtain ⟨s1, k1, k2, k3⟩ := MR.sumf (a := 1) u hM hu ht
  obtain ⟨s2, b1, b2, b3⟩ := k2.puts hlt hc'.1 hc'.2
  refine ⟨s2, b2, hS.tr (k3.tr b3).q, fun q kq => EB.go h.g36 (t := s2) ?_ (kq.hd b2.good ?_)⟩
  · have e1 : ∀ N, f_X12_stays N (iS s 193 36 0) = ob (f_X12_sums N 1 (iS s 193 36 0)) fun _ s8 => ob (f_X12_puts (nI (cq tb e p)) s8) fun _ s11 => some (1, s11) := by
      intro N
      unfold f_X12_stays
      rw [ob_some hM.here, hq_of hc'.2, isTimes_n _ (by omega), if_neg hnt, if_pos rfl, isPlus_n _ (by omega), if_pos hc, if_neg (by decide)]
      unfold j_X12_stays_19
      rw [isPlus_n _ (by omega), if_pos hc]
    refine Ev.cg (Ev.bnd k1 (Ev.of fun N => ?_)) e1
    rw [ob_some b1]
  · rw [(k3.tr b3).int (by unfold mP; omega)]
    rfl
theorem ops_split {c : Nat} (h : c ∉ opsL) : c ∉ timesL ∧ c ∉ ([43, 45] : List Nat) := by
  unfold opsL at h
  unfold timesL
  simp only [List.mem_cons, List.not_mem_nil, or_false] at h ⊢
  omega
/-- what is behind a sum, up to the pending signs -/
theorem stays_x (h : MR tb e p d (u ++ τ) C s) (hc : cq tb e p ∉ opsL) (hu : ∀ c ∈ u, c ∈ opsL) (ht : τ.headD 0 ∉ opsL) : ∃ t, MR tb e p d τ (C ++ pnd u) t ∧ Fw mQ s t ∧ iG t 193 36 = 0 ∧ Ev (fun N => f_X12_sums N 1 (iS s 193 36 0)) ((), t) ∧ (∀ N, f_X12_stays N (iS s 193 36 0) = ob (f_X12_sums N 1 (iS s 193 36 0)) fun _ s16 => if nI (hq tb e p) = (93 : Int32) then ob (f_X12_top s16) fun r19 s20 => if r19 = (91 : Int32) then sb (iS s20 193 34 ((iG s20 193 34) - (1 : Int32))) fun s23 => sb (iS s23 193 33 ((iG s23 193 33) - (1 : Int32))) fun s24 => sb (iS s24 193 28 ((iG s24 193 28) + (1 : Int32))) fun s25 => sb (iS s25 193 36 (1 : Int32)) fun s26 => some (((1 : Int32), s26)) else some (((0 : Int32), (f_X12_wrongs (1 : Int32) (iG s20 193 28) s20).2)) else some (((0 : Int32), s16))) := by
  have hM := (h.beh 0).1
  have hS := (h.beh 0).2
  obtain ⟨n1, n2⟩ := ops_split hc
  have hn : ∀ l : List Nat, (∀ c ∈ l, 0 < c ∧ c < 256) → cq tb e p ∉ l → hq tb e p ∉ l := by
    intro l hl hn z
    have hz := hl _ z
    exact hn (by rw [(hq_cq h.bt hz.1 hz.2).mp rfl]; exact z)
  have n1' : hq tb e p ∉ timesL := hn _ (by decide) n1
  have n2' : hq tb e p ∉ ([43, 45] : List Nat) := hn _ (by decide) n2
  have h31 := hq_31 (e := e) (p := p) h.bt
  obtain ⟨s1, k1, k2, k3⟩ := MR.sumf (a := 1) u hM hu ht
  refine ⟨s1, k2, hS.tr k3.q, ?_, k1, fun N => ?_⟩
  · rw [k3.int (by unfold mP; omega)]
    rfl
  · unfold f_X12_stays
    rw [ob_some hM.here, isTimes_n _ h31, if_neg n1', if_pos rfl, isPlus_n _ h31, if_neg n2', if_pos rfl]
    rfl
/-- a bracket's end -/
theorem stays_b (h : MR tb e p (d + 1) (u ++ 91 :: τ) C s) (hc : cq tb e p = 93) (hu : ∀ c ∈ u, c ∈ opsL) : ∃ t, MR tb e (p + 1) d τ (C ++ pnd u) t ∧ Fw mQ s t ∧ ∀ q, EB t q → EB s q := by
  have hlt : p < e := cq_lt (tb := tb) (by omega)
  obtain ⟨t, a1, a2, a3, a4, a5⟩ := stays_x (τ := 91 :: τ) h (by rw [hc]; decide) hu (by show 91 ∉ opsL; decide)
  obtain ⟨b1, b2⟩ := a1.pop
  obtain ⟨c1, c2⟩ := b1.cls
  obtain ⟨d1, d2⟩ := c1.adv hlt
  obtain ⟨e1, e2⟩ := d1.beh 1
  refine ⟨_, e1, a2.tr ((((b2.tr c2).tr d2).q).tr e2), fun q kq => EB.go (by exact (h.beh 0).1.good) (Ev.cg (Ev.bnd a4 (Ev.of fun N => ?_)) a5) (kq.hd e1.good iG_eq)⟩
  rw [if_pos (c := nI (hq tb e p) = 93) ((h.is (c := 93) (by decide) (by decide)).mpr hc), ob_some a1.top, if_pos (by rfl)]
  rfl
/-- a bracket that isn't ended -/
theorem stays_nb (h : MR tb e p d (u ++ 91 :: τ) C s) (hc : cq tb e p ∉ opsL) (h93 : cq tb e p ≠ 93) (hu : ∀ c ∈ u, c ∈ opsL) : ∃ t, Mbd 1 p t ∧ Fw mQ s t ∧ EB s t := by
  obtain ⟨t, a1, a2, a3, a4, a5⟩ := stays_x (τ := 91 :: τ) h hc hu (by show 91 ∉ opsL; decide)
  obtain ⟨v, w1, w2⟩ := a1.wrongs 1 (by decide) (by decide)
  refine ⟨_, w2, a2.tr (Fw.rf.st (Or.inl (by unfold mP; omega))), EB.fin (by exact (h.beh 0).1.good) (t := t) (Ev.cg (Ev.bnd a4 (Ev.of fun N => ?_)) a5) ?_⟩
  · rw [if_neg (c := nI (hq tb e p) = 93) (fun z => h93 ((h.is (c := 93) (by decide) (by decide)).mp z))]
  · unfold j_X12_value_57
    have w1' : f_X12_wrongs 1 (iG t 193 28) t = ((), iS t 193 30 v) := w1
    rw [a1.good, if_neg (by decide), ob_some a1.top, if_pos (by rfl), w1', tb_mk]
/-- a bracket's end without its begin -/
theorem stays_e (h : MR tb e p d (u ++ τ) C s) (hc : cq tb e p = 93) (hu : ∀ c ∈ u, c ∈ opsL) (ht : τ.headD 0 ∉ opsL) (h91 : τ.headD 0 ≠ 91) : ∃ t, Mbd 1 p t ∧ Fw mQ s t ∧ EB s t := by
  obtain ⟨t, a1, a2, a3, a4, a5⟩ := stays_x h (by rw [hc]; decide) hu ht
  obtain ⟨v, w1, w2⟩ := a1.wrongs 1 (by decide) (by decide)
  have w1' : f_X12_wrongs 1 (iG t 193 28) t = ((), iS t 193 30 v) := w1
  have hd := a1.hd
  refine ⟨_, w2, a2.tr (Fw.rf.st (Or.inl (by unfold mP; omega))), EB.fin (by exact (h.beh 0).1.good) (t := iS t 193 30 v) (Ev.cg (Ev.bnd a4 (Ev.of fun N => ?_)) a5) ?_⟩
  · rw [if_pos (c := nI (hq tb e p) = 93) ((h.is (c := 93) (by decide) (by decide)).mpr hc), ob_some a1.top, if_neg (c := nI (τ.headD 0) = 91) (fun z => h91 ((nI_eq (b := 91) (by omega) (by omega)).mp z)), w1']
  · unfold j_X12_value_57
    rw [if_pos w2.bad]
/-- a value's end -/
theorem stays_o (h : MR tb e p d (u ++ τ) C s) (hc : cq tb e p ∉ opsL) (h93 : cq tb e p ≠ 93) (hu : ∀ c ∈ u, c ∈ opsL) (ht : τ.headD 0 ∉ opsL) (h91 : τ.headD 0 ≠ 91) : ∃ t, MR tb e p d τ (C ++ pnd u) t ∧ Fw mQ s t ∧ EB s t := by
  obtain ⟨t, a1, a2, a3, a4, a5⟩ := stays_x h hc hu ht
  have hd := a1.hd
  refine ⟨t, a1, a2, EB.fin (by exact (h.beh 0).1.good) (t := t) (Ev.cg (Ev.bnd a4 (Ev.of fun N => ?_)) a5) ?_⟩
  · rw [if_neg (c := nI (hq tb e p) = 93) (fun z => h93 ((h.is (c := 93) (by decide) (by decide)).mp z))]
  · unfold j_X12_value_57
    rw [a1.good, if_neg (by decide), ob_some a1.top, if_neg (c := nI (τ.headD 0) = 91) (fun z => h91 ((nI_eq (b := 91) (by omega) (by omega)).mp z))]
end
