/-! the nets: what cells are worth -/
def wC (s : cS) (f n c : Nat) : Int64 := sumL (fun i => (iG s 158 (i * 40 + c)).toInt64 * odL s f i) n
def pC (s : cS) (f n : Nat) : Nat → Int64 := sumL (wC s f n)
theorem wC_fw {P : Nat → Nat → Prop} {s t : cS} (h : Fw P s t) (hP : ∀ o k, 155 ≤ o → o ≤ 158 → ¬ P o k) (f n : Nat) : wC t f n = wC s f n := by
  have e1 : ∀ k, iG t 155 k = iG s 155 k := fun k => h.int (hP _ _ (by omega) (by omega))
  have e2 : ∀ k, iG t 156 k = iG s 156 k := fun k => h.int (hP _ _ (by omega) (by omega))
  have e3 : ∀ k, iG t 157 k = iG s 157 k := fun k => h.int (hP _ _ (by omega) (by omega))
  have e4 : ∀ k, iG t 158 k = iG s 158 k := fun k => h.int (hP _ _ (by omega) (by omega))
  funext c
  unfold wC odL odF
  simp only [e1, e2, e3, e4]
theorem StoN.rd (n f : Nat) : Rd stoQ (StoN n f) := by
  intro s t h hl hi
  unfold StoN at hi ⊢
  simp (disch := (unfold stoQ; omega)) only [h, hl]
  exact hi
theorem sumL_bd {g : Nat → Int64} {B : Nat} : ∀ n, (∀ i, i < n → ∃ a, a ≤ B ∧ g i = lN a) → ∃ a, a ≤ n * B ∧ sumL g n = lN a
  | 0, _ => ⟨0, by omega, rfl⟩
  | n + 1, h => by
    obtain ⟨a, a1, a2⟩ := sumL_bd n (fun i hi => h i (by omega))
    obtain ⟨b, b1, b2⟩ := h n (by omega)
    refine ⟨a + b, ?_, ?_⟩
    · rw [Nat.add_mul, Nat.one_mul]; omega
    · show sumL g n + g n = _
      rw [a2, b2, lN_add]
theorem wC_bd {s : cS} {n f : Nat} (h : StoN n f s) {c : Nat} (hc : c < 40) : ∃ a, a ≤ 600000000000000 ∧ wC s f n c = lN a := by
  have hn := h.1
  have hw := h.2.2.2.2.2.2.2.2.2.1
  obtain ⟨a, a1, a2⟩ := sumL_bd (g := fun i => (iG s 158 (i * 40 + c)).toInt64 * odL s f i) (B := 100000000000000) n (fun i hi => by
    obtain ⟨W, w1, w2⟩ := od_bd h (i := i) (by omega)
    obtain ⟨t, t0, t1, t2⟩ := hw (i * 40 + c) (by omega)
    refine ⟨t * W, ?_, ?_⟩
    · calc t * W ≤ 100 * 1000000000000 := Nat.mul_le_mul t0 w1
        _ = 100000000000000 := by decide
    · show (iG s 158 (i * 40 + c)).toInt64 * odL s f i = _
      rw [w2, t1, nI_l (by omega), lN_mul])
  refine ⟨a, ?_, a2⟩
  calc a ≤ n * 100000000000000 := a1
    _ ≤ 6 * 100000000000000 := Nat.mul_le_mul_right _ hn
    _ = 600000000000000 := by decide
/-- the prefix sums as whole numbers -/
theorem pC_nat {s : cS} {n f : Nat} (h : StoN n f s) : ∃ p : Nat → Nat, (∀ c, c ≤ 40 → pC s f n c = lN (p c) ∧ p c ≤ c * 600000000000000) ∧ ∀ c, c < 40 → p c ≤ p (c + 1) := by
  have h1 : ∀ c, ∃ a, c < 40 → a ≤ 600000000000000 ∧ wC s f n c = lN a := fun c => by
    by_cases hc : c < 40
    · obtain ⟨a, a1, a2⟩ := wC_bd h hc
      exact ⟨a, fun _ => ⟨a1, a2⟩⟩
    · exact ⟨0, fun z => absurd z hc⟩
  obtain ⟨u, hu⟩ := Classical.axiomOfChoice h1
  refine ⟨fun c => ((List.range c).map u).sum, ?_, ?_⟩
  · intro c
    induction c with
    | zero => exact fun _ => ⟨rfl, Nat.zero_le _⟩
    | succ c ih =>
      intro hc
      obtain ⟨i1, i2⟩ := ih (by omega)
      obtain ⟨u1, u2⟩ := hu c (by omega)
      have e : ((List.range (c + 1)).map u).sum = ((List.range c).map u).sum + u c := by simp [List.range_succ]
      refine ⟨?_, ?_⟩
      · show pC s f n c + wC s f n c = _
        rw [i1, u2, lN_add]
        show _ = lN ((List.range (c + 1)).map u).sum
        rw [e]
      · show ((List.range (c + 1)).map u).sum ≤ _
        rw [e]
        dsimp only at i2
        omega
  · intro c _
    show ((List.range c).map u).sum ≤ ((List.range (c + 1)).map u).sum
    simp [List.range_succ]
theorem wo_X {s : cS} {n f : Nat} (h : StoN n f s) {c : Nat} (hc : c < 40) : ∀ N, 10 < N → f_X7_worthOf N (nI c) s = some (wC s f n c, s) := by
  intro N hN
  have hn := h.1
  have x1 := h.2.2.1
  unfold f_X7_worthOf w_X7_worthOf_5
  refine itr_cnt (st := fun j => ((wC s f j c, nI j), s)) (n := n) (fun j hj => ?_) ?_ 0 (Nat.zero_le _) N (by omega)
  · show b_X7_worthOf_5 N (nI c) (wC s f j c) (nI j) s = _
    unfold b_X7_worthOf_5 j_X7_worthOf_50
    have e6 : nI j * 40 + nI c = nI (j * 40 + c) := by
      show nI j * nI 40 + nI c = _
      rw [pk_mul, nI_add]
    rw [x1, if_neg (nI_ge hj (by omega)), e6, aA_n (by omega) (by omega), nI_1]
    show _ = some (Sum.inl ((wC s f j c + (iG s 158 (j * 40 + c)).toInt64 * odL s f j, nI (j + 1)), s))
    by_cases c1 : iG s 158 (j * 40 + c) = 0
    · rw [if_pos c1, c1]
      show _ = some (Sum.inl ((wC s f j c + 0 * odL s f j, nI (j + 1)), s))
      rw [Int64.zero_mul]
    · rw [if_neg c1, ob_some (od_X h (by omega) N hN)]
  · show b_X7_worthOf_5 N (nI c) (wC s f n c) (nI n) s = _
    unfold b_X7_worthOf_5
    rw [x1, if_pos (nI_le (Nat.le_refl _) (by omega))]
    rfl
theorem sw_X {s : cS} {n f : Nat} (h : StoN n f s) (N0 : Nat) (hN0 : 41 < N0) : ∃ t, f_X7_sumWorths N0 s = some ((), t) ∧ Fw (fun o k => o = 159 ∧ k ≠ 0) s t ∧ ∀ c, c ≤ 40 → lG t 159 c = pC s f n c := by
  obtain ⟨⟨⟨⟩, t⟩, k1, k2, k3⟩ : ∃ q : Unit × cS, (∀ N, 40 - 0 < N → itr (fun (v : Int32 × cS) => b_X7_sumWorths_2 N0 v.1 v.2) N (nI 0, s) = some q) ∧ (Fw (fun o k => o = 159 ∧ k ≠ 0) s q.2 ∧ (∀ c, c ≤ 40 → lG q.2 159 c = pC s f n c)) := by
    refine itr_inv (I := fun m v => ∃ (c : Nat) (t : cS), v = (nI c, t) ∧ c ≤ 40 ∧ m = 40 - c ∧ Fw (fun o k => o = 159 ∧ k ≠ 0) s t ∧ ∀ i, i ≤ c → lG t 159 i = pC s f n i) ?_ (40 - 0) (nI 0, s) ⟨0, s, rfl, by omega, rfl, Fw.rf, fun i hi => by
      have : i = 0 := by omega
      subst this
      exact h.2.2.2.2.2.2.2.2.2.2⟩
    rintro m v ⟨c, t, rfl, hc, hm, hF, hp⟩
    show (∃ v' m', b_X7_sumWorths_2 N0 (nI c) t = _ ∧ _) ∨ (∃ q, b_X7_sumWorths_2 N0 (nI c) t = _ ∧ _)
    unfold b_X7_sumWorths_2
    by_cases c1 : c = 40
    · right
      subst c1
      rw [if_pos (by decide)]
      exact ⟨_, rfl, hF, hp⟩
    · left
      have ht : StoN n f t := (StoN.rd n f).fw hF h (fun o k q => by unfold stoQ at q; omega)
      rw [if_neg (c := 40 ≤ nI c) (nI_ge (b := 40) (by omega) (by omega)), ob_some (wo_X ht (by omega) N0 (by omega)), wC_fw hF (fun o k _ _ => by omega), nI_1]
      dsimp only [sb]
      rw [plA_n (by omega) (by omega), lA_n (by omega) (by omega), hp c (Nat.le_refl _)]
      refine ⟨_, _, rfl, ?_, c + 1, _, rfl, by omega, rfl, hF.sl ⟨rfl, by omega⟩, fun i hi => ?_⟩
      · omega
      · rw [lG_if, if_pos rfl]
        by_cases e : i = c + 1
        · subst e
          rw [if_pos rfl]
          rfl
        · rw [if_neg e]
          exact hp i (by omega)
  exact ⟨t, k1 N0 (by omega), k2, k3⟩
theorem sw_M {s : cS} {n f : Nat} (h : StoN n f s) (N0 : Nat) (hN0 : 41 < N0) : ∃ t, f_X12_worths N0 s = some ((), t) ∧ Fw (fun o _ => o = 240) s t ∧ ∀ c, c ≤ 40 → lG t 240 c = pC s f n c := by
  obtain ⟨⟨⟨⟩, t⟩, k1, k2, k3⟩ : ∃ q : Unit × cS, (∀ N, 40 - 0 < N → itr (fun (v : Int32 × cS) => b_X12_worths_9 N0 v.1 v.2) N (nI 0, lS s 240 0 0) = some q) ∧ (Fw (fun o _ => o = 240) s q.2 ∧ (∀ c, c ≤ 40 → lG q.2 240 c = pC s f n c)) := by
    refine itr_inv (I := fun m v => ∃ (c : Nat) (t : cS), v = (nI c, t) ∧ c ≤ 40 ∧ m = 40 - c ∧ Fw (fun o _ => o = 240) s t ∧ ∀ i, i ≤ c → lG t 240 i = pC s f n i) ?_ (40 - 0) (nI 0, lS s 240 0 0) ⟨0, lS s 240 0 0, rfl, by omega, rfl, Fw.rf.sl rfl, fun i hi => by
      have : i = 0 := by omega
      subst this
      rw [lG_if, if_pos rfl, if_pos rfl]
      rfl⟩
    rintro m v ⟨c, t, rfl, hc, hm, hF, hp⟩
    show (∃ v' m', b_X12_worths_9 N0 (nI c) t = _ ∧ _) ∨ (∃ q, b_X12_worths_9 N0 (nI c) t = _ ∧ _)
    unfold b_X12_worths_9
    by_cases c1 : c = 40
    · right
      subst c1
      rw [if_pos (by decide)]
      exact ⟨_, rfl, hF, hp⟩
    · left
      have ht : StoN n f t := (StoN.rd n f).fw hF h (fun o k q => by unfold stoQ at q; omega)
      have hn := h.1
      have m1 := ht.2.2.2.1
      have hw := ht.2.2.2.2.2.2.2.2.2.1
      rw [if_neg (c := 40 ≤ nI c) (nI_ge (b := 40) (by omega) (by omega))]
      have key : w_X12_worths_20 N0 (nI c) 0 0 t = some (Sum.inl (nI (c + 1), lS t 240 (c + 1) (pC s f n (c + 1)))) := by
        unfold w_X12_worths_20
        refine itr_cnt (st := fun j => ((wC t f j c, nI j), t)) (n := n) (fun j hj => ?_) ?_ 0 (Nat.zero_le _) N0 (by omega)
        · show b_X12_worths_20 N0 (nI c) (wC t f j c) (nI j) t = _
          unfold b_X12_worths_20
          have e6 : (40 : Int32) * nI j + nI c = nI (j * 40 + c) := by
            show nI 40 * nI j + nI c = _
            rw [pk_mul, nI_add, Nat.mul_comm]
          obtain ⟨u, u0, u1, u2⟩ := hw (j * 40 + c) (by omega)
          rw [m1, if_neg (nI_ge hj (by omega)), ob_some (od_M ht (by omega) N0 (by omega)), e6, if_pos ((inb_n (by omega)).mpr (by omega)), nI_clamp (by omega), nI_1]
          show _ = some (Sum.inl ((wC t f j c + (iG t 158 (j * 40 + c)).toInt64 * odL t f j, nI (j + 1)), t))
          rw [u1, u2, Int64.mul_comm]
        · show b_X12_worths_20 N0 (nI c) (wC t f n c) (nI n) t = _
          unfold b_X12_worths_20
          rw [m1, if_pos (nI_le (Nat.le_refl _) (by omega)), if_pos ((inb_n (by omega)).mpr (by omega)), nI_1, if_pos ((inb_n (by omega)).mpr (by omega)), nI_clamp (by omega), nI_clamp (by omega), hp c (Nat.le_refl _), wC_fw hF (fun o k _ _ => by omega)]
          rfl
      rw [key]
      refine ⟨_, _, rfl, ?_, c + 1, _, rfl, by omega, rfl, hF.sl rfl, fun i hi => ?_⟩
      · omega
      · rw [lG_if, if_pos rfl]
        by_cases e : i = c + 1
        · subst e
          rw [if_pos rfl]
        · rw [if_neg e]
          exact hp i (by omega)
  refine ⟨t, ?_, k2, k3⟩
  exact k1 N0 (by omega)
/-! the table of the best -/
def mx2 (a b : Int64) : Int64 := if b < a then a else b
def tkB (P : Nat → Int64) (w : Nat) (prev : Nat → Int64) (d : Nat) : Int64 := if w ≤ d ∧ 0 ≤ prev (d - w) then P (40 - d + w) - P (40 - d) + prev (d - w) else -1
def rowB (P : Nat → Int64) (w : Nat) (prev : Nat → Int64) : Nat → Int64
  | 0 => mx2 (-1) (tkB P w prev 0)
  | d + 1 => mx2 (rowB P w prev d) (tkB P w prev (d + 1))
def dB (P : Nat → Int64) (w : Nat) : Nat → Nat → Int64
  | 0 => fun _ => 0
  | n + 1 => rowB P w (dB P w n)
theorem lN_ge0 {a : Nat} (h : a < 2 ^ 63) : (0 : Int64) ≤ lN a := by
  rw [lle, lN_toI h]
  show (0 : Int) ≤ _
  omega
theorem m1_lt0 : ¬ (0 : Int64) ≤ -1 := by decide
theorem dB_bd {P : Nat → Int64} {p : Nat → Nat} {w : Nat} (hP : ∀ c, c ≤ 40 → P c = lN (p c) ∧ p c ≤ c * 600000000000000) (hm : ∀ c, c < 40 → p c ≤ p (c + 1)) : ∀ n d, d ≤ 40 → dB P w n d = -1 ∨ ∃ v, v ≤ p 40 - p (40 - d) ∧ dB P w n d = lN v := by
  have mono : ∀ b a, a + b ≤ 40 → p a ≤ p (a + b) := by
    intro b
    induction b with
    | zero => intro a _; exact Nat.le_refl _
    | succ b ih => intro a h; exact Nat.le_trans (ih a (by omega)) (hm (a + b) (by omega))
  have b40 := (hP 40 (by omega)).2
  intro n
  induction n with
  | zero => intro d _; exact Or.inr ⟨0, Nat.zero_le _, rfl⟩
  | succ n ih =>
    have htk : ∀ d, d ≤ 40 → tkB P w (dB P w n) d = -1 ∨ ∃ v, v ≤ p 40 - p (40 - d) ∧ tkB P w (dB P w n) d = lN v := by
      intro d hd
      unfold tkB
      by_cases c : w ≤ d ∧ 0 ≤ dB P w n (d - w)
      · rw [if_pos c]
        rcases ih (d - w) (by omega) with e | ⟨v, v1, v2⟩
        · rw [e] at c
          exact absurd c.2 m1_lt0
        · right
          have m1 := mono w (40 - d) (by omega)
          have m2 := mono (d - w) (40 - d + w) (by omega)
          have e1 : 40 - (d - w) = 40 - d + w := by omega
          have e2 : 40 - d + w + (d - w) = 40 := by omega
          rw [e1] at v1
          rw [e2] at m2
          refine ⟨p (40 - d + w) - p (40 - d) + v, by omega, ?_⟩
          rw [(hP (40 - d + w) (by omega)).1, (hP (40 - d) (by omega)).1, v2, lN_sub m1, lN_add]
      · rw [if_neg c]
        exact Or.inl rfl
    have mxc : ∀ (d : Nat) (a b : Int64), (a = -1 ∨ ∃ v, v ≤ p 40 - p (40 - d) ∧ a = lN v) → (b = -1 ∨ ∃ v, v ≤ p 40 - p (40 - d) ∧ b = lN v) → (mx2 a b = -1 ∨ ∃ v, v ≤ p 40 - p (40 - d) ∧ mx2 a b = lN v) := by
      intro d a b ha hb
      unfold mx2
      split
      · exact ha
      · exact hb
    intro d
    show d ≤ 40 → rowB P w (dB P w n) d = -1 ∨ ∃ v, v ≤ p 40 - p (40 - d) ∧ rowB P w (dB P w n) d = lN v
    induction d with
    | zero => intro hd; exact mxc 0 _ _ (Or.inl rfl) (htk 0 hd)
    | succ d ihd =>
      intro hd
      refine mxc (d + 1) _ _ ?_ (htk (d + 1) hd)
      rcases ihd (by omega) with e | ⟨v, v1, v2⟩
      · exact Or.inl e
      · have := hm (40 - (d + 1)) (by omega)
        have e1 : 40 - (d + 1) + 1 = 40 - d := by omega
        rw [e1] at this
        exact Or.inr ⟨v, by omega, v2⟩
theorem dB_ge {P : Nat → Int64} {p : Nat → Nat} {w : Nat} (hP : ∀ c, c ≤ 40 → P c = lN (p c) ∧ p c ≤ c * 600000000000000) (hm : ∀ c, c < 40 → p c ≤ p (c + 1)) {n d : Nat} (hd : d ≤ 40) : (-1 : Int64) ≤ dB P w n d := by
  have b40 := (hP 40 (by omega)).2
  rcases dB_bd hP hm (w := w) n d hd with e | ⟨v, v1, v2⟩
  · rw [e]; exact Int64.le_refl _
  · rw [v2, lle, lN_toI (by omega)]
    show (-1 : Int) ≤ _
    omega
theorem dB_pos {P : Nat → Int64} {p : Nat → Nat} {w : Nat} (hP : ∀ c, c ≤ 40 → P c = lN (p c) ∧ p c ≤ c * 600000000000000) (hm : ∀ c, c < 40 → p c ≤ p (c + 1)) : ∀ n d, d ≤ 40 → n * w ≤ d → 0 ≤ dB P w n d := by
  have b40 := (hP 40 (by omega)).2
  intro n
  induction n with
  | zero => intro d _ _; exact Int64.le_refl _
  | succ n ih =>
    intro d hd h
    have hw : w ≤ d := by rw [Nat.add_mul] at h; omega
    have h1 : 0 ≤ dB P w n (d - w) := ih (d - w) (by omega) (by rw [Nat.add_mul] at h; omega)
    have htk : 0 ≤ tkB P w (dB P w n) d := by
      rcases dB_bd hP hm (w := w) n (d - w) (by omega) with e | ⟨v, v1, v2⟩
      · rw [e] at h1; exact absurd h1 m1_lt0
      · unfold tkB
        rw [if_pos ⟨hw, h1⟩]
        have mono : ∀ b a, a + b ≤ 40 → p a ≤ p (a + b) := by
          intro b
          induction b with
          | zero => intro a _; exact Nat.le_refl _
          | succ b ih => intro a h; exact Nat.le_trans (ih a (by omega)) (hm (a + b) (by omega))
        have m1 := mono w (40 - d) (by omega)
        have b1 := (hP (40 - d + w) (by omega)).2
        rw [(hP (40 - d + w) (by omega)).1, (hP (40 - d) (by omega)).1, v2, lN_sub m1, lN_add]
        exact lN_ge0 (by omega)
    have hmx : ∀ a : Int64, 0 ≤ mx2 a (tkB P w (dB P w n) d) := by
      intro a
      unfold mx2
      split
      · rename_i c
        exact Int64.le_trans htk (Int64.le_of_lt c)
      · exact htk
    cases d with
    | zero => exact hmx _
    | succ d => exact hmx _
