/-! where the nets lie -/
def srB (P : Nat → Int64) (w n : Nat) : Nat → Nat → Nat
  | 0, a => a
  | m + 1, a => if tkB P w (dB P w n) (40 - a) = dB P w (n + 1) (40 - a) then a else srB P w n m (a + 1)
theorem srB_s (P : Nat → Int64) (w n m a : Nat) : srB P w n (m + 1) a = if tkB P w (dB P w n) (40 - a) = dB P w (n + 1) (40 - a) then a else srB P w n m (a + 1) := rfl
theorem row_ne {P : Nat → Int64} {w n d : Nat} (h : ¬ tkB P w (dB P w n) d = dB P w (n + 1) d) (h0 : 0 ≤ dB P w (n + 1) d) : 0 < d ∧ dB P w (n + 1) (d - 1) = dB P w (n + 1) d := by
  cases d with
  | zero =>
    have e : dB P w (n + 1) 0 = mx2 (-1) (tkB P w (dB P w n) 0) := rfl
    unfold mx2 at e
    by_cases c : tkB P w (dB P w n) 0 < -1
    · rw [if_pos c] at e
      rw [e] at h0
      exact absurd h0 m1_lt0
    · rw [if_neg c] at e
      exact absurd e.symm h
  | succ d =>
    refine ⟨by omega, ?_⟩
    have e : dB P w (n + 1) (d + 1) = mx2 (dB P w (n + 1) d) (tkB P w (dB P w n) (d + 1)) := rfl
    unfold mx2 at e
    by_cases c : tkB P w (dB P w n) (d + 1) < dB P w (n + 1) d
    · rw [if_pos c] at e
      exact e.symm
    · rw [if_neg c] at e
      exact absurd e.symm h
theorem tk_eq {P : Nat → Int64} {w n d : Nat} (h : tkB P w (dB P w n) d = dB P w (n + 1) d) (h0 : 0 ≤ dB P w (n + 1) d) : w ≤ d ∧ 0 ≤ dB P w n (d - w) ∧ P (40 - d + w) - P (40 - d) + dB P w n (d - w) = dB P w (n + 1) d := by
  unfold tkB at h
  by_cases c : w ≤ d ∧ 0 ≤ dB P w n (d - w)
  · rw [if_pos c] at h
    exact ⟨c.1, c.2, h⟩
  · rw [if_neg c] at h
    rw [← h] at h0
    exact absurd h0 m1_lt0
theorem dB_w {P : Nat → Int64} {w n : Nat} : ∀ d, 0 ≤ dB P w (n + 1) d → w ≤ d := by
  intro d
  induction d with
  | zero =>
    intro h
    by_cases c : tkB P w (dB P w n) 0 = dB P w (n + 1) 0
    · exact (tk_eq c h).1
    · exact absurd (row_ne c h).1 (by omega)
  | succ d ih =>
    intro h
    by_cases c : tkB P w (dB P w n) (d + 1) = dB P w (n + 1) (d + 1)
    · exact (tk_eq c h).1
    · have e := (row_ne c h).2
      have := ih (by rw [show d = d + 1 - 1 from rfl, e]; exact h)
      omega
theorem sr_ok {P : Nat → Int64} {w n : Nat} : ∀ m a, a ≤ 40 → 40 - a < m → 0 ≤ dB P w (n + 1) (40 - a) → srB P w n m a + w ≤ 40 ∧ 0 ≤ dB P w n (40 - (srB P w n m a + w)) := by
  intro m
  induction m with
  | zero => intro a _ h; omega
  | succ m ih =>
    intro a ha hm h0
    show (if tkB P w (dB P w n) (40 - a) = dB P w (n + 1) (40 - a) then a else srB P w n m (a + 1)) + w ≤ 40 ∧ 0 ≤ dB P w n (40 - ((if tkB P w (dB P w n) (40 - a) = dB P w (n + 1) (40 - a) then a else srB P w n m (a + 1)) + w))
    by_cases c : tkB P w (dB P w n) (40 - a) = dB P w (n + 1) (40 - a)
    · rw [if_pos c]
      obtain ⟨c1, c2, -⟩ := tk_eq c h0
      have e : 40 - a - w = 40 - (a + w) := by omega
      rw [e] at c2
      exact ⟨by omega, c2⟩
    · rw [if_neg c]
      obtain ⟨c1, c2⟩ := row_ne c h0
      have e : 40 - a - 1 = 40 - (a + 1) := by omega
      rw [e] at c2
      exact ih (a + 1) (by omega) (by omega) (by rw [c2]; exact h0)
theorem sr_X {P : Nat → Int64} {k w n i from0 : Nat} {t : cS} (hT : TabX 160 P w t (fun n _ => n ≤ k)) (hP : ∀ c, c ≤ 40 → lG t 159 c = P c) (hk : k ≤ 4) (hw : w ≤ 10) (hi : i + (n + 1) = k) (hf : from0 ≤ 40) (h0 : 0 ≤ dB P w (n + 1) (40 - from0)) : ∀ m a, a ≤ 40 → 40 - a < m → dB P w (n + 1) (40 - a) = dB P w (n + 1) (40 - from0) → ∀ N, m ≤ N → itr (fun (v : Int32 × cS) => b_X7_castNets_96 (nI k) (nI w) (nI from0) (nI i) v.1 v.2) N (nI a, t) = some (Sum.inl ((nI (srB P w n m a) + nI w, nI i + 1), pA t 161 4 (nI i) (nI (srB P w n m a)))) := by
  intro m
  induction m with
  | zero => intro a _ h; omega
  | succ m ih =>
    intro a ha hm hB N hN
    obtain ⟨N', rfl⟩ : ∃ N', N = N' + 1 := ⟨N - 1, by omega⟩
    have hki : nI k - nI i = nI (n + 1) := by
      rw [pk_sub (by omega)]
      congr 1
      omega
    have hwf := wf_X (n := n) (d := 40 - a) hT hP (by omega) (by omega) hw (fun _ => by omega)
    have ea : 40 - (40 - a) = a := by omega
    rw [ea] at hwf
    have hbo : f_X7_bestOf (nI (n + 1)) (nI from0) t = dB P w (n + 1) (40 - from0) := by
      unfold f_X7_bestOf
      have e41 : nI (n + 1) * 41 + nI from0 = nI ((n + 1) * 41 + (40 - (40 - from0))) := by
        show nI (n + 1) * nI 41 + _ = _
        rw [pk_mul, nI_add]
        congr 1
        omega
      rw [e41, lA_n (by omega) (by omega), hT (n + 1) (40 - from0) (by omega) (by omega) (by omega)]
    have ha0 : 0 ≤ dB P w (n + 1) (40 - a) := by rw [hB]; exact h0
    have haw := dB_w _ ha0
    rw [srB_s]
    by_cases c : tkB P w (dB P w n) (40 - a) = dB P w (n + 1) (40 - a)
    · rw [if_pos c]
      have hb : b_X7_castNets_96 (nI k) (nI w) (nI from0) (nI i) (nI a) t = some (Sum.inr (Sum.inl ((nI a + nI w, nI i + 1), pA t 161 4 (nI i) (nI a)))) := by
        unfold b_X7_castNets_96
        rw [hki, hwf, hbo, ← hB, if_pos (lg_eq.mpr c)]
        split <;> rfl
      exact itr_r hb
    · rw [if_neg c]
      obtain ⟨c1, c2⟩ := row_ne c ha0
      have e : 40 - a - 1 = 40 - (a + 1) := by omega
      rw [e] at c2
      have hb : b_X7_castNets_96 (nI k) (nI w) (nI from0) (nI i) (nI a) t = some (Sum.inl (nI (a + 1), t)) := by
        unfold b_X7_castNets_96
        rw [hki, hwf, hbo, ← hB, if_neg (fun z => c (lg_eq.mp z)), if_neg (c := 40 ≤ nI a) (nI_ge (b := 40) (by omega) (by omega)), nI_1]
      exact (itr_l hb).trans (ih (a + 1) (by omega) (by omega) (by rw [c2, hB]) N' (by omega))
theorem sr_M {P : Nat → Int64} {k w n i : Nat} {x3 : Int32} {t : cS} (hT : TabX 241 P w t (fun n _ => n ≤ k)) (hP : ∀ c, c ≤ 40 → lG t 240 c = P c) (hk : k ≤ 4) (hw : w ≤ 10) (hi : i + (n + 1) = k) : ∀ m a, a ≤ 40 → 40 - a < m → 0 ≤ dB P w (n + 1) (40 - a) → ∀ N, m ≤ N → itr (fun (v : Int32 × cS) => b_X12_nets_259 (nI k) (nI w) x3 (nI (n + 1)) v.1 v.2) N (nI a, t) = some (if nI i = x3 then .inr ((nI (srB P w n m a)).toInt64, t) else .inl ((nI (srB P w n m a) + nI w, nI n), t)) := by
  intro m
  induction m with
  | zero => intro a _ h; omega
  | succ m ih =>
    intro a ha hm ha0 N hN
    obtain ⟨N', rfl⟩ : ∃ N', N = N' + 1 := ⟨N - 1, by omega⟩
    have hki : nI k - nI (n + 1) = nI i := by
      rw [pk_sub (by omega)]
      congr 1
      omega
    have haw := dB_w _ ha0
    have ix1 : (41 : Int32) * (nI (n + 1) - 1) + nI a + nI w = nI (n * 41 + (40 - (40 - a - w))) := by
      rw [nI_pred]
      show nI 41 * nI n + nI a + nI w = _
      rw [pk_mul, nI_add, nI_add]
      congr 1
      omega
    have ix2 : (41 : Int32) * nI (n + 1) + nI a = nI ((n + 1) * 41 + (40 - (40 - a))) := by
      show nI 41 * nI (n + 1) + nI a = _
      rw [pk_mul, nI_add]
      congr 1
      omega
    have v1 := hT n (40 - a - w) (by omega) (by omega) (by omega)
    have v2 := hT (n + 1) (40 - a) (by omega) (by omega) (by omega)
    have hb : b_X12_nets_259 (nI k) (nI w) x3 (nI (n + 1)) (nI a) t = if tkB P w (dB P w n) (40 - a) = dB P w (n + 1) (40 - a) then some (Sum.inr (if nI i = x3 then .inr ((nI a).toInt64, t) else .inl ((nI a + nI w, nI n), t))) else some (Sum.inl (nI (a + 1), t)) := by
      unfold b_X12_nets_259 j_X12_nets_333
      rw [ix1, ix2, if_pos ((inb_n (by omega)).mpr (by omega)), nI_clamp (by omega), v1, nI_add, if_pos ((inb_n (by omega)).mpr (by omega)), if_pos ((inb_n (by omega)).mpr (by omega)), if_pos ((inb_n (by omega)).mpr (by omega)), nI_clamp (by omega), nI_clamp (by omega), nI_clamp (by omega), v2, hP _ (by omega), hP _ (by omega), hki, nI_1, pk_m1]
      by_cases c : tkB P w (dB P w n) (40 - a) = dB P w (n + 1) (40 - a)
      · rw [if_pos c]
        obtain ⟨c1, c2, c3⟩ := tk_eq c ha0
        have e : 40 - (40 - a) = a := by omega
        rw [e] at c3
        rw [if_neg (fun z => Int64.not_le.mpr (lg_lt.mp z) c2), if_pos (lg_eq.mpr c3)]
        by_cases c4 : nI i = x3
        · rw [if_pos c4, if_pos c4]; rfl
        · rw [if_neg c4, if_neg c4]; rfl
      · rw [if_neg c]
        by_cases c2 : 0 ≤ dB P w n (40 - a - w)
        · have e : tkB P w (dB P w n) (40 - a) = P (a + w) - P a + dB P w n (40 - a - w) := by
            unfold tkB
            have e : 40 - (40 - a) = a := by omega
            rw [if_pos ⟨haw, c2⟩, e]
          rw [e] at c
          rw [if_neg (fun z => Int64.not_le.mpr (lg_lt.mp z) c2), if_neg (fun z => c (lg_eq.mp z))]
        · rw [if_pos (lg_lt.mpr (Int64.not_le.mp c2))]
    rw [srB_s]
    by_cases c : tkB P w (dB P w n) (40 - a) = dB P w (n + 1) (40 - a)
    · rw [if_pos c] at hb ⊢
      exact itr_r hb
    · rw [if_neg c] at hb ⊢
      obtain ⟨c1, c2⟩ := row_ne c ha0
      have e : 40 - a - 1 = 40 - (a + 1) := by omega
      rw [e] at c2
      exact (itr_l hb).trans (ih (a + 1) (by omega) (by omega) (by rw [c2]; exact ha0) N' (by omega))
/-- the start of the search for the net i, of k; where the net i lies -/
def frB (P : Nat → Int64) (w k : Nat) : Nat → Nat
  | 0 => 0
  | i + 1 => srB P w (k - (i + 1)) 41 (frB P w k i) + w
theorem fr_ok {P : Nat → Int64} {p : Nat → Nat} {w k : Nat} (hP : ∀ c, c ≤ 40 → P c = lN (p c) ∧ p c ≤ c * 600000000000000) (hm : ∀ c, c < 40 → p c ≤ p (c + 1)) (hkw : k * w ≤ 40) : ∀ i, i ≤ k → frB P w k i ≤ 40 ∧ 0 ≤ dB P w (k - i) (40 - frB P w k i) := by
  intro i
  induction i with
  | zero => intro _; exact ⟨by show 0 ≤ 40; omega, dB_pos hP hm _ _ (by omega) (by show (k - 0) * w ≤ 40 - 0; exact hkw)⟩
  | succ i ih =>
    intro hi
    obtain ⟨h1, h2⟩ := ih (by omega)
    have e : k - i = k - (i + 1) + 1 := by omega
    rw [e] at h2
    obtain ⟨h3, h4⟩ := sr_ok 41 _ h1 (by omega) h2
    exact ⟨h3, h4⟩
