/-! nets: the reference's table, and the call -/
theorem tab_M {s : cS} {P : Nat → Int64} {p : Nat → Nat} {k w : Nat} {x3 : Int32} (hk : k ≤ 4) (hw : w ≤ 10) (hPp : ∀ c, c ≤ 40 → P c = lN (p c) ∧ p c ≤ c * 600000000000000) (hmo : ∀ c, c < 40 → p c ≤ p (c + 1)) (hP : ∀ c, c ≤ 40 → lG s 240 c = P c) (N0 : Nat) (hN0 : 50 < N0) {Q : cS → Int64 × cS → Prop} (hq : ∀ t, Fw (fun o _ => o = 241) s t → TabX 241 P w t (fun n _ => n ≤ k) → ∃ p, b_X12_nets_58 N0 (nI k) (nI w) x3 (nI (k + 1)) t = some (Sum.inr p) ∧ Q t p) : ∃ t p, Fw (fun o _ => o = 241) s t ∧ Q t p ∧ w_X12_nets_58 N0 (nI k) (nI w) x3 0 s = some p := by
  have h40 : ∀ {t : cS}, Fw (fun o _ => o = 241) s t → ∀ c, c ≤ 40 → lG t 240 c = P c := fun hF c hc => by rw [hF.lng (by omega), hP c hc]
  obtain ⟨p', k1, t, k2, k3⟩ : ∃ p : Int64 × cS, (∀ N, k + 1 - 0 < N → itr (fun (v : Int32 × cS) => b_X12_nets_58 N0 (nI k) (nI w) x3 v.1 v.2) N (nI 0, s) = some p) ∧ (∃ t, Fw (fun o _ => o = 241) s t ∧ Q t p) := by
    refine itr_inv (I := fun m v => ∃ (j : Nat) (t : cS), v = (nI j, t) ∧ j ≤ k + 1 ∧ m = k + 1 - j ∧ Fw (fun o _ => o = 241) s t ∧ TabX 241 P w t (fun n _ => n < j)) ?_ (k + 1 - 0) (nI 0, s) ⟨0, s, rfl, by omega, rfl, Fw.rf, fun n d _ _ h => absurd h (by omega)⟩
    rintro m v ⟨j, t, rfl, hj, hm, hF, hT⟩
    show (∃ v' m', b_X12_nets_58 N0 (nI k) (nI w) x3 (nI j) t = _ ∧ _) ∨ (∃ q, b_X12_nets_58 N0 (nI k) (nI w) x3 (nI j) t = _ ∧ _)
    by_cases c1 : j = k + 1
    · right
      subst c1
      have hT' : TabX 241 P w t (fun n _ => n ≤ k) := fun n d hn hd hf => hT n d hn hd (by omega)
      obtain ⟨p, hp, hQ⟩ := hq t hF hT'
      exact ⟨_, hp, t, hF, hQ⟩
    · left
      unfold b_X12_nets_58
      rw [if_neg (nI_nlt (by omega) (by omega))]
      obtain ⟨pq, j1, t2, j2, j3, rfl⟩ : ∃ pq : (Int32 × cS) ⊕ (Int64 × cS), (∀ N, 41 - 0 < N → itr (fun (v : Int32 × cS) => b_X12_nets_68 (nI k) (nI w) x3 (nI j) v.1 v.2) N (dn 0, t) = some pq) ∧ (∃ t2, Fw (fun o _ => o = 241) s t2 ∧ TabX 241 P w t2 (fun n _ => n < j + 1) ∧ pq = .inl (nI (j + 1), t2)) := by
        refine itr_inv (I := fun m v => ∃ (d : Nat) (t : cS), v = (dn d, t) ∧ d ≤ 41 ∧ m = 41 - d ∧ Fw (fun o _ => o = 241) s t ∧ TabX 241 P w t (fun n d' => n < j ∨ (n = j ∧ d' < d))) ?_ (41 - 0) (dn 0, t) ⟨0, t, rfl, by omega, rfl, hF, fun n d hn hd h => hT n d hn hd (by omega)⟩
        rintro m v ⟨d, t', rfl, hd, hm, hF', hT'⟩
        show (∃ v' m', b_X12_nets_68 (nI k) (nI w) x3 (nI j) (dn d) t' = _ ∧ _) ∨ (∃ q, b_X12_nets_68 (nI k) (nI w) x3 (nI j) (dn d) t' = _ ∧ _)
        unfold b_X12_nets_68
        by_cases c2 : d = 41
        · right
          subst c2
          rw [dn_41, if_pos (by decide), nI_1]
          exact ⟨_, rfl, t', hF', fun n d' hn hd h => hT' n d' hn hd (by omega), rfl⟩
        · left
          have hd' : d ≤ 40 := by omega
          have ixs : (41 : Int32) * nI j + nI (40 - d) = nI (j * 41 + (40 - d)) := by
            show nI 41 * nI j + nI (40 - d) = _
            rw [pk_mul, nI_add, Nat.mul_comm]
          rw [dn_le hd', if_neg (nI_pos (by omega))]
          have fin : ∀ V : Int64, V = dB P w j d → ∃ v' m', j_X12_nets_206 (nI k) (nI w) x3 (nI j) (nI (40 - d)) V t' = some (Sum.inl v') ∧ m' < m ∧ (∃ (d : Nat) (t : cS), v' = (dn d, t) ∧ d ≤ 41 ∧ m' = 41 - d ∧ Fw (fun o _ => o = 241) s t ∧ TabX 241 P w t (fun n d' => n < j ∨ (n = j ∧ d' < d))) := by
            intro V hV
            unfold j_X12_nets_206
            rw [ixs, if_pos ((inb_n (by omega)).mpr (by omega)), nI_clamp (by omega), ← dn_le hd', dn_s]
            refine ⟨_, _, rfl, ?_, d + 1, _, rfl, by omega, rfl, hF'.sl rfl, hT'.set hd' hV (fun n' d' h => by omega)⟩
            omega
          by_cases c3 : j = 0
          · subst c3
            rw [if_pos (by decide)]
            unfold j_X12_nets_85 j_X12_nets_116
            rw [if_pos (by decide), if_pos (by decide)]
            exact fin 0 rfl
          · obtain ⟨n, rfl⟩ : ∃ n, j = n + 1 := ⟨j - 1, by omega⟩
            rw [if_neg (nI_ne0 (by omega) (by omega))]
            have step : ∀ L : Int64, (L = if d = 0 then -1 else dB P w (n + 1) (d - 1)) → ∃ v' m', j_X12_nets_116 (nI k) (nI w) x3 (nI (n + 1)) (nI (40 - d)) L t' = some (Sum.inl v') ∧ m' < m ∧ (∃ (d : Nat) (t : cS), v' = (dn d, t) ∧ d ≤ 41 ∧ m' = 41 - d ∧ Fw (fun o _ => o = 241) s t ∧ TabX 241 P w t (fun n' d' => n' < n + 1 ∨ (n' = n + 1 ∧ d' < d))) := by
              intro L hL
              have hL1 : (-1 : Int64) ≤ L := by
                rw [hL]
                split
                · exact Int64.le_refl _
                · exact dB_ge hPp hmo (by omega)
              have hmx := row_step (n := n) hd' hL
              unfold j_X12_nets_116 j_X12_nets_204
              rw [if_neg (nI_nle (by omega) (by omega)), nI_add]
              by_cases c4 : w ≤ d
              · have ix1 : (41 : Int32) * (nI (n + 1) - 1) + nI (40 - d) + nI w = nI (n * 41 + (40 - (d - w))) := by
                  rw [nI_pred]
                  show nI 41 * nI n + nI (40 - d) + nI w = _
                  rw [pk_mul, nI_add, nI_add]
                  congr 1
                  omega
                rw [if_neg (c := 40 < nI (40 - d + w)) (nI_nlt (a := 40) (by omega) (by omega)), ix1, if_pos ((inb_n (by omega)).mpr (by omega)), nI_clamp (by omega), hT' n (d - w) (by omega) (by omega) (by omega)]
                by_cases c5 : 0 ≤ dB P w n (d - w)
                · have e : tkB P w (dB P w n) d = P (40 - d + w) - P (40 - d) + dB P w n (d - w) := by
                    unfold tkB
                    rw [if_pos ⟨c4, c5⟩]
                  rw [if_neg (fun z => Int64.not_le.mpr (lg_lt.mp z) c5), if_pos ((inb_n (by omega)).mpr (by omega)), if_pos ((inb_n (by omega)).mpr (by omega)), nI_clamp (by omega), nI_clamp (by omega), h40 hF' _ (by omega), h40 hF' _ (by omega), ← e]
                  rw [← hmx] at fin
                  by_cases c6 : lg_cmp (tkB P w (dB P w n) d) L ≤ 0
                  · rw [if_pos c6]
                    refine fin L ?_
                    unfold mx2
                    by_cases c7 : tkB P w (dB P w n) d < L
                    · rw [if_pos c7]
                    · rw [if_neg c7]
                      exact Int64.le_antisymm (Int64.not_lt.mp c7) (lg_le.mp c6)
                  · rw [if_neg c6]
                    refine fin _ ?_
                    unfold mx2
                    rw [if_neg (fun z => c6 (lg_le.mpr (Int64.le_of_lt z)))]
                · rw [if_pos (lg_lt.mpr (Int64.not_le.mp c5))]
                  refine fin L ?_
                  rw [← hmx]
                  have e : tkB P w (dB P w n) d = -1 := by
                    unfold tkB
                    rw [if_neg (fun z => c5 z.2)]
                  unfold mx2
                  rw [e]
                  by_cases c7 : -1 < L
                  · rw [if_pos c7]
                  · rw [if_neg c7]
                    exact Int64.le_antisymm (Int64.not_lt.mp c7) hL1
              · rw [if_pos (c := 40 < nI (40 - d + w)) (nI_lt (a := 40) (by omega) (by omega))]
                refine fin L ?_
                rw [← hmx]
                have e : tkB P w (dB P w n) d = -1 := by
                  unfold tkB
                  rw [if_neg (fun z => c4 z.1)]
                unfold mx2
                rw [e]
                by_cases c7 : -1 < L
                · rw [if_pos c7]
                · rw [if_neg c7]
                  exact Int64.le_antisymm (Int64.not_lt.mp c7) hL1
            unfold j_X12_nets_85
            rw [if_neg (nI_nle (by omega) (by omega))]
            by_cases c4 : d = 0
            · subst c4
              rw [if_pos (by decide)]
              exact step (-1) rfl
            · rw [if_neg (c := 40 ≤ nI (40 - d)) (nI_ge (b := 40) (by omega) (by omega))]
              have ix2 : (41 : Int32) * nI (n + 1) + nI (40 - d) + 1 = nI ((n + 1) * 41 + (40 - (d - 1))) := by
                rw [ixs, nI_1]
                congr 1
                omega
              rw [ix2, if_pos ((inb_n (by omega)).mpr (by omega)), nI_clamp (by omega)]
              refine step _ ?_
              rw [hT' (n + 1) (d - 1) (by omega) (by omega) (by omega), if_neg c4]
      have hw68 : w_X12_nets_68 N0 (nI k) (nI w) x3 (nI j) 40 t = some (Sum.inl (nI (j + 1), t2)) := j1 N0 (by omega)
      rw [hw68]
      refine ⟨_, _, rfl, ?_, j + 1, t2, rfl, by omega, rfl, j2, j3⟩
      omega
  exact ⟨t, p', k2, k3, k1 N0 (by omega)⟩
def psB (P : Nat → Int64) (w k i : Nat) : Nat := srB P w (k - (i + 1)) 41 (frB P w k i)
theorem sv_X {P : Nat → Int64} {p : Nat → Nat} {k w : Nat} {t : cS} (hPp : ∀ c, c ≤ 40 → P c = lN (p c) ∧ p c ≤ c * 600000000000000) (hmo : ∀ c, c < 40 → p c ≤ p (c + 1)) (hk : k ≤ 4) (hw : w ≤ 10) (hkw : k * w ≤ 40) (hT : TabX 160 P w t (fun n _ => n ≤ k)) (hP : ∀ c, c ≤ 40 → lG t 159 c = P c) (N0 : Nat) (hN0 : 50 < N0) : ∃ q, w_X7_castNets_87 N0 (nI k) (nI w) 0 0 t = some q ∧ (q.1 = dB P w k 40 ∧ Fw (fun o _ => o = 161) t q.2 ∧ ∀ i, i < k → iG q.2 161 i = nI (psB P w k i)) := by
  obtain ⟨q, k1, k2⟩ : ∃ q : Int64 × cS, (∀ N, k - 0 < N → itr (fun (v : (Int32 × Int32) × cS) => b_X7_castNets_87 N0 (nI k) (nI w) v.1.1 v.1.2 v.2) N ((nI (frB P w k 0), nI 0), t) = some q) ∧ (q.1 = dB P w k 40 ∧ Fw (fun o _ => o = 161) t q.2 ∧ ∀ i, i < k → iG q.2 161 i = nI (psB P w k i)) := by
    refine itr_inv (I := fun m v => ∃ (i : Nat) (u : cS), v = ((nI (frB P w k i), nI i), u) ∧ i ≤ k ∧ m = k - i ∧ Fw (fun o _ => o = 161) t u ∧ ∀ j, j < i → iG u 161 j = nI (psB P w k j)) ?_ (k - 0) _ ⟨0, t, rfl, by omega, rfl, Fw.rf, fun i hi => absurd hi (by omega)⟩
    rintro m v ⟨i, u, rfl, hi, hm, hF, hu⟩
    show (∃ v' m', b_X7_castNets_87 N0 (nI k) (nI w) (nI (frB P w k i)) (nI i) u = _ ∧ _) ∨ (∃ q, b_X7_castNets_87 N0 (nI k) (nI w) (nI (frB P w k i)) (nI i) u = _ ∧ _)
    have hTu : TabX 160 P w u (fun n _ => n ≤ k) := fun n d hn hd h => by rw [hF.lng (by omega)]; exact hT n d hn hd h
    have hPu : ∀ c, c ≤ 40 → lG u 159 c = P c := fun c hc => by rw [hF.lng (by omega), hP c hc]
    unfold b_X7_castNets_87
    by_cases c1 : i = k
    · right
      subst c1
      have hbo : f_X7_bestOf (nI i) 0 u = dB P w i 40 := by
        unfold f_X7_bestOf
        have e41 : nI i * 41 + 0 = nI (i * 41 + (40 - 40)) := by
          show nI i * nI 41 + nI 0 = _
          rw [pk_mul, nI_add]
        rw [e41, lA_n (by omega) (by omega), hTu i 40 (by omega) (by omega) (Nat.le_refl _)]
      rw [if_pos (nI_le (Nat.le_refl _) (by omega)), hbo]
      exact ⟨_, rfl, rfl, hF, hu⟩
    · left
      rw [if_neg (nI_ge (by omega) (by omega))]
      obtain ⟨f1, f2⟩ := fr_ok hPp hmo hkw i hi
      have e : k - i = (k - (i + 1)) + 1 := by omega
      rw [e] at f2
      have h96 : w_X7_castNets_96 N0 (nI k) (nI w) (nI (frB P w k i)) (nI i) (nI (frB P w k i)) u = _ := sr_X hTu hPu hk hw (by omega) f1 f2 41 _ f1 (by omega) rfl N0 (by omega)
      rw [h96, nI_add, nI_1, pA_n (by omega) (by omega)]
      refine ⟨_, _, rfl, ?_, i + 1, _, rfl, by omega, rfl, hF.st rfl, fun j hj => ?_⟩
      · omega
      · rw [iG_if, if_pos rfl]
        by_cases e : j = i
        · subst e
          rw [if_pos rfl]
          rfl
        · rw [if_neg e]
          exact hu j (by omega)
  exact ⟨q, k1 N0 (by omega), k2⟩
theorem sv_M {P : Nat → Int64} {p : Nat → Nat} {k w : Nat} {x3 : Int32} {t : cS} (hPp : ∀ c, c ≤ 40 → P c = lN (p c) ∧ p c ≤ c * 600000000000000) (hmo : ∀ c, c < 40 → p c ≤ p (c + 1)) (hk : k ≤ 4) (hw : w ≤ 10) (hkw : k * w ≤ 40) (hx : x3 = -1 ∨ ∃ i, i < k ∧ x3 = nI i) (hT : TabX 241 P w t (fun n _ => n ≤ k)) (hP : ∀ c, c ≤ 40 → lG t 240 c = P c) (N0 : Nat) (hN0 : 50 < N0) : ∃ q, b_X12_nets_58 N0 (nI k) (nI w) x3 (nI (k + 1)) t = some (Sum.inr q) ∧ (q.2 = t ∧ (x3 = -1 → q.1 = dB P w k 40) ∧ ∀ i, i < k → x3 = nI i → q.1 = (nI (psB P w k i)).toInt64) := by
  unfold b_X12_nets_58
  rw [if_pos (nI_lt (by omega) (by omega))]
  have m1n : ∀ i : Nat, i < 2 ^ 31 → ¬ nI i = -1 := fun i hi z => by
    have := nI_pos hi
    rw [z] at this
    exact this (by decide)
  by_cases c1 : x3 = -1
  · have ix : (41 : Int32) * nI k = nI (k * 41 + (40 - 40)) := by
      show nI 41 * nI k = _
      rw [pk_mul, Nat.mul_comm]
      rfl
    rw [if_pos c1, ix, if_pos ((inb_n (by omega)).mpr (by omega)), nI_clamp (by omega), hT k 40 (by omega) (by omega) (Nat.le_refl _)]
    exact ⟨_, rfl, rfl, fun _ => rfl, fun i hi z => absurd (z.symm.trans c1) (m1n i (by omega))⟩
  · rw [if_neg c1]
    obtain ⟨i0, hi0, hx0⟩ := hx.resolve_left c1
    obtain ⟨q, k1, k2⟩ : ∃ q : Int64 × cS, (∀ N, i0 - 0 < N → itr (fun (v : (Int32 × Int32) × cS) => b_X12_nets_254 N0 (nI k) (nI w) x3 v.1.1 v.1.2 v.2) N ((nI (frB P w k 0), nI (k - 0)), t) = some q) ∧ (q = ((nI (psB P w k i0)).toInt64, t)) := by
      refine itr_inv (I := fun m v => ∃ (i : Nat), v = ((nI (frB P w k i), nI (k - i)), t) ∧ i ≤ i0 ∧ m = i0 - i) ?_ (i0 - 0) _ ⟨0, rfl, by omega, rfl⟩
      rintro m v ⟨i, rfl, hi, hm⟩
      show (∃ v' m', b_X12_nets_254 N0 (nI k) (nI w) x3 (nI (frB P w k i)) (nI (k - i)) t = _ ∧ _) ∨ (∃ q, b_X12_nets_254 N0 (nI k) (nI w) x3 (nI (frB P w k i)) (nI (k - i)) t = _ ∧ _)
      obtain ⟨f1, f2⟩ := fr_ok hPp hmo hkw i (by omega)
      have e : k - i = (k - (i + 1)) + 1 := by omega
      rw [e] at f2
      have h259 : w_X12_nets_259 N0 (nI k) (nI w) x3 (nI (frB P w k i)) (nI (k - (i + 1) + 1)) t = _ := sr_M hT hP hk hw (i := i) (by omega) 41 _ f1 (by omega) f2 N0 (by omega)
      unfold b_X12_nets_254
      rw [if_neg (nI_nle (by omega) (by omega)), e, h259]
      by_cases c2 : i = i0
      · right
        subst c2
        rw [if_pos hx0.symm]
        exact ⟨_, rfl, rfl⟩
      · left
        rw [if_neg (fun z => c2 ((nI_eq (by omega) (by omega)).mp (z.trans hx0))), nI_add]
        refine ⟨_, _, rfl, ?_, i + 1, rfl, by omega, rfl⟩
        omega
    subst k2
    have h254 : w_X12_nets_254 N0 (nI k) (nI w) x3 0 (nI k) t = some ((nI (psB P w k i0)).toInt64, t) := k1 N0 (by omega)
    rw [h254]
    exact ⟨_, rfl, rfl, fun z => absurd z c1, fun i hi z => by
      have : i = i0 := (nI_eq (by omega) (by omega)).mp (z.symm.trans hx0)
      rw [this]⟩
theorem m_nets {s : cS} (h : StoI s) (a0 a1 a2 : Int32) : ∃ r s1 s2, r_X11_nets a0 a1 a2 s r s1 ∧ r_X12_nets a0 a1 a2 s1 r s2 ∧ Fw stoP s s2 ∧ StoI s2 := by
  have hb := h
  obtain ⟨n, f, hN⟩ := h
  unfold r_X11_nets r_X12_nets
  suffices ∃ r s1 s2, f_X11_nets 60 a0 a1 a2 s = some (r, s1) ∧ f_X12_nets 60 a0 a1 a2 s1 = some (r, s2) ∧ Fw stoP s s2 ∧ StoI s2 from by
    obtain ⟨r, s1, s2, e1, e2, e3⟩ := this
    exact ⟨r, s1, s2, ⟨60, e1⟩, ⟨60, e2⟩, e3⟩
  unfold f_X11_nets f_X12_nets
  rw [lIn_w (a' := 1) (b' := 4) rfl rfl, lIn_w (a' := 1) (b' := 10) rfl rfl, lIn_w (a' := -1) (b' := a0 - 1) rfl l_i]
  rcases wB_c a0 1 4 (by decide) (by decide) with c1 | ⟨k, hk1, hk, rfl, c1⟩
  · have c1 : wB a0 1 4 = 0 := c1
    simp only [if_pos c1]
    exact ⟨_, _, _, rfl, rfl, Fw.rf, hb⟩
  have c1 : wB (nI k) 1 4 = 1 := c1
  simp only [if_neg (one_ne0 c1)]
  rcases wB_c a1 1 10 (by decide) (by decide) with c2 | ⟨w, hw1, hw, rfl, c2⟩
  · have c2 : wB a1 1 10 = 0 := c2
    simp only [if_pos c2]
    exact ⟨_, _, _, rfl, rfl, Fw.rf, hb⟩
  have c2 : wB (nI w) 1 10 = 1 := c2
  simp only [if_neg (one_ne0 c2)]
  have hkw4 : k * w ≤ 4 * 10 := Nat.mul_le_mul hk hw
  rw [pk_mul]
  by_cases c3 : 40 < k * w
  · simp only [if_pos (c := 40 < nI (k * w)) (nI_lt (a := 40) c3 (by omega))]
    exact ⟨_, _, _, rfl, rfl, Fw.rf, hb⟩
  simp only [if_neg (c := 40 < nI (k * w)) (nI_nlt (b := k * w) (a := 40) (by omega) (by omega))]
  by_cases c4 : wB a2 (-1) (nI k - 1) = 0
  · simp only [if_pos c4]
    exact ⟨_, _, _, rfl, rfl, Fw.rf, hb⟩
  simp only [if_neg c4]
  have hx : a2 = -1 ∨ ∃ i, i < k ∧ a2 = nI i := by
    obtain ⟨p1, p2⟩ := wB_1 c4
    have q1 := lei.mp p1
    have e : nI k - 1 = nI (k - 1) := pk_sub (b := 1) hk1
    rw [e] at p2
    by_cases c : a2 < 0
    · left
      rw [eqi]
      have := lti.mp c
      have h0 : (0 : Int32).toInt = 0 := rfl
      have h1 : (-1 : Int32).toInt = -1 := rfl
      omega
    · right
      obtain ⟨i, hi, rfl⟩ := nI_of c
      exact ⟨i, by have := (nI_leI hi (by omega)).mp p2; omega, rfl⟩
  obtain ⟨pp, hPp, hmo⟩ := pC_nat hN
  obtain ⟨t1, e1, hF1, hP1⟩ := sw_X hN 60 (by omega)
  obtain ⟨t2, ⟨r, t3⟩, hF2, ⟨q1, hF3, q3⟩, e2⟩ := tab_X (k := k) (w := w) hk hw hP1 60 (by omega) (Q := fun t q => q.1 = dB (pC s f n) w k 40 ∧ Fw (fun o _ => o = 161) t q.2 ∧ ∀ i, i < k → iG q.2 161 i = nI (psB (pC s f n) w k i)) (fun t hF hT => sv_X hPp hmo hk hw (by omega) hT (fun c hc => by rw [hF.lng (by omega), hP1 c hc]) 60 (by omega))
  dsimp only at q1 hF3 q3
  have hF : Fw (fun o k => (o = 159 ∧ k ≠ 0) ∨ o = 160 ∨ o = 161) s t3 := (hF1.mo (fun o k h => Or.inl h)).tr ((hF2.mo (fun o k h => Or.inr (Or.inl h))).tr (hF3.mo (fun o k h => Or.inr (Or.inr h))))
  have hN3 : StoN n f t3 := (StoN.rd n f).fw hF hN (fun o k q => by unfold stoQ at q; omega)
  have hpC : pC t3 f n = pC s f n := by
    unfold pC
    rw [wC_fw hF (fun o k _ _ => by omega)]
  obtain ⟨t4, e4, hF4, hP4⟩ := sw_M hN3 60 (by omega)
  rw [hpC] at hP4
  obtain ⟨t5, ⟨r', t6⟩, hF5, ⟨g1, g2, g3⟩, e5⟩ := tab_M (k := k) (w := w) (x3 := a2) hk hw hPp hmo hP4 60 (by omega) (Q := fun t q => q.2 = t ∧ (a2 = -1 → q.1 = dB (pC s f n) w k 40) ∧ ∀ i, i < k → a2 = nI i → q.1 = (nI (psB (pC s f n) w k i)).toInt64) (fun t hF hT => sv_M hPp hmo hk hw (by omega) hx hT (fun c hc => by rw [hF.lng (by omega), hP4 c hc]) 60 (by omega))
  dsimp only at g1 g2 g3
  subst g1
  have hFF : Fw stoP s t6 := (hF.mo (fun o k h => by unfold stoP; omega)).tr ((hF4.mo (fun o k h => by unfold stoP; omega)).tr (hF5.mo (fun o k h => by unfold stoP; omega)))
  have hN6 : StoN n f t6 := (StoN.rd n f).fw (hF4.mo (P' := fun o _ => o = 240 ∨ o = 241) (fun o k h => Or.inl h) |>.tr (hF5.mo (fun o k h => Or.inr h))) hN3 (fun o k q => by unfold stoQ at q; omega)
  have ecast : f_X7_castNets 60 (nI k) (nI w) s = some (r, t3) := by
    unfold f_X7_castNets
    rw [ob_some e1, e2]
  rw [ob_some ecast]
  rcases hx with c5 | ⟨i, hi, c5⟩
  · refine ⟨r, t3, t6, by rw [if_pos c5], ?_, hFF, n, f, hN6⟩
    rw [ob_some e4, e5, g2 c5, q1]
  · have m1n : ¬ a2 = -1 := fun z => by
      have := nI_pos (n := i) (by omega)
      rw [← c5, z] at this
      exact this (by decide)
    refine ⟨(nI (psB (pC s f n) w k i)).toInt64, t3, t6, ?_, ?_, hFF, n, f, hN6⟩
    · rw [if_neg m1n]
      unfold f_X7_net
      rw [c5, aA_n (by omega) (by omega), q3 i hi]
    · rw [ob_some e4, e5, g3 i hi c5]
