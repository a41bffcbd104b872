/-! the nets: the tables of both, and where the nets lie -/
def dn (d : Nat) : Int32 := nI 40 - nI d
theorem dn_le {d : Nat} (h : d ≤ 40) : dn d = nI (40 - d) := pk_sub h
theorem dn_41 : dn 41 = -1 := by decide
theorem dn_s (d : Nat) : dn d + (-1) = dn (d + 1) := by
  unfold dn
  rw [show nI (d + 1) = nI d + 1 from (nI_1 d).symm, Int32.sub_eq_add_neg, Int32.sub_eq_add_neg, Int32.neg_add, Int32.sub_eq_add_neg, Int32.add_assoc]
/-- the table T of a state, filled for what lies behind c -/
def TabX (A : Nat) (P : Nat → Int64) (w : Nat) (t : cS) (F : Nat → Nat → Prop) : Prop := ∀ n d, n ≤ 4 → d ≤ 40 → F n d → lG t A (n * 41 + (40 - d)) = dB P w n d
theorem ix41 {n n' a a' : Nat} (ha : a ≤ 40) (ha' : a' ≤ 40) (h : n * 41 + a = n' * 41 + a') : n = n' ∧ a = a' := by omega
theorem TabX.set {A : Nat} {P : Nat → Int64} {w : Nat} {t : cS} {F F' : Nat → Nat → Prop} {n0 d0 : Nat} {v : Int64} (h : TabX A P w t F) (hd : d0 ≤ 40) (hv : v = dB P w n0 d0) (hF : ∀ n d, F' n d → (n = n0 ∧ d = d0) ∨ F n d) : TabX A P w (lS t A (n0 * 41 + (40 - d0)) v) F' := by
  intro n d hn hd' hf
  rw [lG_if, if_pos rfl]
  by_cases e : n * 41 + (40 - d) = n0 * 41 + (40 - d0)
  · obtain ⟨e1, e2⟩ := ix41 (by omega) (by omega) e
    have e3 : d = d0 := by omega
    subst e1 e3
    rw [if_pos rfl, hv]
  · rw [if_neg e]
    rcases hF n d hf with ⟨rfl, rfl⟩ | h'
    · exact absurd rfl e
    · exact h n d hn hd' h'
theorem wf_X {P : Nat → Int64} {w : Nat} {t : cS} {F : Nat → Nat → Prop} {n d : Nat} (hT : TabX 160 P w t F) (hP : ∀ c, c ≤ 40 → lG t 159 c = P c) (hn : n + 1 ≤ 4) (hd : d ≤ 40) (hw : w ≤ 10) (hF : w ≤ d → F n (d - w)) : f_X7_worthFrom (nI (n + 1)) (nI (40 - d)) (nI w) t = tkB P w (dB P w n) d := by
  unfold f_X7_worthFrom tkB f_X7_bestOf
  rw [nI_add, nI_pred]
  have e41 : nI n * 41 + nI (40 - d + w) = nI (n * 41 + (40 - d + w)) := by
    show nI n * nI 41 + _ = _
    rw [pk_mul, nI_add]
  rw [e41]
  by_cases c : w ≤ d
  · have e : n * 41 + (40 - d + w) = n * 41 + (40 - (d - w)) := by omega
    rw [if_neg (c := 40 < nI (40 - d + w)) (nI_nlt (b := 40 - d + w) (a := 40) (by omega) (by omega)), lA_n (n := 205) (by omega) (by omega), lA_n (by omega) (by omega), lA_n (by omega) (by omega), e, hT n (d - w) (by omega) (by omega) (hF c), hP _ (by omega), hP _ (by omega)]
    by_cases c2 : 0 ≤ dB P w n (d - w)
    · rw [if_pos (lg_ge.mpr c2), if_pos ⟨c, c2⟩]
    · rw [if_neg (fun z => c2 (lg_ge.mp z)), if_neg (fun z => c2 z.2)]
  · rw [if_pos (c := 40 < nI (40 - d + w)) (nI_lt (a := 40) (by omega) (by omega)), if_neg (fun z => c z.1)]
theorem row_step {P : Nat → Int64} {w n : Nat} {d : Nat} (hd : d ≤ 40) {L : Int64} (hL : L = if d = 0 then -1 else dB P w (n + 1) (d - 1)) : mx2 L (tkB P w (dB P w n) d) = dB P w (n + 1) d := by
  cases d with
  | zero => rw [hL, if_pos rfl]; rfl
  | succ d => rw [hL, if_neg (by omega)]; rfl
/-- the class's table -/
theorem tab_X {s : cS} {P : Nat → Int64} {k w : Nat} (hk : k ≤ 4) (hw : w ≤ 10) (hP : ∀ c, c ≤ 40 → lG s 159 c = P c) (N0 : Nat) (hN0 : 50 < N0) {Q : cS → Int64 × cS → Prop} (hq : ∀ t, Fw (fun o _ => o = 160) s t → TabX 160 P w t (fun n _ => n ≤ k) → ∃ p, w_X7_castNets_87 N0 (nI k) (nI w) 0 0 t = some p ∧ Q t p) : ∃ t p, Fw (fun o _ => o = 160) s t ∧ Q t p ∧ w_X7_castNets_7 N0 (nI k) (nI w) 40 s = some p := by
  have h40 : ∀ {t : cS}, Fw (fun o _ => o = 160) s t → ∀ c, c ≤ 40 → lG t 159 c = P c := fun hF c hc => by rw [hF.lng (by omega), hP c hc]
  obtain ⟨p, k1, t, k2, k3⟩ : ∃ p : Int64 × cS, (∀ N, 41 - 0 < N → itr (fun (v : Int32 × cS) => b_X7_castNets_7 N0 (nI k) (nI w) v.1 v.2) N (dn 0, s) = some p) ∧ (∃ t, Fw (fun o _ => o = 160) s t ∧ Q t p) := by
    refine itr_inv (I := fun m v => ∃ (d : Nat) (t : cS), v = (dn d, t) ∧ d ≤ 41 ∧ m = 41 - d ∧ Fw (fun o _ => o = 160) s t ∧ TabX 160 P w t (fun n d' => n ≤ k ∧ d' < d)) ?_ (41 - 0) (dn 0, s) ⟨0, s, rfl, by omega, rfl, Fw.rf, fun n d _ _ h => absurd h.2 (by omega)⟩
    rintro m v ⟨d, t, rfl, hd, hm, hF, hT⟩
    show (∃ v' m', b_X7_castNets_7 N0 (nI k) (nI w) (dn d) t = _ ∧ _) ∨ (∃ q, b_X7_castNets_7 N0 (nI k) (nI w) (dn d) t = _ ∧ _)
    unfold b_X7_castNets_7
    by_cases c1 : d = 41
    · right
      subst c1
      have hT' : TabX 160 P w t (fun n _ => n ≤ k) := fun n d hn hd hf => hT n d hn hd ⟨hf, by omega⟩
      obtain ⟨p, hp, hQ⟩ := hq t hF hT'
      rw [dn_41, if_pos (by decide), hp]
      exact ⟨_, rfl, t, hF, hQ⟩
    · left
      have hd' : d ≤ 40 := by omega
      rw [dn_le hd', if_neg (nI_pos (by omega))]
      unfold f_X7_setBest
      dsimp only [tb, sb]
      have e0 : (0 : Int32) * 41 + nI (40 - d) = nI (0 * 41 + (40 - d)) := by
        show nI 0 * nI 41 + _ = _
        rw [pk_mul, nI_add]
      rw [e0, plA_n (by omega) (by omega)]
      have hT1 : TabX 160 P w (lS t 160 (0 * 41 + (40 - d)) 0) (fun n d' => (n ≤ k ∧ d' < d) ∨ (n < 1 ∧ d' = d)) := hT.set hd' rfl (fun n d' h => by omega)
      have hF1 : Fw (fun o _ => o = 160) s (lS t 160 (0 * 41 + (40 - d)) 0) := hF.sl rfl
      generalize lS t 160 (0 * 41 + (40 - d)) 0 = t1 at hT1 hF1
      obtain ⟨p, j1, t2, j2, j3, rfl⟩ : ∃ p : (Int32 × cS) ⊕ (Int64 × cS), (∀ N, k + 1 - 1 < N → itr (fun (v : Int32 × cS) => b_X7_castNets_21 (nI k) (nI w) (nI (40 - d)) v.1 v.2) N (nI 1, t1) = some p) ∧ (∃ t2, Fw (fun o _ => o = 160) s t2 ∧ TabX 160 P w t2 (fun n d' => n ≤ k ∧ d' < d + 1) ∧ p = .inl (dn (d + 1), t2)) := by
        refine itr_inv (I := fun m v => ∃ (j : Nat) (t : cS), v = (nI j, t) ∧ 1 ≤ j ∧ j ≤ k + 1 ∧ m = k + 1 - j ∧ Fw (fun o _ => o = 160) s t ∧ TabX 160 P w t (fun n d' => (n ≤ k ∧ d' < d) ∨ (n < j ∧ d' = d))) ?_ (k + 1 - 1) (nI 1, t1) ⟨1, t1, rfl, by omega, by omega, rfl, hF1, hT1⟩
        rintro m v ⟨j, t', rfl, hj1, hj, hm, hF', hT'⟩
        show (∃ v' m', b_X7_castNets_21 (nI k) (nI w) (nI (40 - d)) (nI j) t' = _ ∧ _) ∨ (∃ q, b_X7_castNets_21 (nI k) (nI w) (nI (40 - d)) (nI j) t' = _ ∧ _)
        unfold b_X7_castNets_21
        by_cases c2 : j = k + 1
        · right
          subst c2
          rw [if_pos (nI_lt (by omega) (by omega)), ← dn_le hd', dn_s]
          exact ⟨_, rfl, t', hF', fun n d' hn hd h => hT' n d' hn hd (by omega), rfl⟩
        · left
          obtain ⟨n, rfl⟩ : ∃ n, j = n + 1 := ⟨j - 1, by omega⟩
          rw [if_neg (nI_nlt (by omega) (by omega))]
          have hwf := wf_X (n := n) (d := d) hT' (h40 hF') (by omega) hd' hw (fun _ => by omega)
          have e41 : nI (n + 1) * 41 + nI (40 - d) = nI ((n + 1) * 41 + (40 - d)) := by
            show nI (n + 1) * nI 41 + _ = _
            rw [pk_mul, nI_add]
          have fin : ∀ L : Int64, (L = if d = 0 then -1 else dB P w (n + 1) (d - 1)) → ∃ v' m', j_X7_castNets_48 (nI k) (nI w) (nI (40 - d)) (nI (n + 1)) L t' = some (Sum.inl v') ∧ m' < m ∧ (∃ (j : Nat) (t : cS), v' = (nI j, t) ∧ 1 ≤ j ∧ j ≤ k + 1 ∧ m' = k + 1 - j ∧ Fw (fun o _ => o = 160) s t ∧ TabX 160 P w t (fun n d' => (n ≤ k ∧ d' < d) ∨ (n < j ∧ d' = d))) := by
            intro L hL
            unfold j_X7_castNets_48 f_X7_setBest
            dsimp only [tb, sb]
            rw [hwf, e41, plA_n (by omega) (by omega), nI_1]
            refine ⟨_, _, rfl, ?_, n + 1 + 1, _, rfl, by omega, by omega, rfl, hF'.sl rfl, hT'.set hd' (row_step hd' hL) (fun n' d' h => by omega)⟩
            omega
          by_cases c3 : d = 0
          · subst c3
            rw [if_pos (by decide)]
            exact fin (-1) rfl
          · rw [if_neg (c := 40 ≤ nI (40 - d)) (nI_ge (b := 40) (by omega) (by omega))]
            refine fin _ ?_
            unfold f_X7_bestOf
            have e41' : nI (n + 1) * 41 + nI (40 - d + 1) = nI ((n + 1) * 41 + (40 - (d - 1))) := by
              show nI (n + 1) * nI 41 + _ = _
              rw [pk_mul, nI_add]
              congr 1
              omega
            rw [nI_1, e41', lA_n (by omega) (by omega), hT' (n + 1) (d - 1) (by omega) (by omega) (by omega), if_neg c3]
      have hw21 : w_X7_castNets_21 N0 (nI k) (nI w) (nI (40 - d)) 1 t1 = some (Sum.inl (dn (d + 1), t2)) := j1 N0 (by omega)
      rw [hw21]
      refine ⟨_, _, rfl, ?_, d + 1, t2, rfl, by omega, rfl, j2, j3⟩
      omega
  exact ⟨t, p, k2, k3, k1 N0 (by omega)⟩
