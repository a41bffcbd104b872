/-! the class's reader of values -/
theorem digS_bd {tb : Nat → Nat} {e : Nat} : ∀ {k p v p' v' : Nat}, digS tb e k p v = .inl (p', v') → v' + 1 ≤ (v + 1) * 10 ^ k := by
  intro k
  induction k with
  | zero =>
    intro p v p' v' h
    unfold digS at h
    split at h
    · cases h
    · cases h; simp
  | succ k ih =>
    intro p v p' v' h
    unfold digS at h
    split at h
    · rename_i c
      have := ih h
      have h1 : v * 10 + (cq tb e p - 48) + 1 ≤ (v + 1) * 10 := by omega
      calc v' + 1 ≤ (v * 10 + (cq tb e p - 48) + 1) * 10 ^ k := this
        _ ≤ ((v + 1) * 10) * 10 ^ k := Nat.mul_le_mul_right _ h1
        _ = (v + 1) * 10 ^ (k + 1) := by rw [Nat.pow_succ, Nat.mul_assoc, Nat.mul_comm 10]
    · cases h
      have : 1 ≤ 10 ^ (k + 1) := Nat.one_le_pow _ _ (by decide)
      calc v + 1 = (v + 1) * 1 := by rw [Nat.mul_one]
        _ ≤ (v + 1) * 10 ^ (k + 1) := Nat.mul_le_mul_left _ this
theorem numS_bd {tb : Nat → Nat} {e m p p' v' : Nat} (h : numS tb e m p = .inl (p', v')) : v' < 10 ^ m := by
  unfold numS at h
  split at h
  · have := digS_bd h
    omega
  · cases h
section
variable {tb : Nat → Nat} {e T : Nat}
theorem fac_no {k d p z u N : Nat} {W : Nat → Nat × Nat} {s : cS} {q : Unit × cS} (h : XR tb e p T z u W s) (hl : cq tb e p ∉ lets) (hq : Ev (fun N => j_X4_readFactor_24 N (F_sum N k) (nI d) (sgn s) (-1) s) q) : Ev (fun N => f_X4_readFactor N (F_sum N k) (nI d) s) q := by
  by_cases c : p < e
  · have hc : cq tb e p < 256 := by
      have := h.1.2.2.2.2.2.1 p
      unfold cq
      rw [if_pos c]
      exact this
    have hs := h.1.eq hc
    have hx : ixF (nI (cq tb e p)).toInt8.toInt32 10 = -1 := by
      rcases (ix_val _ hc).1 with ⟨-, z⟩ | ⟨j, hj, hj2, -⟩
      · exact z
      · exfalso
        apply hl
        rw [← hj2]
        have : ∀ j, j < 10 → lets.getD j 0 ∈ lets := by decide
        exact this j hj
    have hi := ix_f hc s
    rw [hx] at hi
    refine Ev.cg (Ev.bnd hi (k := fun N r3 s4 => j_X4_readFactor_24 N (F_sum N k) (nI d) (sgn s) r3 s4) hq) (fun N => ?_)
    unfold f_X4_readFactor
    rw [hs, if_neg (fun z => m1_ne (c := cq tb e p) (by omega) z.symm)]
  · have hs : sgn s = -1 := by rw [h.1.sg, if_neg c]
    refine Ev.cg hq (fun N => ?_)
    unfold f_X4_readFactor
    rw [hs, if_pos rfl]
theorem A_facX (hT : T = 11 ∨ T = 19) (k d : Nat) : AX T (fun N s => f_X4_readFactor N (F_sum N k) (nI d) s) := by
  intro f w s h
  obtain ⟨s1, a1, a2, a3⟩ := h.add hT 1 0
  refine ⟨s1, Ev.cg (Ev.bnd (h.1.num 5) (k := fun N r22 s23 => if kd s.1.2.2 3 then some ((), (f_X3_add s.1.2.2 1 r22 s23).2) else none) (Ev.of fun N => ?_)) (fun N => ?_), a2, a3.xl⟩
  · rw [h.2, if_pos (kdT hT), a1]
  · show f_X4_readFactor N (F_sum N k) (nI d) s = _
    unfold f_X4_readFactor
    rw [h.1.sg, if_pos rfl]
    unfold j_X4_readFactor_24
    rw [if_pos (by decide), if_neg (by decide)]
    rfl
theorem A_fac (hT : T = 11 ∨ T = 19) {k d : Nat} (hd : d ≤ 6) (IH : d < 6 → ∀ p z u W s, XR tb e p T z u W s → AS tb e (sumS tb e k (d + 1) p) (fun N s => F_sum N k (nI (d + 1)) s) p T z u W s (2 * k + 1)) (IX : d < 6 → AX T (fun N s => F_sum N k (nI (d + 1)) s)) (p z u : Nat) (W : Nat → Nat × Nat) (s : cS) (h : XR tb e p T z u W s) : AS tb e (facS tb e (sumS tb e k) d p) (fun N s => f_X4_readFactor N (F_sum N k) (nI d) s) p T z u W s (2 * k + 1) := by
  have hh := h
  obtain ⟨hTR, hLR, hzp, he⟩ := h
  unfold facS
  by_cases hl : cq tb e p ∈ lets
  · rw [if_pos hl]
    have hr := lets_nd hl
    have hlt : p < e := cq_lt (tb := tb) (by omega)
    obtain ⟨j, hj, hj2, hx⟩ : ∃ j, j < 10 ∧ lets.getD j 0 = cq tb e p ∧ ixF (nI (cq tb e p)).toInt8.toInt32 10 = nI j := by
      rcases (ix_val (cq tb e p) (by omega)).1 with ⟨z, -⟩ | z
      · exact absurd hl z
      · exact z
    have hi := ix_f (c := cq tb e p) (by omega) s
    rw [hx] at hi
    have hs := hTR.eq (by omega)
    obtain ⟨s1, a1, a2, a3⟩ := hTR.pass (c := cq tb e p) rfl (by omega)
    have hL1 := hLR.t hT a3
    obtain ⟨s2, b1, b2, b3⟩ := hL1.letter hT (by omega) hj
    refine ⟨by simp, by omega, s2, u ||| 2 ^ j, upW W z (2, j), ?_, ⟨a2.l hT b3, b2, by simp; omega, he⟩, fun i hi => upW_ne (by omega), fun i hi => or_bits.1 hi, ?_, ?_, a3.xt.tr b3.xl⟩
    · refine Ev.cg (Ev.bnd hi (k := fun N r3 s4 => j_X4_readFactor_24 N (F_sum N k) (nI d) (sgn s) r3 s4) (Ev.of fun N => ?_)) (fun N => ?_)
      · unfold j_X4_readFactor_24
        rw [if_neg (c := nI j < 0) (nI_pos (by omega)), hs, a1, tb_mk, hL1.1, if_pos (kdT hT), b1, tb_mk]
      · show f_X4_readFactor N (F_sum N k) (nI d) s = _
        unfold f_X4_readFactor
        rw [hs, if_neg (fun z => m1_ne (c := cq tb e p) (by omega) z.symm)]
    · intro x hx h1
      rw [List.mem_singleton.mp hx]
      exact ⟨j, hj, hj2, (or_bits (i := 0)).2⟩
    · exact (SemS.let upW_eq hj2).mo (by omega)
  · rw [if_neg hl]
    by_cases hb : cq tb e p = 91
    · rw [if_pos hb]
      have hs : sgn s = 91 := (hTR.is (c := 91) (by decide)).mpr hb
      by_cases hd6 : d < 6
      · rw [if_pos hd6]
        obtain ⟨s1, a1, a2, a3⟩ := hTR.pass hb (by decide)
        have hlt : p < e := cq_lt (tb := tb) (by omega)
        have hX1 : XR tb e (p + 1) T z u W s1 := ⟨a2, hLR.t hT a3, by omega, he⟩
        have hI := IH hd6 (p + 1) z u W s1 hX1
        have hgo : ∀ {q : Unit × cS}, Ev (fun N => ob (F_sum N k (nI (d + 1)) s1) fun _ s13 => some ((), (f_X9_pass (93 : Int32) s13).2)) q → Ev (fun N => f_X4_readFactor N (F_sum N k) (nI d) s) q := by
          intro q kq
          refine fac_no (N := 0) hh hl (Ev.cg kq (fun N => ?_))
          have a1' : f_X9_pass 91 s = ((), s1) := a1
          unfold j_X4_readFactor_24
          rw [if_pos (by decide), hs, if_pos rfl, if_pos (c := nI d < 6) (nI_lt (b := 6) hd6 (by omega)), a1', tb_mk, nI_1]
          rfl
        cases hx : sumS tb e k (d + 1) (p + 1) with
        | inr y =>
          obtain ⟨f, w⟩ := y
          rw [hx] at hI
          obtain ⟨s2, b1, b2, b3⟩ := hI
          refine ⟨s2, hgo (Ev.bnd b1 (Ev.of fun N => ?_)), b2, a3.xt.tr b3⟩
          have hp : f_X9_pass 93 s2 = ((), s2) := b2.1.pass (c := 93) (by decide)
          rw [hp]
        | inl y =>
          obtain ⟨p1, L1⟩ := y
          rw [hx] at hI
          obtain ⟨b0, b0', s2, u2, W2, b1, b2, b4, b5, b6, b7, b3⟩ := hI
          show AS tb e (if cq tb e p1 = 93 then .inl (p1 + 1, L1) else .inr (1, p1)) (fun N s => f_X4_readFactor N (F_sum N k) (nI d) s) p T z u W s (2 * k + 1)
          by_cases h93 : cq tb e p1 = 93
          · rw [if_pos h93]
            obtain ⟨s3, c1, c2, c3⟩ := b2.1.pass h93 (by decide)
            have c1' : f_X9_pass 93 s2 = ((), s3) := c1
            exact ⟨by omega, by omega, s3, u2, W2, hgo (Ev.bnd b1 (Ev.of fun N => by rw [c1'])), ⟨c2, b2.2.1.t hT c3, by have := b2.2.2.1; omega, he⟩, b4, b5, b6, b7, a3.xt.tr (b3.tr c3.xt)⟩
          · rw [if_neg h93]
            obtain ⟨s3, c1, c2, c3⟩ := b2.1.npass h93 (by decide)
            have c1' : f_X9_pass 93 s2 = ((), s3) := c1
            exact ⟨s3, hgo (Ev.bnd b1 (Ev.of fun N => by rw [c1'])), ⟨c2, by rw [c3.1]; exact b2.2.1.1⟩, a3.xt.tr (b3.tr c3.xt)⟩
      · rw [if_neg hd6]
        obtain ⟨s1, a1, a2, a3⟩ := hTR.failp 5 (by decide) (by decide)
        have a1' : f_X9_fail 5 (f_X9_place s) s = ((), s1) := a1
        refine ⟨s1, fac_no (N := 0) hh hl (Ev.of fun N => ?_), ⟨a2, by rw [a3.1]; exact hLR.1⟩, a3.xt⟩
        unfold j_X4_readFactor_24
        rw [if_pos (by decide), hs, if_pos rfl, if_neg (c := nI d < 6) (nI_nlt (b := 6) (by omega) (by omega)), a1', tb_mk]
    · rw [if_neg hb]
      have hs : ¬ sgn s = 91 := fun z => hb ((hTR.is (c := 91) (by decide)).mp z)
      have hgo : ∀ {q : Unit × cS}, Ev (fun N => ob (f_X9_number N (5 : Int32) s) fun r22 s23 => some ((), (f_X3_add T (1 : Int32) r22 s23).2)) q → Ev (fun N => f_X4_readFactor N (F_sum N k) (nI d) s) q := by
        intro q kq
        refine fac_no (N := 0) hh hl (Ev.cg kq (fun N => ?_))
        unfold j_X4_readFactor_24
        rw [if_pos (by decide), if_neg hs, hLR.1]
        simp only [if_pos (kdT hT)]
        rfl
      have hN := hTR.num (m := 5) (by decide)
      cases hx : numS tb e 5 p with
      | inr y =>
        obtain ⟨f, w⟩ := y
        rw [hx] at hN
        obtain ⟨s1, r, b1, b2, b3⟩ := hN
        have hB : XB T f w s1 := ⟨b2, by rw [b3.1]; exact hLR.1⟩
        obtain ⟨s2, c1, c2, c3⟩ := hB.add hT 1 r
        exact ⟨s2, hgo (Ev.bnd b1 (Ev.of fun N => by rw [c1])), c2, b3.xt.tr c3.xl⟩
      | inl y =>
        obtain ⟨p1, v1⟩ := y
        rw [hx] at hN
        obtain ⟨s1, b1, b2, b3⟩ := hN
        have hlt := numS_lt (by decide) hx
        have hbd := numS_bd hx
        have hple := b2.2.2.2.2.1
        have hL1 := hLR.t hT b3
        obtain ⟨s2, c1, c2, c3⟩ := hL1.add hT (by omega) (k := 1) (r := v1) (by decide) (by omega)
        have c1' : f_X3_add T 1 (nI v1) s1 = ((), s2) := c1
        refine ⟨by simp; omega, hlt, s2, u, upW W z (1, v1), hgo (Ev.bnd b1 (Ev.of fun N => by rw [c1'])), ⟨b2.l hT c3, c2, by simp; omega, he⟩, fun i hi => upW_ne (by omega), fun i hi => hi, us.no (by decide), (SemS.num upW_eq).mo (by omega), b3.xt.tr c3.xl⟩
theorem A_sum (hT : T = 11 ∨ T = 19) : ∀ (k d : Nat), d ≤ 6 → 7 ≤ k + d → (∀ p z u W s, XR tb e p T z u W s → AS tb e (sumS tb e k d p) (fun N s => F_sum N k (nI d) s) p T z u W s (2 * k + 1)) ∧ AX T (fun N s => F_sum N k (nI d) s)
  | 0, d, hd, hk => by omega
  | k + 1, d, hd, hk => by
    have hF := A_fac (tb := tb) (e := e) hT (k := k) hd (fun h6 => (A_sum hT k (d + 1) (by omega) (by omega)).1) (fun h6 => (A_sum hT k (d + 1) (by omega) (by omega)).2)
    have hFX := A_facX hT k d
    have hTm := A_ch (tb := tb) (e := e) hT (B := fun N v => b_X4_readTerm_15 (f_X4_readFactor N (F_sum N k)) (nI d) v.1.1 v.1.2 v.2) (ops := timesL) (rf := fun N s => f_X4_readFactor N (F_sum N k) (nI d) s) (rd := fun N s => f_X4_readTerm N (f_X4_readFactor N (F_sum N k)) (nI d) s) (sub := facS tb e (sumS tb e k)) (d := d) (dp := 2 * k + 1) (fun c hc => times_ops hc)
      (fun N s c i hi hs hc => by
        show b_X4_readTerm_15 _ (nI d) (sgn s) (nI i) s = _
        unfold b_X4_readTerm_15 j_X4_readTerm_40 goB
        rw [if_neg (c := (160 : Int32) ≤ nI i) (nI_ge (b := 160) hi (by omega)), hs]
        unfold timesL at hc
        simp only [List.mem_cons, List.not_mem_nil, or_false] at hc
        rcases hc with rfl | rfl | rfl
        · rw [if_pos (by rfl)]; rfl
        · rw [if_neg (by decide), if_pos (by rfl)]; rfl
        · rw [if_neg (by decide), if_neg (by decide), if_pos (by rfl)]; rfl)
      (fun N x i s hc => by
        show b_X4_readTerm_15 _ (nI d) x (nI i) s = _
        unfold b_X4_readTerm_15
        rcases hc with hc | hc
        · rw [if_pos (c := (160 : Int32) ≤ nI i) (nI_le (a := 160) hc.1 (by omega))]; rfl
        · have n1 : ¬ x = 42 := hc 42 (by decide)
          have n2 : ¬ x = 47 := hc 47 (by decide)
          have n3 : ¬ x = 37 := hc 37 (by decide)
          rw [if_neg n1, if_neg n2, if_neg n3]
          split <;> rfl)
      (fun N s => rfl) hF hFX
    exact A_ch (tb := tb) (e := e) hT (B := fun N v => b_X4_readSum_15 (f_X4_readTerm N (f_X4_readFactor N (F_sum N k))) (nI d) v.1.1 v.1.2 v.2) (ops := [43, 45]) (rf := fun N s => f_X4_readTerm N (f_X4_readFactor N (F_sum N k)) (nI d) s) (rd := fun N s => F_sum N (k + 1) (nI d) s) (sub := termS tb e (sumS tb e k)) (d := d) (dp := 2 * k + 1 + 1) (fun c hc => (plus_ops hc).1)
      (fun N s c i hi hs hc => by
        show b_X4_readSum_15 _ (nI d) (sgn s) (nI i) s = _
        unfold b_X4_readSum_15 j_X4_readSum_34 goB
        rw [if_neg (c := (160 : Int32) ≤ nI i) (nI_ge (b := 160) hi (by omega)), hs]
        simp only [List.mem_cons, List.not_mem_nil, or_false] at hc
        rcases hc with rfl | rfl
        · rw [if_pos (by rfl)]; rfl
        · rw [if_neg (by decide), if_pos (by rfl)]; rfl)
      (fun N x i s hc => by
        show b_X4_readSum_15 _ (nI d) x (nI i) s = _
        unfold b_X4_readSum_15
        rcases hc with hc | hc
        · rw [if_pos (c := (160 : Int32) ≤ nI i) (nI_le (a := 160) hc.1 (by omega))]; rfl
        · have n1 : ¬ x = 43 := hc 43 (by decide)
          have n2 : ¬ x = 45 := hc 45 (by decide)
          rw [if_neg n1, if_neg n2]
          split <;> rfl)
      (fun N s => rfl) hTm.1 hTm.2
end
