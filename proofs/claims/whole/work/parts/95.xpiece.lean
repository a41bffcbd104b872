/-! the class's reader of pieces -/
section
variable {tb : Nat → Nat} {e T : Nat}
theorem A_choice (hT : T = 11 ∨ T = 19) {k d dp : Nat} (HP : ∀ p z u W s, XR tb e p T z u W s → AC tb e (pieceS tb e k d p) (fun N s => F_piece N k (nI d) s) p T z u W s dp) (HX : AX T (fun N s => F_piece N k (nI d) s)) : (∀ p z u W s, XR tb e p T z u W s → AC tb e (choS tb e (pieceS tb e k) d p) (fun N s => F_choice N k (nI d) s) p T z u W s dp) ∧ AX T (fun N s => F_choice N k (nI d) s) := by
  have h1 := A_chj (tb := tb) (e := e) hT (B := fun N v => b_X4_readPart_9 N (F_piece N k) (nI d) v.1.1 v.1.2 v.2) (c := 38) (k := 5) (Or.inl ⟨rfl, rfl⟩) (rf := fun N s => F_piece N k (nI d) s) (rd := fun N s => f_X4_readPart N (F_piece N k) (nI d) s) (sub := pieceS tb e k) (d := d) (dp := dp)
    (fun N s x i hi hs => by
      show b_X4_readPart_9 N _ (nI d) x (nI i) s = _
      unfold b_X4_readPart_9 jnB
      rw [if_neg (c := (160 : Int32) ≤ nI i) (nI_ge (b := 160) hi (by omega)), if_pos (by rw [hs]; rfl)]
      rfl)
    (fun N x i s hc => by
      show b_X4_readPart_9 N _ (nI d) x (nI i) s = _
      unfold b_X4_readPart_9 j_X4_readPart_58 enB
      rcases hc with hc | hc
      · rw [if_pos (c := (160 : Int32) ≤ nI i) (nI_le (a := 160) hc.1 (by omega))]
      · have hc' : ¬ sgn s = 38 := hc
        rw [if_neg hc']
        split <;> rfl)
    (fun N s => rfl) HP HX
  exact A_chj (tb := tb) (e := e) hT (B := fun N v => b_X4_readChoice_9 N (f_X4_readPart N (F_piece N k)) (nI d) v.1.1 v.1.2 v.2) (c := 124) (k := 4) (Or.inr ⟨rfl, rfl⟩) (rf := fun N s => f_X4_readPart N (F_piece N k) (nI d) s) (rd := fun N s => F_choice N k (nI d) s) (sub := chS tb e [38] (pieceS tb e k)) (d := d) (dp := dp)
    (fun N s x i hi hs => by
      show b_X4_readChoice_9 N _ (nI d) x (nI i) s = _
      unfold b_X4_readChoice_9 jnB
      rw [if_neg (c := (160 : Int32) ≤ nI i) (nI_ge (b := 160) hi (by omega)), if_pos (by rw [hs]; rfl)]
      rfl)
    (fun N x i s hc => by
      show b_X4_readChoice_9 N _ (nI d) x (nI i) s = _
      unfold b_X4_readChoice_9 j_X4_readChoice_58 enB
      rcases hc with hc | hc
      · rw [if_pos (c := (160 : Int32) ≤ nI i) (nI_le (a := 160) hc.1 (by omega))]
      · have hc' : ¬ sgn s = 124 := hc
        rw [if_neg hc']
        split <;> rfl)
    (fun N s => rfl) h1.1 h1.2
/-- behind the first value of a piece -/
def pcB (N d : Nat) (s8 : cS) : Option (Unit × cS) := if sgn s8 = 60 ∨ sgn s8 = 62 ∨ sgn s8 = 61 then ob (F_sum N 8 (nI d) (f_X9_pass (sgn s8) s8).2) fun _ s16 => if kd s16.1.2.2 3 then some ((), (f_X3_add s16.1.2.2 (sgn s8) 0 s16).2) else none else some ((), (f_X9_fail 1 (iG s8 1 3) s8).2)
theorem pie_sum {N k d : Nat} {s : cS} (h1 : ¬ sgn s = 33) (h2 : ¬ sgn s = 40) : F_piece N (k + 1) (nI d) s = ob (F_sum N 8 (nI d) s) fun _ s8 => pcB N d s8 := by
  show f_X4_readPiece _ _ (nI d) s = _
  unfold f_X4_readPiece
  rw [if_neg h1, if_neg h2]
  rcases F_sum N 8 (nI d) s with _ | ⟨r, s8⟩
  · rfl
  · rw [ob_mk, ob_mk]
    unfold pcB j_X4_readPiece_74
    by_cases c1 : sgn s8 = 60
    · rw [if_pos c1, if_pos (Or.inl c1)]; rfl
    · rw [if_neg c1]
      by_cases c2 : sgn s8 = 62
      · rw [if_pos c2, if_pos (Or.inr (Or.inl c2))]; rfl
      · rw [if_neg c2]
        by_cases c3 : sgn s8 = 61
        · rw [if_pos c3, if_pos (Or.inr (Or.inr c3))]; rfl
        · rw [if_neg c3, if_neg (fun z => z.elim c1 (fun z => z.elim c2 c3))]
          rfl
theorem A_piece (hT : T = 11 ∨ T = 19) : ∀ (k d : Nat), d ≤ 6 → 7 ≤ k + d → (∀ p z u W s, XR tb e p T z u W s → AC tb e (pieceS tb e k d p) (fun N s => F_piece N k (nI d) s) p T z u W s 18) ∧ AX T (fun N s => F_piece N k (nI d) s)
  | 0, d, hd, hk => by omega
  | k + 1, d, hd, hk => by
    have hS := A_sum (tb := tb) (e := e) hT 8 d hd (by omega)
    have hpx : ∀ {f w : Nat} {s8 : cS}, XB T f w s8 → Ev (fun N => pcB N d s8) ((), s8) := by
      intro f w s8 h
      refine Ev.of fun N => ?_
      unfold pcB
      rw [h.1.sg, if_neg (by decide), h.1.fail]
    refine ⟨fun p z u W s h => ?_, fun f w s h => ?_⟩
    · have hh := h
      obtain ⟨hTR, hLR, hzp, he⟩ := h
      show AC tb e (pieS tb e (pieceS tb e k) (choS tb e (pieceS tb e k)) (sumS tb e 8) d p) (fun N s => F_piece N (k + 1) (nI d) s) p T z u W s 18
      unfold pieS
      by_cases c33 : cq tb e p = 33
      · rw [if_pos c33]
        have hs : sgn s = 33 := (hTR.is (c := 33) (by decide)).mpr c33
        by_cases hd6 : d < 6
        · rw [if_pos hd6]
          have hlt : p < e := cq_lt (tb := tb) (by omega)
          obtain ⟨s1, a1, a2, a3⟩ := hTR.pass c33 (by decide)
          have a1' : f_X9_pass 33 s = ((), s1) := a1
          have hX1 : XR tb e (p + 1) T z u W s1 := ⟨a2, hLR.t hT a3, by omega, he⟩
          have hI := (A_piece hT k (d + 1) (by omega) (by omega)).1 (p + 1) z u W s1 hX1
          have hgo : ∀ {q : Unit × cS}, Ev (fun N => ob (F_piece N k (nI (d + 1)) s1) fun _ s13 => if kd s13.1.2.2 3 then some ((), (f_X3_add s13.1.2.2 3 0 s13).2) else none) q → Ev (fun N => F_piece N (k + 1) (nI d) s) q := by
            intro q kq
            refine Ev.cg kq (fun N => ?_)
            show f_X4_readPiece _ _ (nI d) s = _
            unfold f_X4_readPiece j_X4_readPiece_20 f_X4_readInside
            rw [if_pos hs, hs, if_pos (c := nI d < 6) (nI_lt (b := 6) hd6 (by omega)), a1', tb_mk, if_pos rfl, nI_1]
            rcases F_piece N k (nI (d + 1)) s1 with _ | ⟨r, s13⟩
            · rfl
            · rw [ob_mk, ob_mk]
              by_cases c : kd s13.1.2.2 3
              · rw [if_pos c, if_pos c]; rfl
              · rw [if_neg c, if_neg c]; rfl
          cases hx : pieceS tb e k (d + 1) (p + 1) with
          | inr y =>
            obtain ⟨f, w⟩ := y
            rw [hx] at hI
            obtain ⟨s2, b1, b2, b3⟩ := hI
            obtain ⟨s3, c1, c2, c3⟩ := b2.add hT 3 0
            exact ⟨s3, hgo (Ev.bnd b1 (Ev.of fun N => by rw [b2.2, if_pos (kdT hT), c1])), c2, a3.xt.tr (b3.tr c3.xl)⟩
          | inl y =>
            obtain ⟨p1, L1⟩ := y
            rw [hx] at hI
            obtain ⟨b0, b0', s2, u2, W2, b1, b2, b4, b5, b6, b7, b3⟩ := hI
            have hple := b2.1.2.2.2.2.1
            obtain ⟨s3, c1, c2, c3⟩ := b2.2.1.add hT (by omega) (k := 3) (r := 0) (by decide) (by decide)
            have c1' : f_X3_add T 3 0 s2 = ((), s3) := c1
            have hlen : (L1 ++ [(2, 0)]).length = L1.length + 1 := by simp
            have hzl : z + L1.length + 1 = z + (L1 ++ [(2, 0)]).length := by omega
            have hS7 : SemC (upW W2 (z + L1.length) (3, 0)) z (z + L1.length) L1 18 := b7.cg fun i _ hi => upW_ne (by omega)
            have hS8 := hS7.not upW_eq
            rw [hzl] at c2 hS8
            exact ⟨by omega, by omega, s3, u2, _, hgo (Ev.bnd b1 (Ev.of fun N => by rw [b2.2.1.1, if_pos (kdT hT), c1'])), ⟨b2.1.l hT c3, c2, by omega, he⟩, fun i hi => (upW_ne (by omega)).trans (b4 i hi), b5, b6.ap (us.no (by decide)), hS8, a3.xt.tr (b3.tr c3.xl)⟩
        · rw [if_neg hd6]
          obtain ⟨s1, a1, a2, a3⟩ := hTR.failp 5 (by decide) (by decide)
          have a1' : f_X9_fail 5 (f_X9_place s) s = ((), s1) := a1
          refine ⟨s1, Ev.of fun N => ?_, ⟨a2, by rw [a3.1]; exact hLR.1⟩, a3.xt⟩
          show f_X4_readPiece _ _ (nI d) s = _
          unfold f_X4_readPiece j_X4_readPiece_20 f_X4_readInside
          rw [if_pos hs, if_neg (c := nI d < 6) (nI_nlt (b := 6) (by omega) (by omega)), a1', tb_mk, ob_mk]
      · rw [if_neg c33]
        have hs33 : ¬ sgn s = 33 := fun z => c33 ((hTR.is (c := 33) (by decide)).mp z)
        by_cases c40 : cq tb e p = 40
        · rw [if_pos c40]
          have hs : sgn s = 40 := (hTR.is (c := 40) (by decide)).mpr c40
          by_cases hd6 : d < 6
          · rw [if_pos hd6]
            have hlt : p < e := cq_lt (tb := tb) (by omega)
            obtain ⟨s1, a1, a2, a3⟩ := hTR.pass c40 (by decide)
            have a1' : f_X9_pass 40 s = ((), s1) := a1
            have hX1 : XR tb e (p + 1) T z u W s1 := ⟨a2, hLR.t hT a3, by omega, he⟩
            have hP := A_piece hT k (d + 1) (by omega) (by omega)
            have hI := (A_choice (tb := tb) (e := e) hT hP.1 hP.2).1 (p + 1) z u W s1 hX1
            have hgo : ∀ {q : Unit × cS}, Ev (fun N => ob (F_choice N k (nI (d + 1)) s1) fun _ s7 => some ((), (f_X9_pass 41 s7).2)) q → Ev (fun N => F_piece N (k + 1) (nI d) s) q := by
              intro q kq
              refine Ev.cg kq (fun N => ?_)
              show f_X4_readPiece _ _ (nI d) s = _
              unfold f_X4_readPiece j_X4_readPiece_20 f_X4_readInside
              rw [if_neg hs33, if_pos hs, hs, if_pos (c := nI d < 6) (nI_lt (b := 6) hd6 (by omega)), a1', tb_mk, if_neg (by decide), nI_1]
              show ob (ob (F_choice N k (nI (d + 1)) s1) _) _ = _
              rcases F_choice N k (nI (d + 1)) s1 with _ | ⟨r, s13⟩
              · rfl
              · rfl
            cases hx : choS tb e (pieceS tb e k) (d + 1) (p + 1) with
            | inr y =>
              obtain ⟨f, w⟩ := y
              rw [hx] at hI
              obtain ⟨s2, b1, b2, b3⟩ := hI
              have hp : f_X9_pass 41 s2 = ((), s2) := b2.1.pass (c := 41) (by decide)
              exact ⟨s2, hgo (Ev.bnd b1 (Ev.of fun N => by rw [hp])), b2, a3.xt.tr b3⟩
            | inl y =>
              obtain ⟨p1, L1⟩ := y
              rw [hx] at hI
              obtain ⟨b0, b0', s2, u2, W2, b1, b2, b4, b5, b6, b7, b3⟩ := hI
              show AC tb e (if cq tb e p1 = 41 then .inl (p1 + 1, L1) else .inr (1, p1)) (fun N s => F_piece N (k + 1) (nI d) s) p T z u W s 18
              by_cases h41 : cq tb e p1 = 41
              · rw [if_pos h41]
                obtain ⟨s3, c1, c2, c3⟩ := b2.1.pass h41 (by decide)
                have c1' : f_X9_pass 41 s2 = ((), s3) := c1
                exact ⟨by omega, by omega, s3, u2, W2, hgo (Ev.bnd b1 (Ev.of fun N => by rw [c1'])), ⟨c2, b2.2.1.t hT c3, by have := b2.2.2.1; omega, he⟩, b4, b5, b6, b7, a3.xt.tr (b3.tr c3.xt)⟩
              · rw [if_neg h41]
                obtain ⟨s3, c1, c2, c3⟩ := b2.1.npass h41 (by decide)
                have c1' : f_X9_pass 41 s2 = ((), s3) := c1
                exact ⟨s3, hgo (Ev.bnd b1 (Ev.of fun N => by rw [c1'])), ⟨c2, by rw [c3.1]; exact b2.2.1.1⟩, a3.xt.tr (b3.tr c3.xt)⟩
          · rw [if_neg hd6]
            obtain ⟨s1, a1, a2, a3⟩ := hTR.failp 5 (by decide) (by decide)
            have a1' : f_X9_fail 5 (f_X9_place s) s = ((), s1) := a1
            refine ⟨s1, Ev.of fun N => ?_, ⟨a2, by rw [a3.1]; exact hLR.1⟩, a3.xt⟩
            show f_X4_readPiece _ _ (nI d) s = _
            unfold f_X4_readPiece j_X4_readPiece_20 f_X4_readInside
            rw [if_neg hs33, if_pos hs, if_neg (c := nI d < 6) (nI_nlt (b := 6) (by omega) (by omega)), a1', tb_mk, ob_mk]
        · rw [if_neg c40]
          have hs40 : ¬ sgn s = 40 := fun z => c40 ((hTR.is (c := 40) (by decide)).mp z)
          have hA := hS.1 p z u W s hh
          have hgo : ∀ {s8 : cS} {q : Unit × cS}, Ev (fun N => F_sum N 8 (nI d) s) ((), s8) → Ev (fun N => pcB N d s8) q → Ev (fun N => F_piece N (k + 1) (nI d) s) q := by
            intro s8 q k1 k2
            exact Ev.cg (Ev.bnd (k := fun N _ s8 => pcB N d s8) k1 k2) (fun N => pie_sum hs33 hs40)
          cases hx : sumS tb e 8 d p with
          | inr y =>
            obtain ⟨f, w⟩ := y
            rw [hx] at hA
            obtain ⟨s2, b1, b2, b3⟩ := hA
            exact ⟨s2, hgo b1 (hpx b2), b2, b3⟩
          | inl y =>
            obtain ⟨p1, L1⟩ := y
            rw [hx] at hA
            obtain ⟨b0, b0', s2, u2, W2, b1, b2, b4, b5, b6, b7, b3⟩ := hA
            show AC tb e (if cq tb e p1 ∈ ([60, 62, 61] : List Nat) then match sumS tb e 8 d (p1 + 1) with
              | .inl (p'', L') => .inl (p'', L1 ++ L' ++ [(cq tb e p1, 0)])
              | .inr f => .inr f
              else .inr (1, p1)) (fun N s => F_piece N (k + 1) (nI d) s) p T z u W s 18
            by_cases hc : cq tb e p1 ∈ ([60, 62, 61] : List Nat)
            · rw [if_pos hc]
              obtain ⟨q1, q2, q3, q4⟩ := sgL_no hc
              have hcl : 5 < cq tb e p1 := by
                simp only [List.mem_cons, List.not_mem_nil, or_false] at hc
                omega
              have hs2 := b2.1.eq q4
              have hcase : sgn s2 = 60 ∨ sgn s2 = 62 ∨ sgn s2 = 61 := by
                rw [hs2]
                simp only [List.mem_cons, List.not_mem_nil, or_false] at hc
                rcases hc with z | z | z <;> rw [z]
                · exact Or.inl rfl
                · exact Or.inr (Or.inl rfl)
                · exact Or.inr (Or.inr rfl)
              have hlt1 : p1 < e := cq_lt (tb := tb) q4
              obtain ⟨s3, c1, c2, c3⟩ := b2.1.pass (c := cq tb e p1) rfl q4
              have hz2 := b2.2.2.1
              have hX3 : XR tb e (p1 + 1) T (z + L1.length) u2 W2 s3 := ⟨c2, b2.2.1.t hT c3, by omega, he⟩
              have hA2 := hS.1 (p1 + 1) (z + L1.length) u2 W2 s3 hX3
              have hgo2 : ∀ {q : Unit × cS}, Ev (fun N => ob (F_sum N 8 (nI d) s3) fun _ s16 => if kd s16.1.2.2 3 then some ((), (f_X3_add s16.1.2.2 (nI (cq tb e p1)) 0 s16).2) else none) q → Ev (fun N => F_piece N (k + 1) (nI d) s) q := by
                intro q kq
                refine hgo b1 (Ev.cg kq (fun N => ?_))
                unfold pcB
                rw [if_pos hcase, hs2, c1]
              cases hy : sumS tb e 8 d (p1 + 1) with
              | inr y =>
                obtain ⟨f, w⟩ := y
                rw [hy] at hA2
                obtain ⟨s4, d1, d2, d3⟩ := hA2
                obtain ⟨s5, g1, g2, g3⟩ := d2.add hT (nI (cq tb e p1)) 0
                exact ⟨s5, hgo2 (Ev.bnd d1 (Ev.of fun N => by rw [d2.2, if_pos (kdT hT), g1])), g2, b3.tr (c3.xt.tr (d3.tr g3.xl))⟩
              | inl y =>
                obtain ⟨p2, L2⟩ := y
                rw [hy] at hA2
                obtain ⟨d0, d0', s4, u4, W4, d1, d2, d4, d5, d6, d7, d3⟩ := hA2
                have hple := d2.1.2.2.2.2.1
                obtain ⟨s5, g1, g2, g3⟩ := d2.2.1.add hT (by omega) (k := cq tb e p1) (r := 0) (by omega) (by decide)
                have g1' : f_X3_add T (nI (cq tb e p1)) 0 s4 = ((), s5) := g1
                have hlen : (L1 ++ L2 ++ [(cq tb e p1, 0)]).length = L1.length + L2.length + 1 := by simp; omega
                have hzl : z + L1.length + L2.length + 1 = z + (L1 ++ L2 ++ [(cq tb e p1, 0)]).length := by omega
                have hS1 : SemS (upW W4 (z + L1.length + L2.length) (cq tb e p1, 0)) z (z + L1.length) L1 17 := b7.cg fun i _ hi => by rw [upW_ne (by omega)]; exact d4 i hi
                have hS2 : SemS (upW W4 (z + L1.length + L2.length) (cq tb e p1, 0)) (z + L1.length) (z + L1.length + L2.length) L2 17 := d7.cg fun i _ hi => upW_ne (by omega)
                have hS3 := SemC.cmp hS1 hS2 upW_eq hc (d := 18) ⟨by decide, by decide⟩
                rw [hzl] at g2 hS3
                exact ⟨by omega, by omega, s5, u4, _, hgo2 (Ev.bnd d1 (Ev.of fun N => by rw [d2.2.1.1, if_pos (kdT hT), g1'])), ⟨d2.1.l hT g3, g2, by omega, he⟩, fun i hi => (upW_ne (by omega)).trans ((d4 i (by omega)).trans (b4 i hi)), fun j hj => d5 j (b5 j hj), ((b6.mo d5).ap d6).ap (us.no (by omega)), hS3, b3.tr (c3.xt.tr (d3.tr g3.xl))⟩
            · rw [if_neg hc]
              obtain ⟨s3, c1, c2, c3⟩ := b2.1.failp 1 (by decide) (by decide)
              have c1' : f_X9_fail 1 (iG s2 1 3) s2 = ((), s3) := c1
              refine ⟨s3, hgo b1 (Ev.of fun N => ?_), ⟨c2, by rw [c3.1]; exact b2.2.1.1⟩, b3.tr c3.xt⟩
              unfold pcB
              rw [if_neg, c1']
              intro z
              rcases z with z | z | z
              · exact hc (by rw [(b2.1.is (c := 60) (by decide)).mp z]; decide)
              · exact hc (by rw [(b2.1.is (c := 62) (by decide)).mp z]; decide)
              · exact hc (by rw [(b2.1.is (c := 61) (by decide)).mp z]; decide)
    · obtain ⟨s2, b1, b2, b3⟩ := hS.2 f w s h
      refine ⟨s2, Ev.cg (Ev.bnd (k := fun N _ s8 => pcB N d s8) b1 (hpx b2)) (fun N => pie_sum ?_ ?_), b2, b3⟩
      · rw [h.1.sg]; decide
      · rw [h.1.sg]; decide
end
