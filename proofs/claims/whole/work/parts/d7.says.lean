/-! says, cheapest -/
theorem wpF_pos {mc : Nat} {w : Nat → Nat} {R : Nat → Nat → Bool} (hw : ∀ i, i < mc → 1 ≤ w i) : 1 ≤ wpF mc w R 0 := by
  cases mc with
  | zero => rw [wpF_0 rfl]; exact Nat.le_refl _
  | succ k =>
    rw [wpF_s (by omega), wsum_s, if_pos (c := fst1 (R k) 0 = 0) rfl]
    have := hw k (by omega)
    omega
theorem prodN_pos {g : Nat → Nat} : ∀ {n : Nat}, (∀ i, i < n → 1 ≤ g i) → 1 ≤ prodN g n
  | 0, _ => Nat.le_refl _
  | n + 1, h => Nat.mul_pos (prodN_pos fun i hi => h i (by omega)) (h n (by omega))
theorem past_pos {n : Nat} {m : Nat → Nat} {w : Nat → Nat → Nat} {R : Nat → Nat → Nat → Bool} {pc : Nat} (hw : ∀ c i, c < n → i < m c → 1 ≤ w c i) : 1 ≤ past n m w R pc 0 := by
  rw [past_p]
  refine prodN_pos fun c hc => ?_
  unfold facF
  split
  · exact wpF_pos fun i hi => hw c i hc hi
  · exact Nat.le_refl _
section
variable {K : List Cl} {n nt st : Nat} {m : Nat → Nat} {P : Nat → List (Nat × Nat)} {q : Nat → TrQ} {s : cS}
def trS (K : List Cl) (n : Nat) (m : Nat → Nat) (P : Nat → List (Nat × Nat)) (q : Nat → TrQ) (s : cS) (i e : Nat) : Nat := past n m (wts s) (RNP K s (q i).2.1 (P (8 + i))) (q i).1 e
def trW (K : List Cl) (n : Nat) (m : Nat → Nat) (P : Nat → List (Nat × Nat)) (q : Nat → TrQ) (s : cS) (i : Nat) : Nat := trS K n m P q s i 0
def trL (K : List Cl) (n : Nat) (m : Nat → Nat) (P : Nat → List (Nat × Nat)) (q : Nat → TrQ) (s : cS) (i : Nat) : Nat := trS K n m P q s i (pls (P (8 + i)) + (q i).2.2.1)
theorem tr_bd (hC : CorN n m s) (i : Nat) : 1 ≤ trW K n m P q s i ∧ trW K n m P q s i ≤ 25600000000 ∧ trL K n m P q s i ≤ trW K n m P q s i := by
  have hn8 := hC.1
  exact ⟨past_pos fun c i hc hi => (hC.wt (by omega) hi).2.2.1, past_bd hn8 (fun c hc => hC.m4 (by omega)) (fun c i hc hi => (hC.wt (by omega) hi).2.2.2), past_mo (Nat.zero_le _)⟩
theorem trS_cg {t : cS} (h1 : wts t = wts s) (h2 : ∀ p ps, RNP K t p ps = RNP K s p ps) (i e : Nat) : trS K n m P q t i e = trS K n m P q s i e := by
  unfold trS
  rw [h1, h2]
theorem trW_cg {t : cS} (h1 : wts t = wts s) (h2 : ∀ p ps, RNP K t p ps = RNP K s p ps) (i : Nat) : trW K n m P q t i = trW K n m P q s i := trS_cg h1 h2 i 0
theorem trL_cg {t : cS} (h1 : wts t = wts s) (h2 : ∀ p ps, RNP K t p ps = RNP K s p ps) (i : Nat) : trL K n m P q t i = trL K n m P q s i := trS_cg h1 h2 i _
theorem x_say (h : AllI K n m P nt st s) (hT : TriI P nt q s) {i : Nat} (hi : i < nt) : ∃ s1, AllI K n m P nt st s1 ∧ TriI P nt q s1 ∧ wts s1 = wts s ∧ Fw prpP s s1 ∧ ∀ {γ : Type} {k : Nat → Int64 → Int64 → cS → Option γ} {x : γ}, Ev (fun N => k N (lN (trW K n m P q s i - trL K n m P q s i)) (lN (trW K n m P q s i)) s1) x → Ev (fun N => ob (f_X10_program (nI i) s) fun r6 s7 => ob (f_X5_prepare N (f_X10_piece (nI i) s) ((8 : Int32) + nI i) r6 (f_X10_pressure (nI i) s7) (f_X10_pulls (nI i) s7) s7) fun _ s12 => ob (f_X5_lost N (f_X10_piece (nI i) s) (f_X10_pulls (nI i) s12) s12) fun r15 s16 => ob (f_X5_ways N (f_X10_piece (nI i) s) s16) fun r18 s19 => k N r15 r18 s19) x := by
  obtain ⟨t1, t2, t3, t4⟩ := hT
  obtain ⟨u1, u2, u3, u4, u5, u6, u7, u8, u9, u10, u11⟩ := t4 i hi
  obtain ⟨s1, b1, b2, b3, b4, b5⟩ := odd_X (tx := 8 + i) (p := (q i).2.1) (tot := pls (P (8 + i)) + (q i).2.2.1) (pc := (q i).1) h u6 (by omega) (Or.inl (by omega))
  rw [txP8 (by omega)] at b4
  have hT0 : TriI P nt q s := ⟨t1, t2, t3, t4⟩
  have hT1 : TriI P nt q s1 := TriI.rd.fw b5 hT0 fun o k z => by unfold triQ at z; unfold prpP; omega
  have k1 := x_lost (R := RNP K s (q i).2.1 (P (8 + i))) (pc := (q i).1) (q := pls (P (8 + i)) + (q i).2.2.1) b2.1 (by omega) (by omega) (fun c hc hb => Or.inr (b4 c hc hb))
  have k2 := x_ways (R := RNP K s (q i).2.1 (P (8 + i))) (pc := (q i).1) b2.1 (by omega)
  rw [b3] at k1 k2
  refine ⟨s1, b2, hT1, b3, b5, fun {γ k x} hx => ?_⟩
  have p1 : f_X10_piece (nI i) s = nI (q i).1 := by
    unfold f_X10_piece
    rw [aA_n (by omega) (by omega)]
    exact u2
  have p2 : f_X10_pressure (nI i) s = (q i).2.1 := by
    unfold f_X10_pressure
    rw [aA_n (by omega) (by omega)]
    exact u4
  have p3 : f_X10_pulls (nI i) s = nI (pls (P (8 + i)) + (q i).2.2.1) := by
    unfold f_X10_pulls
    rw [aA_n (by omega) (by omega)]
    exact u7
  have p4 : f_X10_pulls (nI i) s1 = nI (pls (P (8 + i)) + (q i).2.2.1) := by
    unfold f_X10_pulls
    rw [aA_n (by omega) (by omega), b5.int (by unfold prpP; omega)]
    exact u7
  refine Ev.cg (Ev.bnd b1 (k := fun N _ s12 => ob (f_X5_lost N (nI (q i).1) (f_X10_pulls (nI i) s12) s12) fun r15 s16 => ob (f_X5_ways N (nI (q i).1) s16) fun r18 s19 => k N r15 r18 s19) ?_) fun N => ?_
  · rw [p4]
    exact Ev.bnd k1 (Ev.bnd k2 hx)
  · rw [x_prog10 (by omega), ob_mk, p1, p2, p3, show (8 : Int32) + nI i = nI (8 + i) from nI_add 8 i, txT8 (by omega)]
theorem m_lostBy (h : AllI K n m P nt st s) (hT : TriI P nt q s) {i : Nat} (hi : i < nt) : ∃ s1, AllI K n m P nt st s1 ∧ TriI P nt q s1 ∧ wts s1 = wts s ∧ Fw allP s s1 ∧ Ev (fun N => f_X12_lostBy N (nI i) s) (lN (trW K n m P q s i - trL K n m P q s i), s1) ∧ ∀ N, f_X12_waysOf N (iG s1 224 i) s1 = f_X12_waysOf N (nI (q i).1) s1 := by
  obtain ⟨t1, t2, t3, t4⟩ := hT
  obtain ⟨u1, u2, u3, u4, u5, u6, u7, u8, u9, u10, u11⟩ := t4 i hi
  have hin : inb (nI i) 8 := (inb_n (by omega)).mpr (by omega)
  have hcl : (nI i).toNatClampNeg = i := nI_clamp (by omega)
  obtain ⟨s1, e1, e2, e3, e4, e5⟩ := odd_M (prog := nI (8 + i)) (p := (q i).2.1) (ps := P (8 + i)) (fl := (q i).2.2.1) (pc := (q i).1) h (Or.inl ⟨8 + i, by omega, rfl, (h.2.2.1.1 (8 + i) (by omega)).2⟩) u6 (by omega)
  have hT0 : TriI P nt q s := ⟨t1, t2, t3, t4⟩
  have hT1 : TriI P nt q s1 := TriI.rd.fw e5 hT0 fun o k z => by unfold triQ at z; unfold allP mG mR; omega
  have w1 := m_waysOf (R := RNP K s (q i).2.1 (P (8 + i))) (pc := (q i).1) e2.1 (by omega)
  have w2 := m_waysLeft (R := RNP K s (q i).2.1 (P (8 + i))) (pc := (q i).1) (q := 2000) (q' := pls (P (8 + i)) + (q i).2.2.1) (T := pls (P (8 + i)) + (q i).2.2.1) e2.1 (by omega) u6 (by decide) (Or.inr ⟨u6, rfl⟩) e4
  rw [e3] at w1 w2
  have h224 : iG s1 224 i = nI (q i).1 := (e5.int (by unfold allP mG mR; omega)).trans u3
  have hb := (tr_bd (K := K) (P := P) (q := q) h.1 i).2.2
  refine ⟨s1, e2, hT1, e3, e5, Ev.cg (Ev.bnd e1 (k := fun N _ s3 => ob (f_X12_waysOf N (iG s3 224 i) s3) fun r5 s6 => ob (f_X12_waysLeft N (iG s6 224 i) (2000 : Int32) s6) fun r8 s9 => some ((r5 - r8), s9)) ?_) fun N => ?_, fun N => by rw [h224]⟩
  · rw [h224]
    refine Ev.bnd w1 ?_
    rw [h224]
    refine Ev.cg (Ev.bnd w2 (k := fun _ r8 s9 => some (lN (trW K n m P q s i) - r8, s9)) (Ev.of fun N => ?_)) fun N => rfl
    show some (lN (trW K n m P q s i) - lN (trL K n m P q s i), s1) = _
    rw [lN_sub hb]
  · unfold f_X12_lostBy
    simp only [if_pos hin, hcl, u3, u5, u8]
    rw [show (8 : Int32) + nI i = nI (8 + i) from nI_add 8 i]
theorem has_tri (hT : TriI P nt q s) (a0 : Int32) : (f_X10_has a0 s = 0 ∧ ∀ t : cS, iG t 193 4 = iG s 193 4 → lIn a0.toInt64 (0 : Int64) (((iG t 193 4) - (1 : Int32)).toInt64) = 0) ∨ ∃ i, i < nt ∧ a0 = nI i ∧ f_X10_has a0 s = 1 ∧ ∀ t : cS, iG t 193 4 = iG s 193 4 → lIn a0.toInt64 (0 : Int64) (((iG t 193 4) - (1 : Int32)).toInt64) = 1 := by
  obtain ⟨t1, t2, t3, t4⟩ := hT
  unfold f_X10_has
  rw [t2, t3]
  rcases has_c a0 nt (by omega) with ⟨x1, x2, -⟩ | ⟨i, a1, a2, a3, a4⟩
  · exact Or.inl ⟨x1, fun t ht => by rw [ht]; exact x2⟩
  · exact Or.inr ⟨i, a1, a2, a3, fun t ht => by rw [ht]; exact a4⟩
theorem m_says (h : AllI K n m P nt st s) (hT : TriI P nt q s) (a0 a1 : Int32) : ∃ r s1 s2, r_X11_says a0 a1 s r s1 ∧ r_X12_says a0 a1 s1 r s2 ∧ AllI K n m P nt st s2 ∧ TriI P nt q s2 ∧ Fw odP s s2 := by
  have hnone : f_X11_says 0 a0 a1 s = some (-1, s) → f_X12_says 0 a0 a1 s = some (-1, s) → ∃ r s1 s2, r_X11_says a0 a1 s r s1 ∧ r_X12_says a0 a1 s1 r s2 ∧ AllI K n m P nt st s2 ∧ TriI P nt q s2 ∧ Fw odP s s2 := fun h1 h2 => ⟨-1, s, s, ⟨0, h1⟩, ⟨0, h2⟩, h, hT, Fw.rf⟩
  have hL1 : lIn a1.toInt64 (0 : Int64) (1 : Int64) = wB a1 0 1 := lIn_w (a' := 0) (b' := 1) rfl rfl
  rcases has_tri hT a0 with ⟨d1, d2⟩ | ⟨i, hi, rfl, d1, d2⟩
  · refine hnone ?_ ?_
    · unfold f_X11_says
      rw [if_pos d1]
    · unfold f_X12_says
      rw [if_pos (d2 s rfl)]
  · have d1' : ¬ f_X10_has (nI i) s = 0 := by rw [d1]; decide
    by_cases c1 : wB a1 0 1 = 0
    · refine hnone ?_ ?_
      · unfold f_X11_says
        rw [if_neg d1', if_pos c1]
      · unfold f_X12_says
        rw [if_neg (by rw [d2 s rfl]; decide), hL1, if_pos c1]
    · have hnt := hT.1
      obtain ⟨s1, b2, bT, b3, b5, bk⟩ := x_say h hT hi
      obtain ⟨s2, e2, eT, e3, e5, e1, e6⟩ := m_lostBy b2 bT hi
      rw [trW_cg b3 fun p ps => prp_R b5, trL_cg b3 fun p ps => prp_R b5] at e1
      have w1 := m_waysOf (R := RNP K s (q i).2.1 (P (8 + i))) (pc := (q i).1) e2.1 (by have := (hT.2.2.2 i hi).1; omega)
      rw [e3, b3] at w1
      obtain ⟨f1, f2, f3⟩ := tr_bd (K := K) (P := P) (q := q) h.1 i
      have w1' : Ev (fun N => f_X12_waysOf N (nI (q i).1) s2) (lN (trW K n m P q s i), s2) := w1
      generalize trW K n m P q s i = W at *
      generalize trL K n m P q s i = L at *
      have hg : 0 < Nat.gcd (W - L) W := Nat.gcd_pos_of_pos_right _ (by omega)
      have hg2 : Nat.gcd (W - L) W ≤ W := Nat.gcd_le_right _ (by omega)
      have hg0 : ¬ lN (Nat.gcd (W - L) W) = (0 : Int64) := fun w => by have := (lN_z (by omega)).mp w; omega
      have hs := x_short (A := W - L) (B := W) (x4 := a1) (s := s1) (by omega) (by omega) (by omega)
      have hd := m_divisor (a := W - L) (b := W) (s := s2) (by omega) (by omega)
      have hin : inb (nI i) 8 := (inb_n (by omega)).mpr (by omega)
      have hcl : (nI i).toNatClampNeg = i := nI_clamp (by omega)
      refine ⟨_, s1, s2, (Ev.cg (bk (k := fun N r15 r18 s19 => ob (f_X11_shortened N r15 r18 a1 s19) fun r21 s22 => some (r21, s22)) (Ev.bnd hs (k := fun _ r21 s22 => some (r21, s22)) (Ev.of fun N => rfl))) fun N => ?_).ex, (Ev.cg (Ev.bnd e1 (k := fun N r5 s6 => ob (f_X12_waysOf N (iG s6 224 i) s6) fun r9 s10 => ob (f_X12_divisor N r5 r9 s10) fun r12 s13 => if a1 = 0 then if r12 = 0 then none else some (r5 / r12, s13) else if r12 = 0 then none else some (r9 / r12, s13)) (Ev.cg (g := fun N => ob (f_X12_waysOf N (nI (q i).1) s2) fun r9 s10 => ob (f_X12_divisor N (lN (W - L)) r9 s10) fun r12 s13 => if a1 = 0 then if r12 = 0 then none else some (lN (W - L) / r12, s13) else if r12 = 0 then none else some (r9 / r12, s13)) (Ev.bnd w1' (Ev.bnd hd (Ev.of fun N => ?_))) fun N => by rw [e6])) fun N => ?_).ex, e2, eT, (b5.mo fun o k y => Or.inl y).tr (e5.mo fun o k y => Or.inr y)⟩
      · unfold f_X11_says
        rw [if_neg d1', if_neg c1]
      · rw [if_neg hg0, if_neg hg0, pk_lDiv (by omega) hg (by omega), pk_lDiv (by omega) hg (by omega)]
        split <;> rfl
      · unfold f_X12_says
        rw [if_neg (by rw [d2 s1 (b5.int (by unfold prpP; omega))]; decide), hL1, if_neg c1]
        simp only [if_pos hin, hcl]
/-- the cheapest -/
def bI : Option Nat → Int32
  | none => -1
  | some b => nI b
def btr (C : Nat → Nat) (o : Option Nat) (i : Nat) : Bool := match o with
  | none => true
  | some b => decide (C i < C b)
def chB (Q : Nat → Bool) (C : Nat → Nat) : Nat → Option Nat
  | 0 => none
  | i + 1 => if btr C (chB Q C i) i = true ∧ Q i = true then some i else chB Q C i
theorem chB_lt {Q : Nat → Bool} {C : Nat → Nat} : ∀ {i b : Nat}, chB Q C i = some b → b < i
  | 0, b, h => by cases h
  | i + 1, b, h => by
    unfold chB at h
    split at h
    · cases h
      omega
    · have := chB_lt h
      omega
def sayQ (K : List Cl) (n : Nat) (m : Nat → Nat) (P : Nat → List (Nat × Nat)) (q : Nat → TrQ) (s : cS) (th i : Nat) : Bool := decide (th * trW K n m P q s i ≤ (trW K n m P q s i - trL K n m P q s i) * 1000)
theorem say_cmp (hC : CorN n m s) {th i : Nat} (hth : th ≤ 1000) : (lg_cmp (lN (trW K n m P q s i - trL K n m P q s i) * (1000 : Int64)) ((nI th).toInt64 * lN (trW K n m P q s i))) < 0 ↔ ¬ sayQ K n m P q s th i = true := by
  obtain ⟨f1, f2, f3⟩ := tr_bd (K := K) (P := P) (q := q) hC i
  unfold sayQ
  rw [decide_eq_true_iff]
  generalize trW K n m P q s i = W at *
  generalize trL K n m P q s i = L at *
  have hTD : th * W ≤ 1000 * W := Nat.mul_le_mul_right _ hth
  rw [show (1000 : Int64) = lN 1000 from rfl, lN_mul, nI_l (by omega), lN_mul, lg_lt, lN_ltn (by omega) (by omega)]
  omega
theorem x_chp (hs : AllI K n m P nt st s) {th : Nat} (hth : th ≤ 1000) : ∀ (d i : Nat) (t : cS), i + d = nt → AllI K n m P nt st t → TriI P nt q t → wts t = wts s → Fw prpP s t → ∃ t', EL (fun N (v : (Int32 × Int32) × cS) => b_X11_cheapest_17 N (nI th) v.1.1 v.1.2 v.2) ((bI (chB (sayQ K n m P q s th) (fun i => (q i).2.2.2) i), nI i), t) (bI (chB (sayQ K n m P q s th) (fun i => (q i).2.2.2) nt), t') ∧ AllI K n m P nt st t' ∧ TriI P nt q t' ∧ wts t' = wts s ∧ Fw prpP s t' := by
  intro d
  induction d with
  | zero =>
    intro i t hd hA hT hw hF
    have hi : i = nt := by omega
    subst hi
    refine ⟨t, EL.en (Ev.of fun N => ?_), hA, hT, hw, hF⟩
    show b_X11_cheapest_17 N (nI th) _ (nI i) t = _
    have := hT.1
    unfold b_X11_cheapest_17 f_X10_size
    rw [hT.2.1, if_pos (nI_le (Nat.le_refl _) (by omega))]
    rfl
  | succ d ih =>
    intro i t hd hA hT hw hF
    have hnt := hT.1
    obtain ⟨u1, u2, u3, u4, u5, u6, u7, u8, u9, u10, u11⟩ := hT.2.2.2 i (by omega)
    generalize hb : chB (sayQ K n m P q s th) (fun i => (q i).2.2.2) i = B
    have hn : chB (sayQ K n m P q s th) (fun i => (q i).2.2.2) (i + 1) = if btr (fun i => (q i).2.2.2) B i = true ∧ sayQ K n m P q s th i = true then some i else B := by
      rw [← hb]
      rfl
    obtain ⟨t1, c1, c2, c3, c4, c5⟩ := x_say hA hT (show i < nt by omega)
    have hgo : btr (fun i => (q i).2.2.2) B i = true → (∀ N, b_X11_cheapest_17 N (nI th) (bI B) (nI i) t = j_X11_cheapest_52 N (nI th) (bI B) (nI i) t) → ∃ t', EL (fun N (v : (Int32 × Int32) × cS) => b_X11_cheapest_17 N (nI th) v.1.1 v.1.2 v.2) ((bI B, nI i), t) (bI (chB (sayQ K n m P q s th) (fun i => (q i).2.2.2) nt), t') ∧ AllI K n m P nt st t' ∧ TriI P nt q t' ∧ wts t' = wts s ∧ Fw prpP s t' := by
      intro hbt hB
      obtain ⟨t', k1, k2⟩ := ih (i + 1) t1 (by omega) c1 c2 (c3.trans hw) (hF.tr c4)
      refine ⟨t', EL.st (v' := ((bI (chB (sayQ K n m P q s th) (fun i => (q i).2.2.2) (i + 1)), nI (i + 1)), t1)) (Ev.cg (c5 (k := fun _ r16 r19 s20 => if (lg_cmp (r16 * (1000 : Int64)) ((nI th).toInt64 * r19)) < 0 then some (Sum.inl ((bI B, nI (i + 1)), s20)) else some (.inl ((nI i, nI (i + 1)), s20))) (Ev.of fun N => ?_)) fun N => ?_) k1, k2⟩
      · have hc := say_cmp (K := K) (P := P) (q := q) hs.1 (i := i) hth
        rw [trW_cg hw fun p ps => prp_R hF, trL_cg hw fun p ps => prp_R hF, hn]
        by_cases z : sayQ K n m P q s th i = true
        · rw [if_neg (fun w => hc.mp w z), if_pos ⟨hbt, z⟩]
          rfl
        · rw [if_pos (hc.mpr z), if_neg (fun w => z w.2)]
      · show b_X11_cheapest_17 N (nI th) (bI B) (nI i) t = _
        rw [hB]
        unfold j_X11_cheapest_52 j_X11_cheapest_141 j_X11_cheapest_153 j_X11_cheapest_154
        simp only [if_pos (show (0 : Int32) = 0 from rfl), if_neg (show ¬ (1 : Int32) = 0 by decide), nI_1, if_true]
    cases B with
    | none =>
      refine hgo rfl fun N => ?_
      unfold b_X11_cheapest_17 f_X10_size
      rw [hT.2.1, if_neg (nI_ge (by omega) (by omega)), if_pos (by rfl)]
    | some b =>
      have hbi := chB_lt hb
      obtain ⟨-, -, -, -, -, -, -, -, v9, v10, -⟩ := hT.2.2.2 b (by omega)
      have e1 : f_X10_cost (nI b) t = nI (q b).2.2.2 := by
        unfold f_X10_cost
        rw [aA_n (by omega) (by omega)]
        exact v10
      have e2 : f_X10_cost (nI i) t = nI (q i).2.2.2 := by
        unfold f_X10_cost
        rw [aA_n (by omega) (by omega)]
        exact u10
      have hB : ∀ N, b_X11_cheapest_17 N (nI th) (bI (some b)) (nI i) t = if nI (q b).2.2.2 ≤ nI (q i).2.2.2 then some (.inl ((nI b, nI (i + 1)), t)) else j_X11_cheapest_52 N (nI th) (nI b) (nI i) t := by
        intro N
        show b_X11_cheapest_17 N (nI th) (nI b) (nI i) t = _
        unfold b_X11_cheapest_17 f_X10_size j_X11_cheapest_154
        rw [hT.2.1, if_neg (nI_ge (by omega) (by omega)), if_neg (fun z => m1_ne (c := b) (by omega) z.symm), e1, e2, nI_1]
      by_cases z : (q b).2.2.2 ≤ (q i).2.2.2
      · obtain ⟨t', k1, k2⟩ := ih (i + 1) t (by omega) hA hT hw hF
        rw [hn, if_neg (fun w => by
          have w1 : (q i).2.2.2 < (q b).2.2.2 := of_decide_eq_true w.1
          omega)] at k1
        refine ⟨t', EL.st (v' := ((bI (some b), nI (i + 1)), t)) (Ev.of fun N => ?_) k1, k2⟩
        show b_X11_cheapest_17 N (nI th) (bI (some b)) (nI i) t = _
        rw [hB, if_pos (nI_le z (by omega))]
        rfl
      · refine hgo (decide_eq_true (by show (q i).2.2.2 < (q b).2.2.2; omega)) fun N => ?_
        rw [hB, if_neg (nI_ge (by omega) (by omega))]
        rfl
theorem m_chp (hs : AllI K n m P nt st s) {th : Nat} (hth : th ≤ 1000) : ∀ (d i : Nat) (t : cS), i + d = nt → AllI K n m P nt st t → TriI P nt q t → wts t = wts s → Fw allP s t → ∃ t', EL (fun N (v : (Int32 × Int32) × cS) => b_X12_cheapest_18 N (nI th) v.1.1 v.1.2 v.2) ((bI (chB (sayQ K n m P q s th) (fun i => (q i).2.2.2) i), nI i), t) (bI (chB (sayQ K n m P q s th) (fun i => (q i).2.2.2) nt), t') ∧ AllI K n m P nt st t' ∧ TriI P nt q t' ∧ Fw allP s t' := by
  intro d
  induction d with
  | zero =>
    intro i t hd hA hT hw hF
    have hi : i = nt := by omega
    subst hi
    refine ⟨t, EL.en (Ev.of fun N => ?_), hA, hT, hF⟩
    show b_X12_cheapest_18 N (nI th) _ (nI i) t = _
    have := hT.1
    unfold b_X12_cheapest_18
    rw [hT.2.2.1, if_pos (nI_le (Nat.le_refl _) (by omega))]
    rfl
  | succ d ih =>
    intro i t hd hA hT hw hF
    have hnt := hT.1
    have hin : inb (nI i) 8 := (inb_n (by omega)).mpr (by omega)
    have hcl : (nI i).toNatClampNeg = i := nI_clamp (by omega)
    obtain ⟨u1, u2, u3, u4, u5, u6, u7, u8, u9, u10, u11⟩ := hT.2.2.2 i (by omega)
    generalize hb : chB (sayQ K n m P q s th) (fun i => (q i).2.2.2) i = B
    have hn : chB (sayQ K n m P q s th) (fun i => (q i).2.2.2) (i + 1) = if btr (fun i => (q i).2.2.2) B i = true ∧ sayQ K n m P q s th i = true then some i else B := by
      rw [← hb]
      rfl
    obtain ⟨t1, c1, c2, c3, c4, c5, c6⟩ := m_lostBy hA hT (show i < nt by omega)
    have w1 := m_waysOf (R := RNP K s (q i).2.1 (P (8 + i))) (pc := (q i).1) c1.1 (by omega)
    rw [c3, hw] at w1
    have w1' : Ev (fun N => f_X12_waysOf N (nI (q i).1) t1) (lN (trW K n m P q s i), t1) := w1
    rw [trW_cg hw fun p ps => all_R hF, trL_cg hw fun p ps => all_R hF] at c5
    have hgo : btr (fun i => (q i).2.2.2) B i = true → (∀ N, b_X12_cheapest_18 N (nI th) (bI B) (nI i) t = j_X12_cheapest_46 N (nI th) (bI B) (nI i) t) → ∃ t', EL (fun N (v : (Int32 × Int32) × cS) => b_X12_cheapest_18 N (nI th) v.1.1 v.1.2 v.2) ((bI B, nI i), t) (bI (chB (sayQ K n m P q s th) (fun i => (q i).2.2.2) nt), t') ∧ AllI K n m P nt st t' ∧ TriI P nt q t' ∧ Fw allP s t' := by
      intro hbt hB
      obtain ⟨t', k1, k2⟩ := ih (i + 1) t1 (by omega) c1 c2 (c3.trans hw) (hF.tr c4)
      refine ⟨t', EL.st (v' := ((bI (chB (sayQ K n m P q s th) (fun i => (q i).2.2.2) (i + 1)), nI (i + 1)), t1)) (Ev.cg (Ev.bnd c5 (k := fun N r5 s6 => ob (f_X12_waysOf N (iG s6 224 i) s6) fun r9 s10 => if (lg_cmp (r5 * (1000 : Int64)) ((nI th).toInt64 * r9)) < 0 then some (Sum.inl ((bI B, nI (i + 1)), s10)) else some (.inl ((nI i, nI (i + 1)), s10))) (Ev.cg (g := fun N => ob (f_X12_waysOf N (nI (q i).1) t1) fun r9 s10 => if (lg_cmp (lN (trW K n m P q s i - trL K n m P q s i) * (1000 : Int64)) ((nI th).toInt64 * r9)) < 0 then some (Sum.inl ((bI B, nI (i + 1)), s10)) else some (.inl ((nI i, nI (i + 1)), s10))) (Ev.bnd w1' (Ev.of fun N => ?_)) fun N => by rw [c6])) fun N => ?_) k1, k2⟩
      · have hc := say_cmp (K := K) (P := P) (q := q) hs.1 (i := i) hth
        rw [hn]
        by_cases z : sayQ K n m P q s th i = true
        · rw [if_neg (fun w => hc.mp w z), if_pos ⟨hbt, z⟩]
          rfl
        · rw [if_pos (hc.mpr z), if_neg (fun w => z w.2)]
      · show b_X12_cheapest_18 N (nI th) (bI B) (nI i) t = _
        rw [hB]
        unfold j_X12_cheapest_46 j_X12_cheapest_74
        simp only [if_pos hin, hcl, nI_1]
    cases B with
    | none =>
      refine hgo rfl fun N => ?_
      unfold b_X12_cheapest_18
      rw [hT.2.2.1, if_neg (nI_ge (by omega) (by omega)), if_pos (by rfl)]
    | some b =>
      have hbi := chB_lt hb
      have hin2 : inb (nI b) 8 := (inb_n (by omega)).mpr (by omega)
      have hcl2 : (nI b).toNatClampNeg = b := nI_clamp (by omega)
      obtain ⟨-, -, -, -, -, -, -, -, v9, -, v11⟩ := hT.2.2.2 b (by omega)
      have hB : ∀ N, b_X12_cheapest_18 N (nI th) (bI (some b)) (nI i) t = if nI (q b).2.2.2 ≤ nI (q i).2.2.2 then some (.inl ((nI b, nI (i + 1)), t)) else j_X12_cheapest_46 N (nI th) (nI b) (nI i) t := by
        intro N
        show b_X12_cheapest_18 N (nI th) (nI b) (nI i) t = _
        unfold b_X12_cheapest_18 j_X12_cheapest_74
        rw [hT.2.2.1, if_neg (nI_ge (by omega) (by omega)), if_neg (fun z => m1_ne (c := b) (by omega) z.symm)]
        simp only [if_pos hin, if_pos hin2, hcl, hcl2, u11, v11, nI_1]
      by_cases z : (q b).2.2.2 ≤ (q i).2.2.2
      · obtain ⟨t', k1, k2⟩ := ih (i + 1) t (by omega) hA hT hw hF
        rw [hn, if_neg (fun w => by
          have w1 : (q i).2.2.2 < (q b).2.2.2 := of_decide_eq_true w.1
          omega)] at k1
        refine ⟨t', EL.st (v' := ((bI (some b), nI (i + 1)), t)) (Ev.of fun N => ?_) k1, k2⟩
        show b_X12_cheapest_18 N (nI th) (bI (some b)) (nI i) t = _
        rw [hB, if_pos (nI_le z (by omega))]
        rfl
      · refine hgo (decide_eq_true (by show (q i).2.2.2 < (q b).2.2.2; omega)) fun N => ?_
        rw [hB, if_neg (nI_ge (by omega) (by omega))]
        rfl
theorem m_cheapest (h : AllI K n m P nt st s) (hT : TriI P nt q s) (a0 : Int32) : ∃ r s1 s2, r_X11_cheapest a0 s r s1 ∧ r_X12_cheapest a0 s1 r s2 ∧ AllI K n m P nt st s2 ∧ TriI P nt q s2 ∧ Fw odP s s2 := by
  have hL1 : lIn a0.toInt64 (1 : Int64) (1000 : Int64) = wB a0 1 1000 := lIn_w (a' := 1) (b' := 1000) rfl rfl
  by_cases c0 : wB a0 1 1000 = 0
  · refine ⟨-1, s, s, ⟨0, ?_⟩, ⟨0, ?_⟩, h, hT, Fw.rf⟩
    · unfold f_X11_cheapest
      rw [if_pos c0]
    · unfold f_X12_cheapest
      rw [hL1, if_pos c0]
  · obtain ⟨th, ht1, ht2, rfl⟩ := wB_out (m := 1) (n := 1000) (by decide) (by decide) c0
    obtain ⟨s1, k1, k2, k3, k4, k5⟩ := x_chp (q := q) h ht2 nt 0 s (by omega) h hT rfl Fw.rf
    obtain ⟨s2, l1, l2, l3, l5⟩ := m_chp (q := q) k2 ht2 nt 0 s1 (by omega) k2 k3 rfl Fw.rf
    have e : sayQ K n m P q s1 th = sayQ K n m P q s th := by
      funext i
      unfold sayQ
      rw [trW_cg k4 fun p ps => prp_R k5, trL_cg k4 fun p ps => prp_R k5]
    rw [e] at l1
    refine ⟨_, s1, s2, (Ev.cg k1.ev fun N => ?_).ex, (Ev.cg l1.ev fun N => ?_).ex, l2, l3, (k5.mo fun o k y => Or.inl y).tr (l5.mo fun o k y => Or.inr y)⟩
    · unfold f_X11_cheapest
      rw [if_neg c0]
      rfl
    · unfold f_X12_cheapest
      rw [hL1, if_neg c0]
      rfl
end
