/-! what the class knows of runs: prepare -/
def txT (tx : Nat) : Nat := if tx = 16 then 29 else prT tx
def txP (P : Nat → List (Nat × Nat)) (tx : Nat) : List (Nat × Nat) := if tx = 16 then [] else P tx
theorem kd_tx : ∀ tx, tx < 17 → kd (txT tx) 6 := by decide +kernel
theorem txT_ne : ∀ tx, tx < 17 → txT tx ≠ 116 ∧ txT tx ≠ 115 ∧ txT tx ≠ 117 := by decide +kernel
theorem PrgI.tx {P : Nat → List (Nat × Nat)} {s : cS} (h : PrgI P s) {tx : Nat} (ht : tx < 17) : PrX (txT tx) (txP P tx) s := by
  unfold txT txP
  by_cases z : tx = 16
  · rw [if_pos z, if_pos z]
    exact h.2
  · rw [if_neg z, if_neg z]
    exact (h.1 tx (by omega)).1
def RNP (K : List Cl) (s : cS) (p : Int32) (ps : List (Nat × Nat)) (c i : Nat) : Nat → Bool := RunP (traj K (ceX s c) (iG s 9 (4 * c + i)) (rowOf p ps)) (iG s 7 c)
theorem RNP_cg {K : List Cl} {s t : cS} {p : Int32} {ps : List (Nat × Nat)} (h : ∀ o k, 4 ≤ o → o ≤ 10 → iG t o k = iG s o k) : RNP K t p ps = RNP K s p ps := by
  funext c i
  unfold RNP ceX
  rw [h 4 c (by decide) (by decide), h 5 c (by decide) (by decide), h 6 c (by decide) (by decide), h 7 c (by decide) (by decide), h 9 _ (by decide) (by decide)]
def MmO (K : List Cl) (m : Nat → Nat) (P : Nat → List (Nat × Nat)) (nt : Nat) (s : cS) (c : Nat) (t : cS) : Prop := iG t 119 c = iG s 3 8 → ∃ tx p tot, (tx < 8 + nt ∨ tx = 16) ∧ tot ≤ 2000 ∧ iG t 120 c = nI tx ∧ iG t 121 c = p ∧ iG t 122 c = nI tot ∧ ∀ i, i < m c → iG t 118 (4 * c + i) = nI (fst1 (RNP K s p (txP P tx) c i) tot)
theorem MmO.fw {K : List Cl} {m : Nat → Nat} {P : Nat → List (Nat × Nat)} {nt c : Nat} {s t u : cS} (hm : m c ≤ 4) (h : MmO K m P nt s c t) (h1 : ∀ o, 119 ≤ o → o ≤ 122 → iG u o c = iG t o c) (h2 : ∀ k, 4 * c ≤ k → k < 4 * c + 4 → iG u 118 k = iG t 118 k) : MmO K m P nt s c u := by
  intro z
  rw [h1 119 (by decide) (by decide)] at z
  obtain ⟨tx, p, tot, a1, a2, a3, a4, a5, a6⟩ := h z
  refine ⟨tx, p, tot, a1, a2, by rw [h1 120 (by decide) (by decide)]; exact a3, by rw [h1 121 (by decide) (by decide)]; exact a4, by rw [h1 122 (by decide) (by decide)]; exact a5, fun i hi => ?_⟩
  rw [h2 _ (by omega) (by omega)]
  exact a6 i hi
/-- a corner's runs are known as far as that -/
def KnO (m : Nat → Nat) (R : Nat → Nat → Nat → Bool) (tot c : Nat) (t : cS) : Prop := ∃ tt, tot ≤ tt ∧ tt ≤ 2000 ∧ ∀ i, i < m c → iG t 118 (4 * c + i) = nI (fst1 (R c i) tt)
theorem KnO.fw {m : Nat → Nat} {R : Nat → Nat → Nat → Bool} {tot c : Nat} {t u : cS} (hm : m c ≤ 4) (h : KnO m R tot c t) (h2 : ∀ k, 4 * c ≤ k → k < 4 * c + 4 → iG u 118 k = iG t 118 k) : KnO m R tot c u := by
  obtain ⟨tt, a1, a2, a3⟩ := h
  refine ⟨tt, a1, a2, fun i hi => ?_⟩
  rw [h2 _ (by omega) (by omega)]
  exact a3 i hi
def prpP (o k : Nat) : Prop := o = 117 ∨ (o = 123 ∧ 1 ≤ k ∧ k ≤ 15) ∨ o = 17 ∨ o = 18 ∨ o = 25 ∨ o = 26 ∨ ((o = 11 ∨ o = 19) ∧ 10 ≤ k ∧ k ≤ 12) ∨ (118 ≤ o ∧ o ≤ 122)
def piP (L c o k : Nat) : Prop := xV L o k ∨ (o = 118 ∧ 4 * c ≤ k ∧ k < 4 * c + 4) ∨ (119 ≤ o ∧ o ≤ 122 ∧ k = c)
theorem piP_prp {L c o k : Nat} (hL : L = 11 ∨ L = 19) (h : piP L c o k) : prpP o k := by
  unfold piP xV xU at h
  unfold prpP
  rcases hL with rfl | rfl <;> omega
theorem x_isIn {pc c : Nat} {s : cS} (hp : pc < 2 ^ 31) (hc : c < 8) : f_X5_isIn (nI pc) (nI c) s = if bit pc c then 1 else 0 := by
  have hs : ∀ c, c < 8 → ((nI c &&& 31).toBitVec.smod 32).toNat = c := by decide +kernel
  have hle := Nat.div_le_self pc (2 ^ c)
  unfold f_X5_isIn
  rw [pk_shrN hp _ c (hs c hc), pk_andN (by omega) 1 (by decide)]
  have e : nI (pc / 2 ^ c % 2 ^ 1) = (1 : Int32) ↔ bit pc c := nI_eq (b := 1) (by omega) (by decide)
  by_cases z : bit pc c
  · rw [if_pos z, if_pos (e.mpr z)]
  · rw [if_neg z, if_neg (fun w => z (e.mp w))]
theorem m_isIn {pc c : Nat} {s : cS} (hp : pc < 2 ^ 31) (hc : c < 8) : f_X12_has (nI pc) (nI c) s = if bit pc c then 1 else 0 := x_isIn (s := s) hp hc
theorem ix4 (c i : Nat) : nI c * (4 : Int32) + nI i = nI (4 * c + i) := by
  show nI c * nI 4 + nI i = _
  rw [pk_mul, nI_add, Nat.mul_comm c 4]
theorem ix4' (c i : Nat) : (4 : Int32) * nI c + nI i = nI (4 * c + i) := by
  show nI 4 * nI c + nI i = _
  rw [pk_mul, nI_add]
/-- what stands while runs are reckoned -/
theorem prp_L {K : List Cl} {L : Nat} {s t : cS} (hL : L = 11 ∨ L = 19) (hX : LwX K L s) (hF : Fw prpP s t) : LwX K L t := hX.fw hF fun o k z => by
  unfold lwQ at z
  unfold prpP
  rcases hL with rfl | rfl <;> omega
theorem prp_C {n : Nat} {m : Nat → Nat} {s t : cS} (hC : CorN n m s) (hF : Fw prpP s t) : CorN n m t := hC.fw hF fun o k z => by unfold corQ at z; unfold prpP; omega
theorem prp_P {P : Nat → List (Nat × Nat)} {s t : cS} (hP : PrgI P s) (hF : Fw prpP s t) : PrgI P t := PrgI.rd.fw hF hP fun o k z => by unfold prgQ at z; unfold prpP; omega
theorem prp_R {K : List Cl} {s t : cS} {p : Int32} {ps : List (Nat × Nat)} (hF : Fw prpP s t) : RNP K t p ps = RNP K s p ps := RNP_cg fun o k a b => hF.int (by unfold prpP; omega)
theorem x_prep_in {K : List Cl} {L n tx tot T : Nat} {m : Nat → Nat} {ps : List (Nat × Nat)} {s : cS} {x1 p x6 : Int32} {c : Nat} (hL : L = 11 ∨ L = 19) (h1 : s.1.1 = L) (hX : LwX K L s) (hC : CorN n m s) (hc : c < n) (ht : tot ≤ 2000) : ∀ (d i : Nat) (t : cS), i + d = m c → Fw prpP s t → (∀ j, j < tot → iG t 117 j = rowOf p ps j) → (∀ i', i' < i → iG t 118 (4 * c + i') = nI (fst1 (RNP K s p ps c i') tot)) → ∃ t', EL (fun N (v : Int32 × cS) => b_X5_prepare_69 N x1 (nI tx) T p (nI tot) x6 (nI c) v.1 v.2) (nI i, t) (.inl ((x6, nI (c + 1)), t')) ∧ (∀ i', i' < m c → iG t' 118 (4 * c + i') = nI (fst1 (RNP K s p ps c i') tot)) ∧ iG t' 119 c = iG s 3 8 ∧ iG t' 120 c = nI tx ∧ iG t' 121 c = p ∧ iG t' 122 c = nI tot ∧ Fw (piP L c) t t' := by
  have hn8 := hC.1
  have hm4 := (hC.2.2.2.1 c (by omega)).2.2.2.2.2.2
  intro d
  induction d with
  | zero =>
    intro i t hd hF _ h2
    have hi : i = m c := by omega
    have hCt := prp_C hC hF
    have h8 := (hCt.2.2.2.1 c (by omega)).2.2.2.2.1
    have h38 : iG t 3 8 = iG s 3 8 := hF.int (by unfold prpP; omega)
    refine ⟨iS (iS (iS (iS t 119 c (iG s 3 8)) 120 c (nI tx)) 121 c p) 122 c (nI tot), EL.en (Ev.of fun N => ?_), fun i' hi' => ?_, ?_, ?_, ?_, by rw [iG_eq], (((Fw.rf.st ?_).st ?_).st ?_).st ?_⟩
    · show b_X5_prepare_69 N x1 (nI tx) T p (nI tot) x6 (nI c) (nI i) t = _
      unfold b_X5_prepare_69 f_X1_livesOf f_X1_stamp j_X5_prepare_168
      rw [aA_n (by omega) (by omega), h8, if_pos (nI_le (by omega) (by omega)), h38, pA_n (by omega) (by omega), sb_mk, pA_n (by omega) (by omega), sb_mk, pA_n (by omega) (by omega), sb_mk, pA_n (by omega) (by omega), sb_mk, nI_1]
      rfl
    · rw [iG_ne (by decide), iG_ne (by decide), iG_ne (by decide), iG_ne (by decide)]
      exact h2 i' (by omega)
    · rw [iG_ne (by decide), iG_ne (by decide), iG_ne (by decide), iG_eq]
    · rw [iG_ne (by decide), iG_ne (by decide), iG_eq]
    · rw [iG_ne (by decide), iG_eq]
    all_goals (unfold piP; omega)
  | succ d ih =>
    intro i t hd hF hrow h2
    have hCt := prp_C hC hF
    have h8 := (hCt.2.2.2.1 c (by omega)).2.2.2.2.1
    have hρ := hCt.2.2.2.2.2.1 c hc
    obtain ⟨u1, u2, u3, -⟩ := hCt.2.2.2.2.2.2 c i (by omega) (by omega)
    have hlf0 : iG t 9 (4 * c + i) ≠ 0 := by
      intro z
      rw [z] at u2
      exact absurd u2 (by decide)
    obtain ⟨t1, f1, f2, f3, f4⟩ := x_follow (K := K) (c := c) (total := tot) (life := iG t 9 (4 * c + i)) (ρ := iG t 7 c) (row := rowOf p ps) (s := t) (i := nI i) hL (by omega) hρ hlf0 (life_of hCt hc (by omega)) ht (by rw [hF.1]; exact h1) (prp_L hL hX hF) rfl hrow
    have hR : iG t1 123 8 = nI (fst1 (RNP K s p ps c i) tot) := by
      rw [← prp_R hF]
      exact f3
    generalize ht2 : iS t1 118 (4 * c + i) (nI (fst1 (RNP K s p ps c i) tot)) = t2
    have hF12 : Fw (piP L c) t t2 := by
      rw [← ht2]
      exact (f4.mo fun o k z => Or.inl z).st (Or.inr (Or.inl ⟨rfl, by omega, by omega⟩))
    have hxv : ∀ o k, 117 ≤ o → o ≤ 122 → ¬ xV L o k := by
      intro o k a b z
      unfold xV xU at z
      rcases hL with rfl | rfl <;> omega
    obtain ⟨t', k1, k2, k3, k4, k5, k6, k7⟩ := ih (i + 1) t2 (by omega) (hF.tr (hF12.mo fun o k z => piP_prp hL z)) (fun j hj => by
      rw [← ht2, iG_ne (by decide), f4.int (hxv 117 j (by decide) (by decide))]
      exact hrow j hj) (fun i' hi' => by
      by_cases z : i' = i
      · subst z
        rw [← ht2, iG_eq]
      · rw [← ht2, iG_nk (by omega), f4.int (hxv 118 _ (by decide) (by decide))]
        exact h2 i' (by omega))
    refine ⟨t', EL.st (v' := (nI (i + 1), t2)) (Ev.cg (Ev.bnd f1 (k := fun _ _ s26 => sb (pA s26 118 32 ((nI c * (4 : Int32)) + nI i) (f_X8_ranBy 123 s26)) fun s30 => some (.inl (nI (i + 1), s30))) (Ev.of fun N => ?_)) fun N => ?_) k1, k2, k3, k4, k5, k6, hF12.tr k7⟩
    · unfold f_X8_ranBy
      rw [hR, ix4, pA_n (by omega) (by omega), sb_mk, ht2]
    · show b_X5_prepare_69 N x1 (nI tx) T p (nI tot) x6 (nI c) (nI i) t = _
      unfold b_X5_prepare_69 f_X1_livesOf
      rw [aA_n (by omega) (by omega), h8, if_neg (nI_ge (by omega) (by omega)), nI_1]
theorem x_prep_lp {K : List Cl} {L n tx tot pc nt st : Nat} {m : Nat → Nat} {P : Nat → List (Nat × Nat)} {s : cS} {p : Int32} (hL : L = 11 ∨ L = 19) (h1 : s.1.1 = L) (hX : LwX K L s) (hC : CorN n m s) (hP : PrgI P s) (ht : tot ≤ 2000) (hpc : pc < 2 ^ 31) (hnt : nt ≤ 8) (htx : tx < 8 + nt ∨ tx = 16) (hst : iG s 3 8 = nI st) : ∀ (d c : Nat) (lx : Int32) (t : cS), c + d = n → Fw prpP s t → (∀ c', c' < 8 → ∃ a, a ≤ st ∧ iG t 119 c' = nI a) → (∀ c', c' < n → MmO K m P nt s c' t) → (∀ c', c' < c → bit pc c' → KnO m (RNP K s p (txP P tx)) tot c' t) → (lx = 0 ∨ (lx = 1 ∧ ∀ j, j < tot → iG t 117 j = rowOf p (txP P tx) j)) → ∃ t', EL (fun N (v : (Int32 × Int32) × cS) => b_X5_prepare_11 N (nI pc) (nI tx) (txT tx) p (nI tot) v.1.1 v.1.2 v.2) ((lx, nI c), t) ((), t') ∧ Fw prpP s t' ∧ (∀ c', c' < 8 → ∃ a, a ≤ st ∧ iG t' 119 c' = nI a) ∧ (∀ c', c' < n → MmO K m P nt s c' t') ∧ (∀ c', c' < n → bit pc c' → KnO m (RNP K s p (txP P tx)) tot c' t') := by
  have hn8 := hC.1
  have hm4 : ∀ c, c < 8 → m c ≤ 4 := fun c hc => (hC.2.2.2.1 c hc).2.2.2.2.2.2
  intro d
  induction d with
  | zero =>
    intro c lx t hd hF h2 h3 h4 _
    have hcn : c = n := by omega
    subst hcn
    have h37 : iG t 3 7 = nI c := (prp_C hC hF).2.1
    refine ⟨t, EL.en (Ev.of fun N => ?_), hF, h2, h3, h4⟩
    show b_X5_prepare_11 N (nI pc) (nI tx) (txT tx) p (nI tot) lx (nI c) t = _
    unfold b_X5_prepare_11 f_X1_size
    rw [h37, if_pos (nI_le (Nat.le_refl _) (by omega))]
    rfl
  | succ d ih =>
    intro c lx t hd hF h2 h3 h4 h5
    have h37 : iG t 3 7 = nI n := (prp_C hC hF).2.1
    have h38 : iG t 3 8 = iG s 3 8 := hF.int (by unfold prpP; omega)
    have hin := x_isIn (s := t) hpc (show c < 8 by omega)
    -- one that is passed over
    have hskip : (bit pc c → KnO m (RNP K s p (txP P tx)) tot c t) → (∀ N, b_X5_prepare_11 N (nI pc) (nI tx) (txT tx) p (nI tot) lx (nI c) t = some (.inl ((lx, nI (c + 1)), t))) → ∃ t', EL (fun N (v : (Int32 × Int32) × cS) => b_X5_prepare_11 N (nI pc) (nI tx) (txT tx) p (nI tot) v.1.1 v.1.2 v.2) ((lx, nI c), t) ((), t') ∧ Fw prpP s t' ∧ (∀ c', c' < 8 → ∃ a, a ≤ st ∧ iG t' 119 c' = nI a) ∧ (∀ c', c' < n → MmO K m P nt s c' t') ∧ (∀ c', c' < n → bit pc c' → KnO m (RNP K s p (txP P tx)) tot c' t') := by
      intro hk hb
      obtain ⟨t', k1, k2⟩ := ih (c + 1) lx t (by omega) hF h2 h3 (fun c' a b => by
        by_cases z : c' = c
        · subst z; exact hk b
        · exact h4 c' (by omega) b) h5
      exact ⟨t', EL.st (v' := ((lx, nI (c + 1)), t)) (Ev.of fun N => hb N) k1, k2⟩
    by_cases hb : bit pc c
    · rw [if_pos hb] at hin
      by_cases hk : f_X5_isKnown (nI c) (nI tx) p (nI tot) t = 0
      · -- it is reckoned anew
        have hgo : ∀ (t0 : cS), Fw prpP t t0 → (∀ o k, 118 ≤ o → o ≤ 122 → iG t0 o k = iG t o k) → (∀ j, j < tot → iG t0 117 j = rowOf p (txP P tx) j) → (∀ {q}, EL (fun N (v : Int32 × cS) => b_X5_prepare_69 N (nI pc) (nI tx) (txT tx) p (nI tot) 1 (nI c) v.1 v.2) (nI 0, t0) q → Ev (fun N => b_X5_prepare_11 N (nI pc) (nI tx) (txT tx) p (nI tot) lx (nI c) t) q) → ∃ t', EL (fun N (v : (Int32 × Int32) × cS) => b_X5_prepare_11 N (nI pc) (nI tx) (txT tx) p (nI tot) v.1.1 v.1.2 v.2) ((lx, nI c), t) ((), t') ∧ Fw prpP s t' ∧ (∀ c', c' < 8 → ∃ a, a ≤ st ∧ iG t' 119 c' = nI a) ∧ (∀ c', c' < n → MmO K m P nt s c' t') ∧ (∀ c', c' < n → bit pc c' → KnO m (RNP K s p (txP P tx)) tot c' t') := by
          intro t0 hF0 e0 hrow hev
          obtain ⟨t1, a1, a2, a3, a4, a5, a6, a7⟩ := x_prep_in (K := K) (tx := tx) (T := txT tx) (m := m) (ps := txP P tx) (x1 := nI pc) (x6 := 1) hL h1 hX hC (show c < n by omega) ht (m c) 0 t0 (by omega) (hF.tr hF0) hrow (fun i' hi' => by omega)
          have hF1 : Fw prpP s t1 := (hF.tr hF0).tr (a7.mo fun o k z => piP_prp hL z)
          have hxv : ∀ o k, 117 ≤ o → o ≤ 122 → ¬ xV L o k := by
            intro o k a b z
            unfold xV xU at z
            rcases hL with rfl | rfl <;> omega
          have g1 : ∀ c', c' ≠ c → ∀ o, 119 ≤ o → o ≤ 122 → iG t1 o c' = iG t o c' := by
            intro c' hne o x1 x2
            rw [a7.int (fun z => by
              unfold piP at z
              rcases z with z | z | z
              · exact hxv o c' (by omega) (by omega) z
              · omega
              · omega), e0 o c' (by omega) (by omega)]
          have g2 : ∀ c', c' ≠ c → ∀ k, 4 * c' ≤ k → k < 4 * c' + 4 → iG t1 118 k = iG t 118 k := by
            intro c' hne k x1 x2
            rw [a7.int (fun z => by
              unfold piP at z
              rcases z with z | z | z
              · exact hxv 118 k (by omega) (by omega) z
              · omega
              · omega), e0 118 k (by omega) (by omega)]
          obtain ⟨t', k1, k2⟩ := ih (c + 1) 1 t1 (by omega) hF1 (fun c' hc' => by
            by_cases z : c' = c
            · subst z
              exact ⟨st, Nat.le_refl _, a3.trans hst⟩
            · rw [g1 c' z 119 (by decide) (by decide)]
              exact h2 c' hc') (fun c' hc' => by
            by_cases z : c' = c
            · subst z
              exact fun _ => ⟨tx, p, tot, htx, ht, a4, a5, a6, a2⟩
            · exact (h3 c' hc').fw (hm4 c' (by omega)) (g1 c' z) (g2 c' z)) (fun c' x1 x2 => by
            by_cases z : c' = c
            · subst z
              exact ⟨tot, Nat.le_refl _, ht, a2⟩
            · exact (h4 c' (by omega) x2).fw (hm4 c' (by omega)) (g2 c' z)) (Or.inr ⟨rfl, fun j hj => by
            rw [a7.int (fun z => by
              unfold piP at z
              rcases z with z | z | z
              · exact hxv 117 j (by omega) (by omega) z
              · omega
              · omega)]
            exact hrow j hj⟩)
          exact ⟨t', EL.st (v' := ((1, nI (c + 1)), t1)) (hev a1) k1, k2⟩
        have hB : ∀ N, b_X5_prepare_11 N (nI pc) (nI tx) (txT tx) p (nI tot) lx (nI c) t = if lx = 0 then ob (f_X6_layOut N (txT tx) p (nI tot) t) fun r33 s34 => j_X5_prepare_66 N (nI pc) (nI tx) (txT tx) p (nI tot) (1 : Int32) (nI c) s34 else j_X5_prepare_66 N (nI pc) (nI tx) (txT tx) p (nI tot) lx (nI c) t := by
          intro N
          unfold b_X5_prepare_11 f_X1_size
          rw [h37, if_neg (nI_ge (by omega) (by omega)), hin, if_neg (by decide), if_pos hk, if_pos (kd_tx tx (by omega))]
        rcases h5 with rfl | ⟨rfl, hrow⟩
        · obtain ⟨t0, b1, b2, b3⟩ := x_layOut (T := txT tx) (p := p) (total := tot) (s := t) (txT_ne tx (by omega)) ht ((prp_P hP hF).tx (tx := tx) (by omega))
          refine hgo t0 (b3.mo fun o k z => Or.inl z) (fun o k x1 x2 => b3.int (by unfold x117; omega)) (fun j hj => b2 j (Or.inr hj)) (fun {q} hq => ?_)
          refine Ev.cg (Ev.bnd b1 (k := fun N _ s34 => j_X5_prepare_66 N (nI pc) (nI tx) (txT tx) p (nI tot) (1 : Int32) (nI c) s34) (Ev.cg hq.ev fun N => rfl)) fun N => ?_
          rw [hB, if_pos rfl]
        · refine hgo t Fw.rf (fun _ _ _ _ => rfl) hrow (fun {q} hq => ?_)
          refine Ev.cg hq.ev fun N => ?_
          rw [hB, if_neg (by decide)]
          rfl
      · -- it is known
        have hkn : KnO m (RNP K s p (txP P tx)) tot c t := by
          unfold f_X5_isKnown f_X1_stamp at hk
          rw [aA_n (by omega) (by omega), aA_n (by omega) (by omega), aA_n (by omega) (by omega), aA_n (by omega) (by omega), h38] at hk
          by_cases y1 : iG t 119 c = iG s 3 8
          · obtain ⟨tx', p', tot', b1, b2, b3, b4, b5, b6⟩ := h3 c (by omega) y1
            rw [if_pos y1] at hk
            by_cases y2 : iG t 120 c = nI tx
            · rw [if_pos y2] at hk
              by_cases y3 : iG t 121 c = p
              · rw [if_pos y3] at hk
                by_cases y4 : iG t 122 c < nI tot
                · rw [if_pos y4] at hk
                  exact absurd rfl hk
                · have e1 : tx' = tx := (nI_eq (by omega) (by omega)).mp (b3.symm.trans y2)
                  have e2 : p' = p := b4.symm.trans y3
                  rw [b5] at y4
                  have e3 : tot ≤ tot' := Nat.not_lt.mp fun w => y4 (nI_lt w (by omega))
                  subst e1 e2
                  exact ⟨tot', e3, b2, b6⟩
              · rw [if_neg y3] at hk
                exact absurd rfl hk
            · rw [if_neg y2] at hk
              exact absurd rfl hk
          · rw [if_neg y1] at hk
            exact absurd rfl hk
        refine hskip (fun _ => hkn) fun N => ?_
        unfold b_X5_prepare_11 f_X1_size j_X5_prepare_168
        rw [h37, if_neg (nI_ge (by omega) (by omega)), hin, if_neg (by decide), if_neg hk, nI_1]
    · rw [if_neg hb] at hin
      refine hskip (fun w => absurd w hb) fun N => ?_
      unfold b_X5_prepare_11 f_X1_size j_X5_prepare_168
      rw [h37, if_neg (nI_ge (by omega) (by omega)), hin, if_pos rfl, nI_1]
/-- what the class remembers holds -/
def OddI (K : List Cl) (n : Nat) (m : Nat → Nat) (P : Nat → List (Nat × Nat)) (nt st : Nat) (s : cS) : Prop := iG s 3 8 = nI st ∧ st < 1000 ∧ nt ≤ 8 ∧ (∀ c, c < 8 → ∃ a, a ≤ st ∧ iG s 119 c = nI a) ∧ ∀ c, c < n → MmO K m P nt s c s
theorem x_prepare {K : List Cl} {n tx tot pc nt st : Nat} {m : Nat → Nat} {P : Nat → List (Nat × Nat)} {s : cS} {p : Int32} (hC : CorN n m s) (hL : LawK K s) (hP : PrgI P s) (hO : OddI K n m P nt st s) (ht : tot ≤ 2000) (hpc : pc < 2 ^ 31) (htx : tx < 8 + nt ∨ tx = 16) : ∃ s', Ev (fun N => f_X5_prepare N (nI pc) (nI tx) (some (txT tx)) p (nI tot) s) ((), s') ∧ OddI K n m P nt st s' ∧ (∀ c, c < n → bit pc c → KnO m (RNP K s p (txP P tx)) tot c s') ∧ Fw prpP s s' := by
  obtain ⟨L, hL', hs1, hX, -, -⟩ := hL.L
  obtain ⟨o1, o2, o3, o4, o5⟩ := hO
  obtain ⟨s', k1, k2, k3, k4, k5⟩ := x_prep_lp (p := p) hL' hs1 hX hC hP ht hpc o3 htx o1 n 0 0 s (by omega) Fw.rf o4 o5 (fun c' a => by omega) (Or.inl rfl)
  refine ⟨s', Ev.cg k1.ev fun N => rfl, ⟨(k2.int (by unfold prpP; omega)).trans o1, o2, o3, k3, fun c hc => ?_⟩, k5, k2⟩
  have h := k4 c hc
  have e38 : iG s' 3 8 = iG s 3 8 := k2.int (by unfold prpP; omega)
  unfold MmO at h ⊢
  rw [e38]
  intro z
  obtain ⟨tx', p', tot', b1, b2, b3, b4, b5, b6⟩ := h z
  refine ⟨tx', p', tot', b1, b2, b3, b4, b5, fun i hi => ?_⟩
  rw [prp_R k2]
  exact b6 i hi
