/-! the class's weights -/
def wts (s : cS) (c i : Nat) : Nat := (iG s 10 (4 * c + i)).toNatClampNeg
theorem CorN.wt {n : Nat} {m : Nat → Nat} {s : cS} (h : CorN n m s) {c i : Nat} (hc : c < 8) (hi : i < m c) : iG s 10 (4 * c + i) = nI (wts s c i) ∧ iG s 201 (4 * c + i) = nI (wts s c i) ∧ 1 ≤ wts s c i ∧ wts s c i ≤ 5 := by
  obtain ⟨-, -, -, w, w1, w2, w3, w4⟩ := h.2.2.2.2.2.2 c i hc hi
  have e : wts s c i = w := by
    unfold wts
    rw [w3, nI_clamp (by omega)]
  rw [e]
  exact ⟨w3, w4, w1, w2⟩
theorem CorN.m4 {n : Nat} {m : Nat → Nat} {s : cS} (h : CorN n m s) {c : Nat} (hc : c < 8) : m c ≤ 4 := (h.2.2.2.1 c hc).2.2.2.2.2.2
theorem wts_cg {s t : cS} (h : ∀ k, iG t 10 k = iG s 10 k) : wts t = wts s := by
  funext c i
  unfold wts
  rw [h]
theorem KnO.le {m : Nat → Nat} {R : Nat → Nat → Nat → Bool} {tot q c : Nat} {t : cS} (h : KnO m R tot c t) (hq : q ≤ tot) : KnO m R q c t := by
  obtain ⟨tt, a, b, d⟩ := h
  exact ⟨tt, by omega, b, d⟩
def wsum (w : Nat → Nat) (R : Nat → Nat → Bool) (q i : Nat) : Nat := sumN (fun i => if fst1 (R i) q = 0 then w i else 0) i
theorem wpF_0 {mc : Nat} {w : Nat → Nat} {R : Nat → Nat → Bool} {q : Nat} (h : mc = 0) : wpF mc w R q = 1 := by
  unfold wpF
  rw [if_pos h]
theorem wpF_s {mc : Nat} {w : Nat → Nat} {R : Nat → Nat → Bool} {q : Nat} (h : mc ≠ 0) : wpF mc w R q = wsum w R q mc := by
  unfold wpF
  rw [if_neg h]
  rfl
theorem wsum_s {w : Nat → Nat} {R : Nat → Nat → Bool} {q i : Nat} : wsum w R q (i + 1) = wsum w R q i + (if fst1 (R i) q = 0 then w i else 0) := rfl
section
variable {n : Nat} {m : Nat → Nat} {R : Nat → Nat → Nat → Bool} {s : cS}
theorem x_wp_lp (hC : CorN n m s) {c q : Nat} (hc : c < 8) (hq : q < 2 ^ 31) (hk : q = 0 ∨ KnO m R q c s) : ∀ (d i a : Nat), i + d = m c → EL (fun _ (v : (Int64 × Int32) × cS) => b_X5_weightPast_23 (nI c) (nI q) (nI (m c)) v.1.1 v.1.2 v.2) ((lN (a + wsum (wts s c) (R c) q i), nI i), s) (lN (a + wsum (wts s c) (R c) q (m c)), s) := by
  have hm4 := hC.m4 hc
  intro d
  induction d with
  | zero =>
    intro i a hd
    have hi : i = m c := by omega
    subst hi
    refine EL.en (Ev.of fun N => ?_)
    show b_X5_weightPast_23 (nI c) (nI q) (nI (m c)) _ (nI (m c)) s = _
    unfold b_X5_weightPast_23
    rw [if_pos (nI_le (Nat.le_refl _) (by omega))]
    rfl
  | succ d ih =>
    intro i a hd
    obtain ⟨w1, -, w3, w4⟩ := hC.wt hc (show i < m c by omega)
    have hw : (f_X1_weightOf (nI c) (nI i) s).toInt64 = lN (wts s c i) := by
      unfold f_X1_weightOf
      rw [ix4, aA_n (by omega) (by omega), w1, nI_l (by omega)]
    have h59 : j_X5_weightPast_59 (nI c) (nI q) (nI (m c)) (lN (a + wsum (wts s c) (R c) q i)) (nI i) s = some (.inl ((lN (a + (wsum (wts s c) (R c) q i + wts s c i)), nI (i + 1)), s)) := by
      unfold j_X5_weightPast_59 j_X5_weightPast_75
      rw [hw, lN_add, nI_1, Nat.add_assoc]
    refine EL.st (v' := ((lN (a + wsum (wts s c) (R c) q (i + 1)), nI (i + 1)), s)) (Ev.of fun N => ?_) (ih (i + 1) a (by omega))
    show b_X5_weightPast_23 (nI c) (nI q) (nI (m c)) _ (nI i) s = _
    unfold b_X5_weightPast_23
    rw [if_neg (nI_ge (by omega) (by omega)), wsum_s]
    by_cases z : q = 0
    · subst z
      rw [if_pos (c := nI 0 = (0 : Int32)) rfl, if_pos (c := fst1 (R c i) 0 = 0) rfl]
      exact h59
    · obtain ⟨tt, t1, t2, t3⟩ := hk.resolve_left z
      have hle := fst1_le (R c i) tt
      rw [if_neg (nI_ne0 (by omega) hq), ix4, aA_n (by omega) (by omega), t3 i (by omega)]
      by_cases y : fst1 (R c i) q = 0
      · rw [if_pos y]
        rcases (fst1_iff t1).mpr y with x | x
        · rw [if_pos (c := nI (fst1 (R c i) tt) = (0 : Int32)) (by rw [x]; rfl)]
          exact h59
        · rw [if_neg (c := nI (fst1 (R c i) tt) = (0 : Int32)) (nI_ne0 (by omega) (by omega)), if_neg (nI_ge x (by omega))]
          exact h59
      · rw [if_neg y]
        have x : ¬ (fst1 (R c i) tt = 0 ∨ q < fst1 (R c i) tt) := fun x => y ((fst1_iff t1).mp x)
        rw [if_neg (c := nI (fst1 (R c i) tt) = (0 : Int32)) (nI_ne0 (by omega) (by omega)), if_pos (nI_le (by omega) (by omega))]
        unfold j_X5_weightPast_75
        rw [nI_1]
        rfl
theorem x_wp (hC : CorN n m s) {c q : Nat} (hc : c < 8) (hq : q < 2 ^ 31) (hk : q = 0 ∨ KnO m R q c s) : Ev (fun N => f_X5_weightPast N (nI c) (nI q) s) (lN (wpF (m c) (wts s c) (R c) q), s) := by
  have h8 := (hC.2.2.2.1 c hc).2.2.2.2.1
  have hm4 := hC.m4 hc
  have hl : f_X1_livesOf (nI c) s = nI (m c) := by
    unfold f_X1_livesOf
    rw [aA_n hc (by omega), h8]
  by_cases z : m c = 0
  · have h := x_wp_lp hC hc hq hk 0 0 1 (by omega)
    refine Ev.cg (g := fun N => itr (fun (v : (Int64 × Int32) × cS) => b_X5_weightPast_23 (nI c) (nI q) (nI (m c)) v.1.1 v.1.2 v.2) N ((lN (1 + wsum (wts s c) (R c) q 0), nI 0), s)) ?_ fun N => ?_
    · have e : lN (1 + wsum (wts s c) (R c) q (m c)) = lN (wpF (m c) (wts s c) (R c) q) := by
        rw [wpF_0 z, z]
        rfl
      rw [← e]
      exact h.ev
    · unfold f_X5_weightPast
      rw [hl, if_pos (by rw [z]; rfl)]
      rfl
  · have h := x_wp_lp hC hc hq hk (m c) 0 0 (by omega)
    refine Ev.cg (g := fun N => itr (fun (v : (Int64 × Int32) × cS) => b_X5_weightPast_23 (nI c) (nI q) (nI (m c)) v.1.1 v.1.2 v.2) N ((lN (0 + wsum (wts s c) (R c) q 0), nI 0), s)) ?_ fun N => ?_
    · rw [wpF_s z]
      have h' := h.ev
      rw [Nat.zero_add, Nat.zero_add] at h'
      rw [Nat.zero_add]
      exact h'
    · unfold f_X5_weightPast
      rw [hl, if_neg (nI_ne0 (by omega) (by omega))]
      rfl
def facF (m : Nat → Nat) (w : Nat → Nat → Nat) (R : Nat → Nat → Nat → Bool) (pc q c : Nat) : Nat := if bit pc c then wpF (m c) (w c) (R c) q else 1
theorem past_p (n : Nat) (m : Nat → Nat) (w : Nat → Nat → Nat) (R : Nat → Nat → Nat → Bool) (pc q : Nat) : past n m w R pc q = prodN (facF m w R pc q) n := rfl
theorem prodN_s (g : Nat → Nat) (c : Nat) : prodN g (c + 1) = prodN g c * g c := rfl
theorem x_ways (hC : CorN n m s) {pc : Nat} (hp : pc < 2 ^ 31) : Ev (fun N => f_X5_ways N (nI pc) s) (lN (past n m (wts s) R pc 0), s) := by
  have hn8 := hC.1
  have hl : ∀ (d c : Nat), c + d = n → EL (fun N (v : (Int64 × Int32) × cS) => b_X5_ways_5 N (nI pc) v.1.1 v.1.2 v.2) ((lN (prodN (facF m (wts s) R pc 0) c), nI c), s) (lN (past n m (wts s) R pc 0), s) := by
    intro d
    induction d with
    | zero =>
      intro c hd
      have hcn : c = n := by omega
      subst hcn
      refine EL.en (Ev.of fun N => ?_)
      show b_X5_ways_5 N (nI pc) _ (nI c) s = _
      unfold b_X5_ways_5 f_X1_size
      rw [hC.2.1, if_pos (nI_le (Nat.le_refl _) (by omega))]
      rfl
    | succ d ih =>
      intro c hd
      have hin := x_isIn (s := s) hp (show c < 8 by omega)
      refine EL.st (v' := ((lN (prodN (facF m (wts s) R pc 0) (c + 1)), nI (c + 1)), s)) ?_ (ih (c + 1) (by omega))
      rw [prodN_s]
      by_cases hb : bit pc c
      · rw [if_pos hb] at hin
        refine Ev.cg (Ev.bnd (x_wp (R := R) hC (c := c) (q := 0) (by omega) (by decide) (Or.inl rfl)) (k := fun _ r5 s6 => some (.inl ((lN (prodN (facF m (wts s) R pc 0) c) * r5, nI (c + 1)), s6))) (Ev.of fun N => ?_)) fun N => ?_
        · rw [lN_mul]
          unfold facF
          rw [if_pos hb]
        · show b_X5_ways_5 N (nI pc) _ (nI c) s = _
          unfold b_X5_ways_5 f_X1_size j_X5_ways_36
          rw [hC.2.1, if_neg (nI_ge (by omega) (by omega)), hin, if_neg (by decide), nI_1]
          rfl
      · rw [if_neg hb] at hin
        refine Ev.of fun N => ?_
        show b_X5_ways_5 N (nI pc) _ (nI c) s = _
        unfold b_X5_ways_5 f_X1_size j_X5_ways_36
        have e : facF m (wts s) R pc 0 c = 1 := by
          unfold facF
          rw [if_neg hb]
        rw [hC.2.1, if_neg (nI_ge (by omega) (by omega)), hin, if_pos rfl, nI_1, e, Nat.mul_one]
  exact Ev.cg (hl n 0 (by omega)).ev fun N => rfl
theorem x_lost (hC : CorN n m s) {pc q : Nat} (hp : pc < 2 ^ 31) (hq : q < 2 ^ 31) (hk : ∀ c, c < n → bit pc c → q = 0 ∨ KnO m R q c s) : Ev (fun N => f_X5_lost N (nI pc) (nI q) s) (lN (past n m (wts s) R pc 0 - past n m (wts s) R pc q), s) := by
  have hn8 := hC.1
  have hl : ∀ (d c : Nat), c + d = n → EL (fun N (v : (Int64 × Int32) × cS) => b_X5_lost_5 N (nI pc) (nI q) v.1.1 v.1.2 v.2) ((lN (prodN (facF m (wts s) R pc q) c), nI c), s) (lN (past n m (wts s) R pc 0 - past n m (wts s) R pc q), s) := by
    intro d
    induction d with
    | zero =>
      intro c hd
      have hcn : c = n := by omega
      subst hcn
      refine EL.en (Ev.cg (Ev.ret (Ev.bnd (x_ways (R := R) hC hp) (k := fun _ r3 s4 => some (r3 - lN (past c m (wts s) R pc q), s4)) (Ev.of fun N => ?_))) fun N => ?_)
      · rw [lN_sub (past_mo (Nat.zero_le _))]
      · show b_X5_lost_5 N (nI pc) (nI q) _ (nI c) s = _
        unfold b_X5_lost_5 f_X1_size
        rw [hC.2.1, if_pos (nI_le (Nat.le_refl _) (by omega))]
        rfl
    | succ d ih =>
      intro c hd
      have hin := x_isIn (s := s) hp (show c < 8 by omega)
      refine EL.st (v' := ((lN (prodN (facF m (wts s) R pc q) (c + 1)), nI (c + 1)), s)) ?_ (ih (c + 1) (by omega))
      rw [prodN_s]
      by_cases hb : bit pc c
      · rw [if_pos hb] at hin
        refine Ev.cg (Ev.bnd (x_wp (R := R) hC (c := c) (q := q) (by omega) hq (hk c (by omega) hb)) (k := fun _ r5 s6 => some (.inl ((lN (prodN (facF m (wts s) R pc q) c) * r5, nI (c + 1)), s6))) (Ev.of fun N => ?_)) fun N => ?_
        · rw [lN_mul]
          unfold facF
          rw [if_pos hb]
        · show b_X5_lost_5 N (nI pc) (nI q) _ (nI c) s = _
          unfold b_X5_lost_5 f_X1_size j_X5_lost_36
          rw [hC.2.1, if_neg (nI_ge (by omega) (by omega)), hin, if_neg (by decide), nI_1]
      · rw [if_neg hb] at hin
        refine Ev.of fun N => ?_
        show b_X5_lost_5 N (nI pc) (nI q) _ (nI c) s = _
        unfold b_X5_lost_5 f_X1_size j_X5_lost_36
        have e : facF m (wts s) R pc q c = 1 := by
          unfold facF
          rw [if_neg hb]
        rw [hC.2.1, if_neg (nI_ge (by omega) (by omega)), hin, if_pos rfl, nI_1, e, Nat.mul_one]
  exact Ev.cg (hl n 0 (by omega)).ev fun N => rfl
/-- which corner runs first -/
def firG (m : Nat → Nat) (w : Nat → Nat → Nat) (R : Nat → Nat → Nat → Bool) (c bb o : Nat) : Nat := if o = c then 1 else wpF (m o) (w o) (R o) (if o < c then bb else bb - 1)
def firI (n : Nat) (m : Nat → Nat) (w : Nat → Nat → Nat) (R : Nat → Nat → Nat → Bool) (c T i : Nat) : Nat := if fst1 (R c i) T = 0 then 0 else w c i * prodN (firG m w R c (fst1 (R c i) T)) n
theorem firF_p (n : Nat) (m : Nat → Nat) (w : Nat → Nat → Nat) (R : Nat → Nat → Nat → Bool) (c T : Nat) : firF n m w R c T = sumN (firI n m w R c T) (m c) := rfl
theorem x_fir_in (hC : CorN n m s) {c T b i w0 : Nat} {x3 : Int64} (hc : c < n) (hT : T ≤ 2000) (hb : 1 ≤ b) (hb2 : b ≤ T) (hk : ∀ o, o < n → KnO m R T o s) : ∀ (d o : Nat), o + d = n → EL (fun N (v : (Int64 × Int32) × cS) => b_X5_first_60 N (nI c) (nI T) x3 (nI i) (nI b) v.1.1 v.1.2 v.2) ((lN (w0 * prodN (firG m (wts s) R c b) o), nI o), s) (.inl ((x3 + lN (w0 * prodN (firG m (wts s) R c b) n), nI (i + 1)), s)) := by
  have hn8 := hC.1
  intro d
  induction d with
  | zero =>
    intro o hd
    have hon : o = n := by omega
    subst hon
    refine EL.en (Ev.of fun N => ?_)
    show b_X5_first_60 N (nI c) (nI T) x3 (nI i) (nI b) _ (nI o) s = _
    unfold b_X5_first_60 f_X1_size j_X5_first_119
    rw [hC.2.1, if_pos (nI_le (Nat.le_refl _) (by omega)), nI_1]
    rfl
  | succ d ih =>
    intro o hd
    have hoc : nI o = nI c ↔ o = c := nI_eq (by omega) (by omega)
    refine EL.st (v' := ((lN (w0 * prodN (firG m (wts s) R c b) (o + 1)), nI (o + 1)), s)) ?_ (ih (o + 1) (by omega))
    rw [prodN_s]
    by_cases z : o = c
    · have e : firG m (wts s) R c b o = 1 := by
        unfold firG
        rw [if_pos z]
      refine Ev.of fun N => ?_
      show b_X5_first_60 N (nI c) (nI T) x3 (nI i) (nI b) _ (nI o) s = _
      unfold b_X5_first_60 f_X1_size j_X5_first_105
      rw [hC.2.1, if_neg (nI_ge (by omega) (by omega)), if_pos (hoc.mpr z), e, Nat.mul_one, nI_1, Int64.mul_one]
    · have hgo : ∀ q, q ≤ T → firG m (wts s) R c b o = wpF (m o) (wts s o) (R o) q → (∀ N, b_X5_first_60 N (nI c) (nI T) x3 (nI i) (nI b) (lN (w0 * prodN (firG m (wts s) R c b) o)) (nI o) s = j_X5_first_102 N (nI c) (nI T) x3 (nI i) (nI b) (nI o) (lN (w0 * prodN (firG m (wts s) R c b) o)) (nI o) (nI q) s) → Ev (fun N => b_X5_first_60 N (nI c) (nI T) x3 (nI i) (nI b) (lN (w0 * prodN (firG m (wts s) R c b) o)) (nI o) s) (.inl ((lN (w0 * (prodN (firG m (wts s) R c b) o * firG m (wts s) R c b o)), nI (o + 1)), s)) := by
        intro q hq e hB
        refine Ev.cg (Ev.bnd (x_wp (R := R) hC (c := o) (q := q) (by omega) (by omega) (Or.inr ((hk o (by omega)).le hq))) (k := fun _ r11 s12 => some (.inl ((lN (w0 * prodN (firG m (wts s) R c b) o) * r11, nI (o + 1)), s12))) (Ev.of fun N => ?_)) fun N => ?_
        · rw [lN_mul, e, Nat.mul_assoc]
        · rw [hB]
          unfold j_X5_first_102 j_X5_first_105
          rw [nI_1]
      by_cases y : c ≤ o
      · refine hgo (b - 1) (by omega) ?_ fun N => ?_
        · unfold firG
          rw [if_neg z, if_neg (by omega)]
        · unfold b_X5_first_60 f_X1_size
          rw [hC.2.1, if_neg (nI_ge (by omega) (by omega)), if_neg (fun w => z (hoc.mp w)), if_pos (nI_le y (by omega)), show nI b - (1 : Int32) = nI (b - 1) from pk_sub hb]
      · refine hgo b hb2 ?_ fun N => ?_
        · unfold firG
          rw [if_neg z, if_pos (by omega)]
        · unfold b_X5_first_60 f_X1_size
          rw [hC.2.1, if_neg (nI_ge (by omega) (by omega)), if_neg (fun w => z (hoc.mp w)), if_neg (nI_ge (by omega) (by omega))]
theorem x_first (hC : CorN n m s) {c T : Nat} (hc : c < n) (hT : T ≤ 2000) (hk : ∀ o, o < n → KnO m R T o s) : Ev (fun N => f_X5_first N (nI c) (nI T) s) (lN (firF n m (wts s) R c T), s) := by
  have hn8 := hC.1
  have hm4 := hC.m4 (show c < 8 by omega)
  have hl8 : f_X1_livesOf (nI c) s = nI (m c) := by
    unfold f_X1_livesOf
    rw [aA_n (by omega) (by omega), (hC.2.2.2.1 c (by omega)).2.2.2.2.1]
  obtain ⟨tt, t1, t2, t3⟩ := hk c hc
  have hl : ∀ (d i : Nat), i + d = m c → EL (fun N (v : (Int64 × Int32) × cS) => b_X5_first_5 N (nI c) (nI T) v.1.1 v.1.2 v.2) ((lN (sumN (firI n m (wts s) R c T) i), nI i), s) (lN (firF n m (wts s) R c T), s) := by
    intro d
    induction d with
    | zero =>
      intro i hd
      have hi : i = m c := by omega
      subst hi
      refine EL.en (Ev.of fun N => ?_)
      show b_X5_first_5 N (nI c) (nI T) _ (nI (m c)) s = _
      unfold b_X5_first_5
      rw [hl8, if_pos (nI_le (Nat.le_refl _) (by omega))]
      rfl
    | succ d ih =>
      intro i hd
      have hr := t3 i (by omega)
      have hle := fst1_le (R c i) tt
      obtain ⟨w1, -, w3, w4⟩ := hC.wt (show c < 8 by omega) (show i < m c by omega)
      have hsx : sumN (firI n m (wts s) R c T) (i + 1) = sumN (firI n m (wts s) R c T) i + firI n m (wts s) R c T i := rfl
      have hB : ∀ N, b_X5_first_5 N (nI c) (nI T) (lN (sumN (firI n m (wts s) R c T) i)) (nI i) s = if nI (fst1 (R c i) tt) ≤ 0 then j_X5_first_119 (nI c) (nI T) (lN (sumN (firI n m (wts s) R c T) i)) (nI i) s else if nI T < nI (fst1 (R c i) tt) then j_X5_first_119 (nI c) (nI T) (lN (sumN (firI n m (wts s) R c T) i)) (nI i) s else w_X5_first_60 N (nI c) (nI T) (lN (sumN (firI n m (wts s) R c T) i)) (nI i) (nI (fst1 (R c i) tt)) (lN (wts s c i)) 0 s := by
        intro N
        unfold b_X5_first_5 f_X1_weightOf
        rw [hl8, if_neg (nI_ge (by omega) (by omega)), ix4, aA_n (by omega) (by omega), hr, aA_n (by omega) (by omega), w1, nI_l (by omega)]
      refine EL.st (v' := ((lN (sumN (firI n m (wts s) R c T) (i + 1)), nI (i + 1)), s)) ?_ (ih (i + 1) (by omega))
      by_cases y : fst1 (R c i) T = 0
      · have e : firI n m (wts s) R c T i = 0 := by
          unfold firI
          rw [if_pos y]
        rw [hsx, e, Nat.add_zero]
        refine Ev.of fun N => ?_
        show b_X5_first_5 N (nI c) (nI T) _ (nI i) s = _
        rw [hB]
        have h119 : j_X5_first_119 (nI c) (nI T) (lN (sumN (firI n m (wts s) R c T) i)) (nI i) s = some (.inl ((lN (sumN (firI n m (wts s) R c T) i), nI (i + 1)), s)) := by
          unfold j_X5_first_119
          rw [nI_1]
        rw [h119]
        rcases (fst1_iff t1).mpr y with x | x
        · rw [if_pos (by rw [x]; decide)]
        · rw [if_neg (nI_nle (by omega) (by omega)), if_pos (nI_lt x (by omega))]
      · have e0 : fst1 (R c i) tt = fst1 (R c i) T := fst1_mo t1 y
        have hleT := fst1_le (R c i) T
        have e : firI n m (wts s) R c T i = wts s c i * prodN (firG m (wts s) R c (fst1 (R c i) T)) n := by
          unfold firI
          rw [if_neg y]
        have hi := x_fir_in hC (c := c) (T := T) (b := fst1 (R c i) T) (i := i) (w0 := wts s c i) (x3 := lN (sumN (firI n m (wts s) R c T) i)) hc hT (by omega) hleT hk n 0 (by omega)
        rw [hsx, e, ← lN_add]
        refine Ev.cg hi.ev fun N => ?_
        show b_X5_first_5 N (nI c) (nI T) _ (nI i) s = _
        rw [hB, e0, if_neg (nI_nle (by omega) (by omega)), if_neg (nI_nlt hleT (by omega))]
        show itr _ N ((lN (wts s c i), 0), s) = itr _ N ((lN (wts s c i * 1), nI 0), s)
        rw [Nat.mul_one]
        rfl
  exact Ev.cg (hl (m c) 0 (by omega)).ev fun N => rfl
end
