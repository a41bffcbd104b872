/-! the class's reader: its steps as they are written; values -/
def stp (x : Nat × Nat) : Int32 := nI (x.1 * 1048576 + x.2)
def Wd (s : cS) (T : Nat) (W : Nat → Nat × Nat) (n : Nat) : Prop := ∀ i, i < n → iG s (T + 1) i = stp (W i) ∧ (W i).1 < 2048 ∧ (W i).2 < 1048576
def upW (W : Nat → Nat × Nat) (z : Nat) (x : Nat × Nat) : Nat → Nat × Nat := fun i => if i = z then x else W i
theorem upW_eq {W : Nat → Nat × Nat} {z : Nat} {x : Nat × Nat} : upW W z x z = x := if_pos rfl
theorem upW_ne {W : Nat → Nat × Nat} {z i : Nat} {x : Nat × Nat} (h : i ≠ z) : upW W z x i = W i := if_neg h
def LR (T z u : Nat) (W : Nat → Nat × Nat) (s : cS) : Prop := s.1.2.2 = T ∧ iG s T 7 = nI z ∧ Wd s T W z ∧ iG s T 9 = nI u ∧ u < 1024
def xL (T o k : Nat) : Prop := (o = T ∧ (k = 7 ∨ k = 9)) ∨ o = T + 1
def xP (T o k : Nat) : Prop := xT o k ∨ xL T o k
def XR (tb : Nat → Nat) (e p T z u : Nat) (W : Nat → Nat × Nat) (s : cS) : Prop := TR tb e p s ∧ LR T z u W s ∧ z ≤ p ∧ e ≤ 160
def XB (T f w : Nat) (s : cS) : Prop := TBd f w s ∧ s.1.2.2 = T
/-- the letters of these codes are in use -/
def us (u : Nat) (L : Cd) : Prop := ∀ x ∈ L, x.1 = 1 → ∃ j, j < 10 ∧ lets.getD j 0 = x.2 ∧ u.testBit j = true
theorem us.mo {u u' : Nat} {L : Cd} (h : us u L) (e : ∀ j, u.testBit j = true → u'.testBit j = true) : us u' L := fun x hx h1 => by
  obtain ⟨j, a, b, c⟩ := h x hx h1
  exact ⟨j, a, b, e j c⟩
theorem us.ap {u : Nat} {L L' : Cd} (h : us u L) (h' : us u L') : us u (L ++ L') := fun x hx h1 => (List.mem_append.mp hx).elim (fun z => h x z h1) (fun z => h' x z h1)
theorem us.no {u c a : Nat} (h : c ≠ 1) : us u [(c, a)] := fun x hx h1 => by
  rw [List.mem_singleton.mp hx] at h1
  exact absurd h1 h
theorem Fw.xt {T : Nat} {s t : cS} (h : Fw xT s t) : Fw (xP T) s t := h.mo fun _ _ z => Or.inl z
theorem Fw.xl {T : Nat} {s t : cS} (h : Fw (xL T) s t) : Fw (xP T) s t := h.mo fun _ _ z => Or.inr z
/-! bits -/
theorem stp_mk {k r : Nat} (hk : k < 2048) (hr : r < 1048576) : (nI k <<< ((20 : Int32) &&& 31)) ||| nI r = stp (k, r) := by
  rw [pk_shlN (n := k) ((20 : Int32) &&& 31) 20 (by decide +kernel) (by omega)]
  unfold stp
  apply Int32.toBitVec_inj.mp
  apply BitVec.eq_of_toNat_eq
  have h1 : (nI (k * 2 ^ 20)).toBitVec.toNat = k * 2 ^ 20 := by
    show (k * 2 ^ 20) % 2 ^ 32 = _
    omega
  have h2 : (nI r).toBitVec.toNat = r := by
    show r % 2 ^ 32 = _
    omega
  have h3 : (nI (k * 1048576 + r)).toBitVec.toNat = k * 2 ^ 20 + r := by
    show (k * 1048576 + r) % 2 ^ 32 = _
    omega
  rw [h3, Int32.toBitVec_or, BitVec.toNat_or, h1, h2]
  have := Nat.shiftLeft_add_eq_or_of_lt (i := 20) (b := r) (by omega) k
  rw [Nat.shiftLeft_eq] at this
  exact this.symm
theorem stp_k {x : Nat × Nat} (h1 : x.1 < 2048) (h2 : x.2 < 1048576) : stp x >>> ((20 : Int32) &&& 31) = nI x.1 := by
  unfold stp
  rw [pk_shrN (by omega) ((20 : Int32) &&& 31) 20 (by decide +kernel)]
  congr 1
  omega
theorem stp_r {x : Nat × Nat} (h1 : x.1 < 2048) (h2 : x.2 < 1048576) : stp x &&& 1048575 = nI x.2 := by
  unfold stp
  rw [pk_andN (by omega) 20 (by decide)]
  congr 1
  omega
theorem hi_bit : ∀ i, i < 32 → (4293918720 : Nat).testBit i = decide (20 ≤ i) := by decide +kernel
theorem stp_e {x : Nat × Nat} {e : Nat} (h1 : x.1 < 2048) (h2 : x.2 < 1048576) (he : e < 1048576) : (stp x &&& -1048576) ||| nI e = stp (x.1, e) := by
  have h0 : stp x &&& -1048576 = nI (x.1 * 2 ^ 20) := by
    unfold stp
    apply Int32.toBitVec_inj.mp
    apply BitVec.eq_of_toNat_eq
    have g1 : (nI (x.1 * 1048576 + x.2)).toBitVec.toNat = x.1 * 1048576 + x.2 := by
      show (x.1 * 1048576 + x.2) % 2 ^ 32 = _
      omega
    have g2 : (nI (x.1 * 2 ^ 20)).toBitVec.toNat = x.1 * 2 ^ 20 := by
      show (x.1 * 2 ^ 20) % 2 ^ 32 = _
      omega
    have g3 : ((-1048576 : Int32).toBitVec).toNat = 4293918720 := by decide
    rw [Int32.toBitVec_and, BitVec.toNat_and, g1, g2, g3]
    apply Nat.eq_of_testBit_eq
    intro i
    rw [Nat.testBit_and, Nat.testBit_mul_two_pow]
    by_cases hi : i < 32
    · rw [hi_bit i hi]
      by_cases h20 : 20 ≤ i
      · simp only [h20, decide_true, Bool.and_true, Bool.true_and]
        have e1 : x.1 = (x.1 * 1048576 + x.2) / 2 ^ 20 := by omega
        conv => rhs; rw [e1]
        rw [Nat.testBit_div_two_pow]
        congr 1
        omega
      · simp [h20]
    · have h32 : (4293918720 : Nat).testBit i = false := Nat.testBit_lt_two_pow (Nat.lt_of_lt_of_le (by decide : 4293918720 < 2 ^ 32) (Nat.pow_le_pow_right (by decide) (by omega)))
      have hx : x.1.testBit (i - 20) = false := Nat.testBit_lt_two_pow (Nat.lt_of_lt_of_le h1 (Nat.le_trans (by decide : 2048 ≤ 2 ^ 12) (Nat.pow_le_pow_right (by decide) (by omega))))
      rw [h32, hx]
      simp
  rw [h0]
  have := stp_mk h1 he
  rw [pk_shlN (n := x.1) ((20 : Int32) &&& 31) 20 (by decide +kernel) (by omega)] at this
  exact this
theorem bit_or {u j : Nat} (hu : u < 1024) (hj : j < 10) : nI u ||| ((1 : Int32) <<< (nI j &&& 31)) = nI (u ||| 2 ^ j) := by
  have hs : ((nI j &&& 31).toBitVec.smod 32).toNat = j := by
    have : ∀ j, j < 10 → ((nI j &&& 31).toBitVec.smod 32).toNat = j := by decide +kernel
    exact this j hj
  have hp : 2 ^ j < 1024 := Nat.pow_lt_pow_right (by decide) hj
  have h1 : (1 : Int32) <<< (nI j &&& 31) = nI (2 ^ j) := by
    have := pk_shlN (n := 1) (nI j &&& 31) j hs (by omega)
    rw [Nat.one_mul] at this
    exact this
  rw [h1]
  apply Int32.toBitVec_inj.mp
  apply BitVec.eq_of_toNat_eq
  have g : ∀ n, n < 1024 → (nI n).toBitVec.toNat = n := fun n hn => by
    show n % 2 ^ 32 = _
    omega
  have ho : u ||| 2 ^ j < 1024 := Nat.or_lt_two_pow (n := 10) hu hp
  rw [Int32.toBitVec_or, BitVec.toNat_or, g u hu, g _ hp, g _ ho]
theorem bit_us {u j : Nat} (hu : u < 1024) (hj : j < 10) : ((nI u >>> (nI j &&& 31)) &&& 1) = 1 ↔ u.testBit j = true := by
  have hs : ((nI j &&& 31).toBitVec.smod 32).toNat = j := by
    have : ∀ j, j < 10 → ((nI j &&& 31).toBitVec.smod 32).toNat = j := by decide +kernel
    exact this j hj
  rw [pk_shrN (by omega) (nI j &&& 31) j hs, pk_andN (k := 1) (by have := Nat.div_le_self u (2 ^ j); omega) (by decide)]
  have hm : u / 2 ^ j % 2 ^ 1 < 2 := Nat.mod_lt _ (by decide)
  have e1 : nI (u / 2 ^ j % 2 ^ 1) = 1 ↔ u / 2 ^ j % 2 ^ 1 = 1 := nI_eq (b := 1) (by omega) (by omega)
  rw [e1, Nat.testBit_eq_decide_div_mod_eq]
  simp
section
variable {tb : Nat → Nat} {e p T z u : Nat} {W : Nat → Nat × Nat} {s : cS}
theorem kdT {T : Nat} (hT : T = 11 ∨ T = 19) : kd T 3 := by
  rcases hT with rfl | rfl
  · exact LA_11
  · exact LA_19
theorem TR.l {T : Nat} (hT : T = 11 ∨ T = 19) {t : cS} (h : TR tb e p s) (hF : Fw (xL T) s t) : TR tb e p t := h.fw hF (fun k _ _ => by unfold xL; omega) (fun i _ => by unfold xL; omega)
theorem LR.t {T : Nat} (hT : T = 11 ∨ T = 19) {t : cS} (h : LR T z u W s) (hF : Fw xT s t) : LR T z u W t := by
  obtain ⟨h1, h2, h3, h4, h5⟩ := h
  exact ⟨by rw [hF.1]; exact h1, by rw [hF.int (by unfold xT; omega)]; exact h2, fun i hi => by rw [hF.int (by unfold xT; omega)]; exact h3 i hi, by rw [hF.int (by unfold xT; omega)]; exact h4, h5⟩
theorem XB.l {T f w : Nat} (hT : T = 11 ∨ T = 19) {t : cS} (h : XB T f w s) (hF : Fw (xL T) s t) : XB T f w t := ⟨h.1.fw hF (by unfold xL; omega) (by unfold xL; omega), by rw [hF.1]; exact h.2⟩
theorem LR.add {T : Nat} (hT : T = 11 ∨ T = 19) (h : LR T z u W s) (hz : z < 160) {k r : Nat} (hk : k < 2048) (hr : r < 1048576) : ∃ s', f_X3_add T (nI k) (nI r) s = ((), s') ∧ LR T (z + 1) u (upW W z (k, r)) s' ∧ Fw (xL T) s s' := by
  obtain ⟨h1, h2, h3, h4, h5⟩ := h
  unfold f_X3_add
  rw [h2, pA_n hz (by omega), sb_mk, stp_mk hk hr]
  have e1 : iG (iS s (T + 1) z (stp (k, r))) T 7 = nI z := by rw [iG_ne (by omega)]; exact h2
  rw [e1, nI_1, sb_mk]
  refine ⟨_, rfl, ⟨h1, iG_eq, fun i hi => ?_, ?_, h5⟩, (Fw.rf.st (Or.inr rfl)).st (Or.inl ⟨rfl, Or.inl rfl⟩)⟩
  · rw [iG_ne (by omega)]
    by_cases c : i = z
    · subst c
      rw [iG_eq, upW_eq]
      exact ⟨rfl, hk, hr⟩
    · rw [iG_nk c, upW_ne c]
      exact h3 i (by omega)
  · rw [iG_nk (by omega), iG_ne (by omega)]
    exact h4
theorem XB.add {T f w : Nat} (hT : T = 11 ∨ T = 19) (h : XB T f w s) (a b : Int32) : ∃ s', f_X3_add T a b s = ((), s') ∧ XB T f w s' ∧ Fw (xL T) s s' := by
  unfold f_X3_add pA
  have hF : ∀ c : Prop, [Decidable c] → Fw (xL T) s (if c then iS s (T + 1) (iG s T 7).toNatClampNeg (a <<< ((20 : Int32) &&& 31) ||| b) else s) := by
    intro c _
    split
    · exact Fw.rf.st (Or.inr rfl)
    · exact Fw.rf
  rw [sb_mk, sb_mk]
  have hF2 := (hF (inb (iG s T 7) 160)).st (o := T) (k := 7) (v := iG (if inb (iG s T 7) 160 then iS s (T + 1) (iG s T 7).toNatClampNeg (a <<< ((20 : Int32) &&& 31) ||| b) else s) T 7 + 1) (Or.inl ⟨rfl, Or.inl rfl⟩)
  exact ⟨_, rfl, h.l hT hF2, hF2⟩
theorem LR.letter {T : Nat} (hT : T = 11 ∨ T = 19) (h : LR T z u W s) (hz : z < 160) {j : Nat} (hj : j < 10) : ∃ s', f_X3_addLetter T (nI j) s = ((), s') ∧ LR T (z + 1) (u ||| 2 ^ j) (upW W z (2, j)) s' ∧ Fw (xL T) s s' := by
  have hp : 2 ^ j < 1024 := Nat.pow_lt_pow_right (by decide) hj
  have h' : LR T z (u ||| 2 ^ j) W (iS s T 9 (nI (u ||| 2 ^ j))) := by
    obtain ⟨h1, h2, h3, h4, h5⟩ := h
    exact ⟨h1, by rw [iG_nk (by omega)]; exact h2, fun i hi => by rw [iG_ne (by omega)]; exact h3 i hi, iG_eq, Nat.or_lt_two_pow (n := 10) h5 hp⟩
  obtain ⟨s', a1, a2, a3⟩ := h'.add hT hz (k := 2) (r := j) (by decide) (by omega)
  refine ⟨s', ?_, a2, (Fw.rf.st (Or.inl ⟨rfl, Or.inr rfl⟩)).tr a3⟩
  unfold f_X3_addLetter
  have a1' : f_X3_add T 2 (nI j) (iS s T 9 (nI (u ||| 2 ^ j))) = ((), s') := a1
  rw [h.2.2.2.1, bit_or h.2.2.2.2 hj, sb_mk, a1', tb_mk]
theorem or_bits {u j i : Nat} : (u.testBit i = true → (u ||| 2 ^ j).testBit i = true) ∧ (u ||| 2 ^ j).testBit j = true := by
  constructor
  · intro h
    rw [Nat.testBit_or, h, Bool.true_or]
  · rw [Nat.testBit_or, Nat.testBit_two_pow_self, Bool.or_true]
end
/-- what reading a sum comes to -/
def AS (tb : Nat → Nat) (e : Nat) (x : PR) (rd : Nat → cS → Option (Unit × cS)) (p T z u : Nat) (W : Nat → Nat × Nat) (s : cS) (d : Nat) : Prop := match x with
  | .inl (p', L) => p + L.length ≤ p' ∧ p < p' ∧ ∃ s' u' W', Ev (fun N => rd N s) ((), s') ∧ XR tb e p' T (z + L.length) u' W' s' ∧ (∀ i, i < z → W' i = W i) ∧ (∀ j, u.testBit j = true → u'.testBit j = true) ∧ us u' L ∧ SemS W' z (z + L.length) L d ∧ Fw (xP T) s s'
  | .inr (f, w) => ∃ s', Ev (fun N => rd N s) ((), s') ∧ XB T f w s' ∧ Fw (xP T) s s'
/-- behind a fault -/
def AX (T : Nat) (rd : Nat → cS → Option (Unit × cS)) : Prop := ∀ f w s, XB T f w s → ∃ s', Ev (fun N => rd N s) ((), s') ∧ XB T f w s' ∧ Fw (xP T) s s'
section
variable {tb : Nat → Nat} {e T : Nat}
abbrev pB2 : Type := Nat → (Int32 × Int32) × cS → Option (((Int32 × Int32) × cS) ⊕ (Unit × cS))
def goB (rf : Nat → cS → Option (Unit × cS)) (N c i : Nat) (s : cS) : Option (((Int32 × Int32) × cS) ⊕ (Unit × cS)) := (f_X9_pass (nI c) s, ()).1.2 |> fun s8 => ob (rf N s8) fun _ s11 => if kd s11.1.2.2 3 then (f_X3_add s11.1.2.2 (nI c) 0 s11).2 |> fun s15 => some (.inl (((sgn s15), (nI i + (1 : Int32))), s15)) else none
theorem A_lp (hT : T = 11 ∨ T = 19) {B : pB2} {ops : List Nat} {rf : Nat → cS → Option (Unit × cS)} {sub : Nat → Nat → PR} {d dp : Nat} (hops : ∀ c ∈ ops, c ∈ opsL)
    (hB1 : ∀ N s c i, i < 160 → sgn s = nI c → c ∈ ops → B N ((sgn s, nI i), s) = goB rf N c i s)
    (hB2 : ∀ N x i s, (160 ≤ i ∧ i < 200 ∨ ∀ c ∈ ops, ¬ x = nI c) → B N ((x, nI i), s) = some (.inr ((), s)))
    (HS : ∀ p z u W s, XR tb e p T z u W s → AS tb e (sub d p) rf p T z u W s dp) (HX : AX T rf) : ∀ (k i p : Nat) (L : Cd) (z0 u : Nat) (W : Nat → Nat × Nat) (s : cS), i + k = 160 → XR tb e p T (z0 + L.length) u W s → us u L → SemS W z0 (z0 + L.length) L (dp + 1) → match lpS tb e ops sub k d p L with
      | .inl (p', L') => p + L'.length ≤ p' + L.length ∧ p ≤ p' ∧ ∃ s' u' W', EL B ((sgn s, nI i), s) ((), s') ∧ XR tb e p' T (z0 + L'.length) u' W' s' ∧ (∀ i, i < z0 → W' i = W i) ∧ (∀ j, u.testBit j = true → u'.testBit j = true) ∧ us u' L' ∧ SemS W' z0 (z0 + L'.length) L' (dp + 1) ∧ Fw (xP T) s s'
      | .inr (f, w) => ∃ s', EL B ((sgn s, nI i), s) ((), s') ∧ XB T f w s' ∧ Fw (xP T) s s' := by
  have ops256 : ∀ c ∈ ops, c < 256 ∧ 5 < c := by
    intro c hc
    have := hops c hc
    unfold opsL at this
    simp only [List.mem_cons, List.not_mem_nil, or_false] at this
    omega
  intro k
  induction k with
  | zero =>
    intro i p L z0 u W s hi h hu hS
    exact ⟨by omega, Nat.le_refl _, s, u, W, EL.en (Ev.of fun N => hB2 N _ i s (Or.inl (by omega))), h, fun _ _ => rfl, fun _ z => z, hu, hS, Fw.rf⟩
  | succ k ih =>
    intro i p L z0 u W s hi h hu hS
    obtain ⟨hTR, hLR, hzp, he⟩ := h
    unfold lpS
    by_cases hc : cq tb e p ∈ ops
    · rw [if_pos hc]
      have hc2 := ops256 _ hc
      obtain ⟨s1, a1, a2, a3⟩ := hTR.pass (c := cq tb e p) rfl hc2.1
      have hX1 : XR tb e (p + 1) T (z0 + L.length) u W s1 := ⟨a2, hLR.t hT a3, by omega, he⟩
      have hA := HS (p + 1) (z0 + L.length) u W s1 hX1
      have hgo : ∀ N, B N ((sgn s, nI i), s) = ob (rf N s1) fun _ s11 => if kd s11.1.2.2 3 then (f_X3_add s11.1.2.2 (nI (cq tb e p)) 0 s11).2 |> fun s15 => some (.inl (((sgn s15), (nI i + (1 : Int32))), s15)) else none := by
        intro N
        rw [hB1 N s (cq tb e p) i (by omega) (hTR.eq hc2.1) hc]
        unfold goB
        rw [a1]
      cases hx : sub d (p + 1) with
      | inr y =>
        obtain ⟨f, w⟩ := y
        rw [hx] at hA
        obtain ⟨s2, b1, b2, b3⟩ := hA
        obtain ⟨s3, c1, c2, c3⟩ := b2.add hT (nI (cq tb e p)) 0
        refine ⟨s3, EL.st (v' := ((sgn s3, nI (i + 1)), s3)) (Ev.cg (Ev.bnd b1 (k := fun _ _ s11 => if kd s11.1.2.2 3 then (f_X3_add s11.1.2.2 (nI (cq tb e p)) 0 s11).2 |> fun s15 => some (.inl (((sgn s15), (nI i + (1 : Int32))), s15)) else none) (Ev.of fun N => ?_)) hgo) (EL.en (Ev.of fun N => hB2 N _ _ _ (Or.inr fun c hc z => ?_))), c2, a3.xt.tr (b3.tr c3.xl)⟩
        · dsimp only
          rw [b2.2, if_pos (kdT hT), c1, nI_1]
        · rw [c2.1.sg] at z
          exact m1_ne (by have := ops256 c hc; omega) z
      | inl y =>
        obtain ⟨p1, L1⟩ := y
        rw [hx] at hA
        obtain ⟨b0, b0', s2, u2, W2, b1, b2, b4, b5, b6, b7, b3⟩ := hA
        obtain ⟨g1, g2, g3, g4⟩ := b2
        have hple := g1.2.2.2.2.1
        obtain ⟨s3, c1, c2, c3⟩ := g2.add hT (by omega) (k := cq tb e p) (r := 0) (by omega) (by omega)
        have hlen : (L ++ L1 ++ [(cq tb e p, 0)]).length = L.length + L1.length + 1 := by simp; omega
        have hzl : z0 + L.length + L1.length + 1 = z0 + (L ++ L1 ++ [(cq tb e p, 0)]).length := by omega
        have hS1 : SemS (upW W2 (z0 + L.length + L1.length) (cq tb e p, 0)) z0 (z0 + L.length) L (dp + 1) := hS.cg fun i _ hi => by rw [upW_ne (by omega)]; exact b4 i hi
        have hS2 : SemS (upW W2 (z0 + L.length + L1.length) (cq tb e p, 0)) (z0 + L.length) (z0 + L.length + L1.length) L1 dp := b7.cg fun i _ hi => by rw [upW_ne (by omega)]
        have hS3 := hS1.bin hS2 upW_eq (hops _ hc) (d := dp + 1) ⟨Nat.le_refl _, Nat.le_refl _⟩
        rw [hzl] at hS3 c2
        have hI := ih (i + 1) p1 (L ++ L1 ++ [(cq tb e p, 0)]) z0 u2 _ s3 (by omega) ⟨g1.l hT c3, c2, by omega, he⟩ (((hu.mo b5).ap b6).ap (us.no (by omega))) hS3
        have hstep : ∀ {q}, EL B ((sgn s3, nI (i + 1)), s3) q → EL B ((sgn s, nI i), s) q := by
          intro q kq
          refine EL.st (v' := ((sgn s3, nI (i + 1)), s3)) (Ev.cg (Ev.bnd b1 (k := fun _ _ s11 => if kd s11.1.2.2 3 then (f_X3_add s11.1.2.2 (nI (cq tb e p)) 0 s11).2 |> fun s15 => some (.inl (((sgn s15), (nI i + (1 : Int32))), s15)) else none) (Ev.of fun N => ?_)) hgo) kq
          dsimp only
          have c1' : f_X3_add T (nI (cq tb e p)) 0 s2 = ((), s3) := c1
          rw [g2.1, if_pos (kdT hT), c1', nI_1]
        show match lpS tb e ops sub k d p1 (L ++ L1 ++ [(cq tb e p, 0)]) with
          | .inl (p', L') => p + L'.length ≤ p' + L.length ∧ p ≤ p' ∧ ∃ s' u' W', EL B ((sgn s, nI i), s) ((), s') ∧ XR tb e p' T (z0 + L'.length) u' W' s' ∧ (∀ i, i < z0 → W' i = W i) ∧ (∀ j, u.testBit j = true → u'.testBit j = true) ∧ us u' L' ∧ SemS W' z0 (z0 + L'.length) L' (dp + 1) ∧ Fw (xP T) s s'
          | .inr (f, w) => ∃ s', EL B ((sgn s, nI i), s) ((), s') ∧ XB T f w s' ∧ Fw (xP T) s s'
        cases hy : lpS tb e ops sub k d p1 (L ++ L1 ++ [(cq tb e p, 0)]) with
        | inr y =>
          obtain ⟨f, w⟩ := y
          rw [hy] at hI
          obtain ⟨s', q1, q2, q3⟩ := hI
          exact ⟨s', hstep q1, q2, a3.xt.tr (b3.tr (c3.xl.tr q3))⟩
        | inl y =>
          obtain ⟨p2, L2⟩ := y
          rw [hy] at hI
          obtain ⟨q0, q0', s', u', W', q1, q2, q4, q5, q6, q7, q3⟩ := hI
          refine ⟨by omega, by omega, s', u', W', hstep q1, q2, fun i hi => ?_, fun j hj => q5 j (b5 j hj), q6, q7, a3.xt.tr (b3.tr (c3.xl.tr q3))⟩
          rw [q4 i hi, upW_ne (by omega), b4 i (by omega)]
    · rw [if_neg hc]
      refine ⟨by omega, Nat.le_refl _, s, u, W, EL.en (Ev.of fun N => hB2 N _ i s (Or.inr fun c hc' z => ?_)), ⟨hTR, hLR, hzp, he⟩, fun _ _ => rfl, fun _ z => z, hu, hS, Fw.rf⟩
      have := (hTR.is (ops256 c hc').1).mp z
      exact hc (by rw [this]; exact hc')
theorem A_ch (hT : T = 11 ∨ T = 19) {B : pB2} {ops : List Nat} {rf rd : Nat → cS → Option (Unit × cS)} {sub : Nat → Nat → PR} {d dp : Nat} (hops : ∀ c ∈ ops, c ∈ opsL)
    (hB1 : ∀ N s c i, i < 160 → sgn s = nI c → c ∈ ops → B N ((sgn s, nI i), s) = goB rf N c i s)
    (hB2 : ∀ N x i s, (160 ≤ i ∧ i < 200 ∨ ∀ c ∈ ops, ¬ x = nI c) → B N ((x, nI i), s) = some (.inr ((), s)))
    (hrd : ∀ N s, rd N s = ob (rf N s) fun _ s2 => itr (B N) N ((sgn s2, nI 0), s2))
    (HS : ∀ p z u W s, XR tb e p T z u W s → AS tb e (sub d p) rf p T z u W s dp) (HX : AX T rf) : (∀ p z u W s, XR tb e p T z u W s → AS tb e (chS tb e ops sub d p) rd p T z u W s (dp + 1)) ∧ AX T rd := by
  have hbd : ∀ {s s2 : cS} {q : Unit × cS}, Ev (fun N => rf N s) ((), s2) → EL B ((sgn s2, nI 0), s2) q → Ev (fun N => rd N s) q := by
    intro s s2 q k1 k2
    exact Ev.cg (Ev.bnd k1 (k := fun N _ s2 => itr (B N) N ((sgn s2, nI 0), s2)) k2.ev) (fun N => hrd N s)
  refine ⟨fun p z u W s h => ?_, fun f w s h => ?_⟩
  · have hA := HS p z u W s h
    unfold chS
    cases hx : sub d p with
    | inr y =>
      obtain ⟨f, w⟩ := y
      rw [hx] at hA
      obtain ⟨s2, b1, b2, b3⟩ := hA
      refine ⟨s2, hbd b1 (EL.en (Ev.of fun N => hB2 N _ _ _ (Or.inr fun c hc z => ?_))), b2, b3⟩
      rw [b2.1.sg] at z
      have := hops c hc
      unfold opsL at this
      simp only [List.mem_cons, List.not_mem_nil, or_false] at this
      exact m1_ne (by omega) z
    | inl y =>
      obtain ⟨p1, L1⟩ := y
      rw [hx] at hA
      obtain ⟨b0, b0', s2, u2, W2, b1, b2, b4, b5, b6, b7, b3⟩ := hA
      have hI := A_lp hT hops hB1 hB2 HS HX 160 0 p1 L1 z u2 W2 s2 (by omega) b2 b6 (b7.mo (Nat.le_succ _))
      show AS tb e (lpS tb e ops sub 160 d p1 L1) rd p T z u W s (dp + 1)
      cases hy : lpS tb e ops sub 160 d p1 L1 with
      | inr y =>
        obtain ⟨f, w⟩ := y
        rw [hy] at hI
        obtain ⟨s', q1, q2, q3⟩ := hI
        exact ⟨s', hbd b1 q1, q2, b3.tr q3⟩
      | inl y =>
        obtain ⟨p2, L2⟩ := y
        rw [hy] at hI
        obtain ⟨q0, q0', s', u', W', q1, q2, q4, q5, q6, q7, q3⟩ := hI
        exact ⟨by omega, by omega, s', u', W', hbd b1 q1, q2, fun i hi => (q4 i hi).trans (b4 i hi), fun j hj => q5 j (b5 j hj), q6, q7, b3.tr q3⟩
  · obtain ⟨s2, b1, b2, b3⟩ := HX f w s h
    refine ⟨s2, hbd b1 (EL.en (Ev.of fun N => hB2 N _ _ _ (Or.inr fun c hc z => ?_))), b2, b3⟩
    rw [b2.1.sg] at z
    have := hops c hc
    unfold opsL at this
    simp only [List.mem_cons, List.not_mem_nil, or_false] at this
    exact m1_ne (by omega) z
end
