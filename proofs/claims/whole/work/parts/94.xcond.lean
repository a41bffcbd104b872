/-! the class's reader of conditions: skips that are led to their end -/
def hdv : List Nat → Int32
  | [] => -1
  | i :: _ => nI i
def hdr : List Nat → Nat
  | [] => 0
  | i :: _ => i + 1
theorem hdv_1 (sk : List Nat) : hdv sk + 1 = nI (hdr sk) := by
  cases sk with
  | nil => rfl
  | cons i r => exact nI_1 i
def lnk (k : Nat) (W : Nat → Nat × Nat) : List Nat → Prop
  | [] => True
  | i :: r => W i = (k, hdr r) ∧ (∀ j ∈ r, j < i) ∧ lnk k W r
theorem lnk.cg {k : Nat} {W W' : Nat → Nat × Nat} : ∀ {sk : List Nat}, lnk k W sk → (∀ i ∈ sk, W' i = W i) → lnk k W' sk
  | [], _, _ => trivial
  | i :: r, h, e => ⟨(e i List.mem_cons_self).trans h.1, h.2.1, h.2.2.cg fun j hj => e j (List.mem_cons_of_mem _ hj)⟩
theorem lnk.len {k : Nat} {W : Nat → Nat × Nat} : ∀ {sk : List Nat} {n : Nat}, lnk k W sk → (∀ i ∈ sk, i < n) → sk.length ≤ n
  | [], _, _, _ => Nat.zero_le _
  | i :: r, n, h, e => by
    have h1 := h.2.2.len h.2.1
    have h2 := e i List.mem_cons_self
    show r.length + 1 ≤ n
    omega
abbrev sB (T : Nat) (_ : Nat) (v : (Int32 × Int32) × cS) : Option (((Int32 × Int32) × cS) ⊕ (Unit × cS)) := b_X3_endSkipsHere_4 T v.1.1 v.1.2 v.2
theorem endS {T : Nat} (hT : T = 11 ∨ T = 19) {k z u : Nat} (hz : z ≤ 160) : ∀ (sk : List Nat) (i : Nat) (W : Nat → Nat × Nat) (s : cS), LR T z u W s → (∀ j ∈ sk, j < z) → i + sk.length ≤ 160 → lnk k W sk → ∃ s' W', EL (sB T) ((hdv sk, nI i), s) ((), s') ∧ LR T z u W' s' ∧ (∀ j ∈ sk, W' j = (k, z)) ∧ (∀ j, j ∉ sk → W' j = W j) ∧ Fw (xL T) s s'
  | [], i, W, s, h, _, hi, _ => by
    have hi' : i + 0 ≤ 160 := hi
    refine ⟨s, W, EL.en (Ev.of fun _ => ?_), h, fun j hj => (by cases hj), fun _ _ => rfl, Fw.rf⟩
    show b_X3_endSkipsHere_4 T (-1) (nI i) s = _
    unfold b_X3_endSkipsHere_4
    by_cases c : (160 : Int32) ≤ nI i
    · rw [if_pos c]; rfl
    · rw [if_neg c, if_pos (by decide)]; rfl
  | a :: r, i, W, s, h, hs, hi, hl => by
    have ha := hs a List.mem_cons_self
    have hi' : i + (r.length + 1) ≤ 160 := hi
    obtain ⟨l1, l2, l3⟩ := hl
    have hh := h
    obtain ⟨h1, h2, h3, h4, h5⟩ := h
    obtain ⟨w1, w2, w3⟩ := h3 a ha
    rw [l1] at w1 w2 w3
    have hL : LR T z u (upW W a (k, z)) (iS s (T + 1) a (stp (k, z))) := by
      refine ⟨h1, by rw [iG_ne (by omega)]; exact h2, fun j hj => ?_, by rw [iG_ne (by omega)]; exact h4, h5⟩
      by_cases c : j = a
      · subst c
        rw [iG_eq, upW_eq]
        exact ⟨rfl, w2, by show z < 1048576; omega⟩
      · rw [iG_nk c, upW_ne c]
        exact h3 j hj
    have hne : ∀ j ∈ r, j ≠ a := fun j hj => by have := l2 j hj; omega
    obtain ⟨s', W', e1, e2, e3, e4, e5⟩ := endS hT hz r (i + 1) _ _ hL (fun j hj => hs j (List.mem_cons_of_mem _ hj)) (by omega) (l3.cg fun j hj => upW_ne (hne j hj))
    refine ⟨s', W', EL.st (v' := ((hdv r, nI (i + 1)), iS s (T + 1) a (stp (k, z)))) (Ev.of fun _ => ?_) e1, e2, fun j hj => ?_, fun j hj => ?_, (Fw.rf.st (Or.inr rfl)).tr e5⟩
    · show b_X3_endSkipsHere_4 T (nI a) (nI i) s = _
      unfold b_X3_endSkipsHere_4
      have hr : nI (hdr r) - 1 = hdv r := by
        cases r with
        | nil => rfl
        | cons b r => exact nI_pred b
      rw [if_neg (c := (160 : Int32) ≤ nI i) (nI_ge (b := 160) (by omega) (by omega)), if_neg (c := nI a < 0) (nI_pos (by omega)), if_neg (c := (160 : Int32) ≤ nI a) (nI_ge (b := 160) (by omega) (by omega)), if_pos ((inb_n (by omega)).mpr (by omega)), nI_clamp (by omega), w1, h2, stp_e w2 w3 (by omega), stp_r w2 w3, sb_mk, nI_1]
      show some (Sum.inl ((nI (hdr r) - 1, nI (i + 1)), _)) = _
      rw [hr]
    · rcases List.mem_cons.mp hj with rfl | hj
      · by_cases c : j ∈ r
        · exact e3 j c
        · rw [e4 j c, upW_eq]
      · exact e3 j hj
    · have n1 : j ≠ a := fun z => hj (by rw [z]; exact List.mem_cons_self)
      rw [e4 j (fun z => hj (List.mem_cons_of_mem _ z)), upW_ne n1]
theorem endX (T : Nat) : ∀ (n i : Nat) (x : Int32) (s : cS), i + n = 160 → ∃ s', EL (sB T) ((x, nI i), s) ((), s') ∧ Fw (xL T) s s'
  | 0, i, x, s, hi => by
    refine ⟨s, EL.en (Ev.of fun _ => ?_), Fw.rf⟩
    show b_X3_endSkipsHere_4 T x (nI i) s = _
    unfold b_X3_endSkipsHere_4
    rw [if_pos (c := (160 : Int32) ≤ nI i) (nI_le (a := 160) (by omega) (by omega))]
    rfl
  | n + 1, i, x, s, hi => by
    by_cases c1 : x < 0
    · refine ⟨s, EL.en (Ev.of fun _ => ?_), Fw.rf⟩
      show b_X3_endSkipsHere_4 T x (nI i) s = _
      unfold b_X3_endSkipsHere_4
      rw [if_neg (c := (160 : Int32) ≤ nI i) (nI_ge (b := 160) (by omega) (by omega)), if_pos c1]
      rfl
    · by_cases c2 : (160 : Int32) ≤ x
      · refine ⟨s, EL.en (Ev.of fun _ => ?_), Fw.rf⟩
        show b_X3_endSkipsHere_4 T x (nI i) s = _
        unfold b_X3_endSkipsHere_4
        rw [if_neg (c := (160 : Int32) ≤ nI i) (nI_ge (b := 160) (by omega) (by omega)), if_neg c1, if_pos c2]
        rfl
      · have c3 : inb x 160 := (inb_iff (by decide)).mpr ⟨c1, Int32.not_le.mp c2⟩
        obtain ⟨s', e1, e2⟩ := endX T n (i + 1) ((iG s (T + 1) x.toNatClampNeg &&& 1048575) - 1) (iS s (T + 1) x.toNatClampNeg (((iG s (T + 1) x.toNatClampNeg) &&& (-1048576 : Int32)) ||| (iG s T 7))) (by omega)
        refine ⟨s', EL.st (Ev.of fun _ => ?_) e1, (Fw.rf.st (Or.inr rfl)).tr e2⟩
        show b_X3_endSkipsHere_4 T x (nI i) s = _
        unfold b_X3_endSkipsHere_4
        rw [if_neg (c := (160 : Int32) ≤ nI i) (nI_ge (b := 160) (by omega) (by omega)), if_neg c1, if_neg c2, if_pos c3, sb_mk, nI_1]
def AC (tb : Nat → Nat) (e : Nat) (x : PR) (rd : Nat → cS → Option (Unit × cS)) (p T z u : Nat) (W : Nat → Nat × Nat) (s : cS) (d : Nat) : Prop := match x with
  | .inl (p', L) => p + L.length ≤ p' ∧ p < p' ∧ ∃ s' u' W', Ev (fun N => rd N s) ((), s') ∧ XR tb e p' T (z + L.length) u' W' s' ∧ (∀ i, i < z → W' i = W i) ∧ (∀ j, u.testBit j = true → u'.testBit j = true) ∧ us u' L ∧ SemC W' z (z + L.length) L d ∧ Fw (xP T) s s'
  | .inr (f, w) => ∃ s', Ev (fun N => rd N s) ((), s') ∧ XB T f w s' ∧ Fw (xP T) s s'
def enB (N T : Nat) (x : Int32) (s : cS) : Option (Unit × cS) := if kd T 3 then ob (f_X3_endSkipsHere N T x s) fun _ s7 => some ((), s7) else none
def jnB (rf : Nat → cS → Option (Unit × cS)) (N k i : Nat) (x : Int32) (s : cS) : Option (((Int32 × Int32) × cS) ⊕ (Unit × cS)) := if kd s.1.2.2 3 then ob (rf N (f_X3_addSkip s.1.2.2 (nI k) x s).2) fun _ s19 => some (.inl (((f_X3_addSkip s.1.2.2 (nI k) x s).1, nI i + 1), s19)) else none
section
variable {tb : Nat → Nat} {e T : Nat}
theorem enB_ok (hT : T = 11 ∨ T = 19) {k z u : Nat} {sk : List Nat} {W : Nat → Nat × Nat} {s : cS} (hz : z ≤ 160) (h : LR T z u W s) (hs : ∀ j ∈ sk, j < z) (hl : lnk k W sk) : ∃ s' W', Ev (fun N => enB N s.1.2.2 (hdv sk) s) ((), s') ∧ LR T z u W' s' ∧ (∀ j ∈ sk, W' j = (k, z)) ∧ (∀ j, j ∉ sk → W' j = W j) ∧ Fw (xL T) s s' := by
  obtain ⟨s', W', e1, e2⟩ := endS hT hz sk 0 W s h hs (by have := hl.len hs; omega) hl
  refine ⟨s', W', ?_, e2⟩
  rw [h.1]
  unfold enB
  simp only [if_pos (kdT hT)]
  exact Ev.bnd (r := ()) (s := s') e1.ev (Ev.of fun _ => rfl)
theorem enB_x (hT : T = 11 ∨ T = 19) {f w : Nat} {x : Int32} {s : cS} (h : XB T f w s) : ∃ s', Ev (fun N => enB N s.1.2.2 x s) ((), s') ∧ XB T f w s' ∧ Fw (xL T) s s' := by
  obtain ⟨s', e1, e2⟩ := endX T 160 0 x s (by omega)
  refine ⟨s', ?_, h.l hT e2, e2⟩
  rw [h.2]
  unfold enB
  simp only [if_pos (kdT hT)]
  exact Ev.bnd (r := ()) (s := s') e1.ev (Ev.of fun _ => rfl)
theorem LR.skip (hT : T = 11 ∨ T = 19) {z u k : Nat} {sk : List Nat} {W : Nat → Nat × Nat} {s : cS} (h : LR T z u W s) (hz : z < 160) (hk : k < 2048) (hs : ∀ j ∈ sk, j < z) : ∃ s', f_X3_addSkip T (nI k) (hdv sk) s = (nI z, s') ∧ LR T (z + 1) u (upW W z (k, hdr sk)) s' ∧ Fw (xL T) s s' := by
  have hr : hdr sk < 1048576 := by
    cases sk with
    | nil => decide
    | cons i r =>
      have := hs i List.mem_cons_self
      show i + 1 < _
      omega
  obtain ⟨s', a1, a2, a3⟩ := h.add hT hz hk hr
  refine ⟨s', ?_, a2, a3⟩
  unfold f_X3_addSkip
  rw [hdv_1, a1, tb_mk, a2.2.1, nI_pred]
theorem A_lpj (hT : T = 11 ∨ T = 19) {B : pB2} {c k : Nat} (hkc : k = 5 ∧ c = 38 ∨ k = 4 ∧ c = 124) {rf : Nat → cS → Option (Unit × cS)} {sub : Nat → Nat → PR} {d dp : Nat}
    (hB1 : ∀ N s x i, i < 160 → sgn s = nI c → B N ((x, nI i), s) = jnB rf N k i x (f_X9_pass (nI c) s).2)
    (hB2 : ∀ N x i s, (160 ≤ i ∧ i < 200 ∨ ¬ sgn s = nI c) → B N ((x, nI i), s) = oR (enB N s.1.2.2 x s))
    (HS : ∀ p z u W s, XR tb e p T z u W s → AC tb e (sub d p) rf p T z u W s dp) (HX : AX T rf) : ∀ (kf i p : Nat) (L : Cd) (z0 u : Nat) (W : Nat → Nat × Nat) (sk : List Nat) (s : cS), i + kf = 160 → XR tb e p T (z0 + L.length) u W s → us u L → PCh k W z0 (z0 + L.length) sk L dp → lnk k W sk → match lpS tb e [c] sub kf d p L with
      | .inl (p', L') => p + L'.length ≤ p' + L.length ∧ p ≤ p' ∧ ∃ s' u' W', EL B ((hdv sk, nI i), s) ((), s') ∧ XR tb e p' T (z0 + L'.length) u' W' s' ∧ (∀ i, i < z0 → W' i = W i) ∧ (∀ j, u.testBit j = true → u'.testBit j = true) ∧ us u' L' ∧ SemC W' z0 (z0 + L'.length) L' dp ∧ Fw (xP T) s s'
      | .inr (f, w) => ∃ s', EL B ((hdv sk, nI i), s) ((), s') ∧ XB T f w s' ∧ Fw (xP T) s s' := by
  have hc256 : c < 256 ∧ 5 < c := by omega
  have hfin : ∀ (i p : Nat) (L : Cd) (z0 u : Nat) (W : Nat → Nat × Nat) (sk : List Nat) (s : cS), (160 ≤ i ∧ i < 200 ∨ ¬ sgn s = nI c) → XR tb e p T (z0 + L.length) u W s → us u L → PCh k W z0 (z0 + L.length) sk L dp → lnk k W sk → p + L.length ≤ p + L.length ∧ p ≤ p ∧ ∃ s' u' W', EL B ((hdv sk, nI i), s) ((), s') ∧ XR tb e p T (z0 + L.length) u' W' s' ∧ (∀ i, i < z0 → W' i = W i) ∧ (∀ j, u.testBit j = true → u'.testBit j = true) ∧ us u' L ∧ SemC W' z0 (z0 + L.length) L dp ∧ Fw (xP T) s s' := by
    intro i p L z0 u W sk s hi h hu hS hl
    have hple := h.1.2.2.2.2.1
    have hzp := h.2.2.1
    have he := h.2.2.2
    obtain ⟨s', W', e1, e2, e3, e4, e5⟩ := enB_ok hT (by omega) h.2.1 (fun j hj => (hS.2.2.2.1 j hj).2) hl
    refine ⟨by omega, by omega, s', u, W', EL.en (Ev.cg e1.ret (fun N => hB2 N _ i s hi)), ⟨h.1.l hT e5, e2, hzp, he⟩, fun j hj => e4 j (fun z => ?_), fun _ z => z, hu, hS.en (fun j _ _ hj => e4 j hj) e3, e5.xl⟩
    have := hS.2.2.2.1 j z
    omega
  intro kf
  induction kf with
  | zero =>
    intro i p L z0 u W sk s hi h hu hS hl
    exact hfin i p L z0 u W sk s (Or.inl (by omega)) h hu hS hl
  | succ kf ih =>
    intro i p L z0 u W sk s hi h hu hS hl
    by_cases hc : cq tb e p = c
    · have hcm : cq tb e p ∈ [c] := by rw [hc]; exact List.mem_singleton.mpr rfl
      unfold lpS
      rw [if_pos hcm]
      obtain ⟨hTR, hLR, hzp, he⟩ := h
      have hlt : p < e := cq_lt (tb := tb) (by omega)
      obtain ⟨s1, a1, a2, a3⟩ := hTR.pass hc hc256.1
      have hL1 := hLR.t hT a3
      have hsk : ∀ j ∈ sk, j < z0 + L.length := fun j hj => (hS.2.2.2.1 j hj).2
      obtain ⟨s2, c1, c2, c3⟩ := hL1.skip hT (k := k) (by omega) (by omega) hsk
      have hX2 : XR tb e (p + 1) T (z0 + L.length + 1) u (upW W (z0 + L.length) (k, hdr sk)) s2 := ⟨a2.l hT c3, c2, by omega, he⟩
      have hA := HS (p + 1) _ u _ s2 hX2
      have hgo : ∀ N, B N ((hdv sk, nI i), s) = ob (rf N s2) fun _ s19 => some (.inl ((nI (z0 + L.length), nI i + 1), s19)) := by
        intro N
        rw [hB1 N s _ i (by omega) ((hTR.is hc256.1).mpr hc), a1]
        unfold jnB
        dsimp only
        rw [hL1.1, if_pos (kdT hT), c1]
      have hPW : PCh k (upW W (z0 + L.length) (k, hdr sk)) z0 (z0 + L.length) sk L dp := hS.cg fun j _ hj _ => upW_ne (by omega)
      have hlW : lnk k (upW W (z0 + L.length) (k, hdr sk)) ((z0 + L.length) :: sk) := ⟨upW_eq, hsk, hl.cg fun j hj => upW_ne (by have := hsk j hj; omega)⟩
      cases hx : sub d (p + 1) with
      | inr y =>
        obtain ⟨f, w⟩ := y
        rw [hx] at hA
        obtain ⟨s3, b1, b2, b3⟩ := hA
        obtain ⟨s4, d1, d2, d3⟩ := enB_x hT (x := nI (z0 + L.length)) b2
        refine ⟨s4, EL.st (v' := ((nI (z0 + L.length), nI (i + 1)), s3)) (Ev.cg (Ev.bnd b1 (k := fun _ _ s19 => some (.inl ((nI (z0 + L.length), nI i + 1), s19))) (Ev.of fun N => by rw [nI_1])) hgo) (EL.en (Ev.cg d1.ret (fun N => hB2 N _ _ _ (Or.inr fun z => ?_)))), d2, a3.xt.tr (c3.xl.tr (b3.tr d3.xl))⟩
        rw [b2.1.sg] at z
        exact m1_ne (by omega) z
      | inl y =>
        obtain ⟨p1, L1⟩ := y
        rw [hx] at hA
        obtain ⟨b0, b0', s3, u3, W3, b1, b2, b4, b5, b6, b7, b3⟩ := hA
        have hlen : (L ++ L1 ++ [(cq tb e p, 0)]).length = L.length + L1.length + 1 := by simp; omega
        have hzl : z0 + L.length + 1 + L1.length = z0 + (L ++ L1 ++ [(cq tb e p, 0)]).length := by omega
        have hP3 : PCh k W3 z0 (z0 + L.length) sk L dp := hPW.cg fun j _ hj _ => b4 j (by omega)
        have hP4 := hP3.st hkc b7
        rw [← hc, hzl] at hP4
        rw [hzl] at b2
        have hI := ih (i + 1) p1 (L ++ L1 ++ [(cq tb e p, 0)]) z0 u3 W3 ((z0 + L.length) :: sk) s3 (by omega) b2 (((hu.mo b5).ap b6).ap (us.no (by omega))) hP4 (hlW.cg fun j hj => b4 j (by
          rcases List.mem_cons.mp hj with rfl | hj
          · omega
          · have := hsk j hj; omega))
        have hstep : ∀ {q}, EL B ((nI (z0 + L.length), nI (i + 1)), s3) q → EL B ((hdv sk, nI i), s) q := by
          intro q kq
          exact EL.st (v' := ((nI (z0 + L.length), nI (i + 1)), s3)) (Ev.cg (Ev.bnd b1 (k := fun _ _ s19 => some (.inl ((nI (z0 + L.length), nI i + 1), s19))) (Ev.of fun N => by rw [nI_1])) hgo) kq
        show match lpS tb e [c] sub kf d p1 (L ++ L1 ++ [(cq tb e p, 0)]) with
          | .inl (p', L') => p + L'.length ≤ p' + L.length ∧ p ≤ p' ∧ ∃ s' u' W', EL B ((hdv sk, nI i), s) ((), s') ∧ XR tb e p' T (z0 + L'.length) u' W' s' ∧ (∀ i, i < z0 → W' i = W i) ∧ (∀ j, u.testBit j = true → u'.testBit j = true) ∧ us u' L' ∧ SemC W' z0 (z0 + L'.length) L' dp ∧ Fw (xP T) s s'
          | .inr (f, w) => ∃ s', EL B ((hdv sk, nI i), s) ((), s') ∧ XB T f w s' ∧ Fw (xP T) s s'
        cases hy : lpS tb e [c] sub kf d p1 (L ++ L1 ++ [(cq tb e p, 0)]) with
        | inr y =>
          obtain ⟨f, w⟩ := y
          rw [hy] at hI
          obtain ⟨s', q1, q2, q3⟩ := hI
          exact ⟨s', hstep q1, q2, a3.xt.tr (c3.xl.tr (b3.tr q3))⟩
        | inl y =>
          obtain ⟨p2, L2⟩ := y
          rw [hy] at hI
          obtain ⟨q0, q0', s', u', W', q1, q2, q4, q5, q6, q7, q3⟩ := hI
          refine ⟨by omega, by omega, s', u', W', hstep q1, q2, fun i hi => ?_, fun j hj => q5 j (b5 j hj), q6, q7, a3.xt.tr (c3.xl.tr (b3.tr q3))⟩
          rw [q4 i hi, b4 i (by omega), upW_ne (by omega)]
    · rw [lpS_no (by simpa using hc)]
      exact hfin i p L z0 u W sk s (Or.inr fun z => hc ((h.1.is hc256.1).mp z)) h hu hS hl
theorem A_chj (hT : T = 11 ∨ T = 19) {B : pB2} {c k : Nat} (hkc : k = 5 ∧ c = 38 ∨ k = 4 ∧ c = 124) {rf rd : Nat → cS → Option (Unit × cS)} {sub : Nat → Nat → PR} {d dp : Nat}
    (hB1 : ∀ N s x i, i < 160 → sgn s = nI c → B N ((x, nI i), s) = jnB rf N k i x (f_X9_pass (nI c) s).2)
    (hB2 : ∀ N x i s, (160 ≤ i ∧ i < 200 ∨ ¬ sgn s = nI c) → B N ((x, nI i), s) = oR (enB N s.1.2.2 x s))
    (hrd : ∀ N s, rd N s = ob (rf N s) fun _ s2 => itr (B N) N ((-1, nI 0), s2))
    (HS : ∀ p z u W s, XR tb e p T z u W s → AC tb e (sub d p) rf p T z u W s dp) (HX : AX T rf) : (∀ p z u W s, XR tb e p T z u W s → AC tb e (chS tb e [c] sub d p) rd p T z u W s dp) ∧ AX T rd := by
  have hbd : ∀ {s s2 : cS} {q : Unit × cS}, Ev (fun N => rf N s) ((), s2) → EL B ((-1, nI 0), s2) q → Ev (fun N => rd N s) q := by
    intro s s2 q k1 k2
    exact Ev.cg (Ev.bnd k1 (k := fun N _ s2 => itr (B N) N ((-1, nI 0), s2)) k2.ev) (fun N => hrd N s)
  have hX : ∀ {f w : Nat} {s2 : cS}, XB T f w s2 → ∃ s', EL B ((-1, nI 0), s2) ((), s') ∧ XB T f w s' ∧ Fw (xP T) s2 s' := by
    intro f w s2 b2
    obtain ⟨s4, d1, d2, d3⟩ := enB_x hT (x := -1) b2
    refine ⟨s4, EL.en (Ev.cg d1.ret (fun N => hB2 N _ _ _ (Or.inr fun z => ?_))), d2, d3.xl⟩
    rw [b2.1.sg] at z
    exact m1_ne (by omega) z
  refine ⟨fun p z u W s h => ?_, fun f w s h => ?_⟩
  · have hA := HS p z u W s h
    unfold chS
    cases hx : sub d p with
    | inr y =>
      obtain ⟨f, w⟩ := y
      rw [hx] at hA
      obtain ⟨s2, b1, b2, b3⟩ := hA
      obtain ⟨s3, c1, c2, c3⟩ := hX b2
      exact ⟨s3, hbd b1 c1, c2, b3.tr c3⟩
    | inl y =>
      obtain ⟨p1, L1⟩ := y
      rw [hx] at hA
      obtain ⟨b0, b0', s2, u2, W2, b1, b2, b4, b5, b6, b7, b3⟩ := hA
      have hI := A_lpj hT hkc hB1 hB2 HS HX 160 0 p1 L1 z u2 W2 [] s2 (by omega) b2 b6 (PCh.bg b7) trivial
      show AC tb e (lpS tb e [c] sub 160 d p1 L1) rd p T z u W s dp
      cases hy : lpS tb e [c] sub 160 d p1 L1 with
      | inr y =>
        obtain ⟨f, w⟩ := y
        rw [hy] at hI
        obtain ⟨s', q1, q2, q3⟩ := hI
        exact ⟨s', hbd b1 q1, q2, b3.tr q3⟩
      | inl y =>
        obtain ⟨p2, L2⟩ := y
        rw [hy] at hI
        obtain ⟨q0, q0', s', u', W', q1, q2, q4, q5, q6, q7, q3⟩ := hI
        exact ⟨by omega, by omega, s', u', W', hbd b1 q1, q2, fun i hi => (q4 i hi).trans (b4 i hi), fun j hj => q5 j (b5 j hj), q6, q7, b3.tr q3⟩
  · obtain ⟨s2, b1, b2, b3⟩ := HX f w s h
    obtain ⟨s3, c1, c2, c3⟩ := hX b2
    exact ⟨s3, hbd b1 c1, c2, b3.tr c3⟩
end
