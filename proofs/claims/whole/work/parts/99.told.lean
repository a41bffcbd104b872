/-! what the law tells: of both -/
def cl (most y : Int32) : Int32 := if y < 0 then 0 else if most < y then most else y
def told (V : Nat → Int32) (l most : Int32) : List Cl → Int32
  | [] => 0
  | c :: r => if nI c.1 = l ∧ val V c.2.2 = some 1 then (match val V c.2.1 with | some y => cl most y | none => 0) else told V l most r
theorem cl_x {most y : Int32} (hm : 0 ≤ most) : (if (0 : Int32) < (if y < most then y else most) then (if y < most then y else most) else (0 : Int32)) = cl most y := by
  unfold cl
  have h0 : (0 : Int32).toInt = 0 := rfl
  have hm' := lei.mp hm
  by_cases c1 : y < most
  · rw [if_pos c1]
    have c1' := lti.mp c1
    by_cases c2 : 0 < y
    · rw [if_pos c2, if_neg (fun z => by have := lti.mp z; have := lti.mp c2; omega), if_neg (fun z => by have := lti.mp z; omega)]
    · rw [if_neg c2]
      by_cases c3 : y < 0
      · rw [if_pos c3]
      · rw [if_neg c3, if_neg (fun z => by have := lti.mp z; omega)]
        apply eqi.mpr
        have g1 : ¬ (0 : Int32).toInt < y.toInt := fun z => c2 (lti.mpr z)
        have g2 : ¬ y.toInt < (0 : Int32).toInt := fun z => c3 (lti.mpr z)
        omega
  · rw [if_neg c1]
    have c1' : ¬ y.toInt < most.toInt := fun z => c1 (lti.mpr z)
    have hyn : ¬ y < 0 := fun z => by have := lti.mp z; omega
    rw [if_neg hyn]
    by_cases c2 : 0 < most
    · rw [if_pos c2]
      by_cases c3 : most < y
      · rw [if_pos c3]
      · rw [if_neg c3]
        have c3' : ¬ most.toInt < y.toInt := fun z => c3 (lti.mpr z)
        apply eqi.mpr
        omega
    · rw [if_neg c2]
      have c2' : ¬ (0 : Int32).toInt < most.toInt := fun z => c2 (lti.mpr z)
      by_cases c3 : most < y
      · rw [if_pos c3]
        apply eqi.mpr
        omega
      · rw [if_neg c3]
        have c3' : ¬ most.toInt < y.toInt := fun z => c3 (lti.mpr z)
        apply eqi.mpr
        omega
theorem cl_m {most y : Int32} : (if 0 ≤ y then (if y ≤ most then y else most) else (0 : Int32)) = cl most y := by
  unfold cl
  by_cases c1 : 0 ≤ y
  · rw [if_pos c1, if_neg (Int32.not_lt.mpr c1)]
    by_cases c2 : y ≤ most
    · rw [if_pos c2, if_neg (Int32.not_lt.mpr c2)]
    · rw [if_neg c2, if_pos (Int32.not_le.mp c2)]
  · rw [if_neg c1, if_pos (Int32.not_le.mp c1)]
/-- the class -/
abbrev aB (T : Nat) (l most : Int32) (N : Nat) (v : Int32 × cS) : Option ((Int32 × cS) ⊕ (Int32 × cS)) := b_X3_amount_2 N T l most v.1 v.2
theorem x_amount {T : Nat} {V : Nat → Int32} (hV : V 0 = 0) {K : List Cl} {l most : Int32} (hm : 0 ≤ most) : ∀ (rest pre : List Cl) (s : cS), K = pre ++ rest → LwX K T s → (∀ j, j < 10 → iG s (T + 6) j = V (lets.getD j 0)) → ∃ s', EL (aB T l most) (nI pre.length, s) (told V l most rest, s') ∧ Fw (xR T) s s'
  | [], pre, s, hK, hL, hv => by
    obtain ⟨W, u, h1, h2, h3, h4, h5, h6, h7, h8, h9⟩ := hL
    have hlen : K.length = pre.length := by rw [hK]; simp
    refine ⟨s, EL.en (Ev.of fun N => ?_), Fw.rf⟩
    show b_X3_amount_2 N T l most (nI pre.length) s = _
    unfold b_X3_amount_2
    rw [h2, if_pos (nI_le (by omega) (by omega))]
    rfl
  | c :: rest, pre, s, hK, hL, hv => by
    have hL0 := hL
    obtain ⟨W, u, h1, h2, h3, h4, h5, h6, h7, h8, h9⟩ := hL
    have hlen : K.length = pre.length + (rest.length + 1) := by rw [hK]; simp
    have hi : K[pre.length]? = some c := by rw [hK]; simp
    obtain ⟨a1, a2, a3, a4⟩ := h4 _ _ hi
    obtain ⟨q1, q2⟩ := h8 _ _ hi
    have hle := cst_le hi
    have hrec : ∀ {s1 : cS}, Fw (xR T) s s1 → (∀ N, b_X3_amount_2 N T l most (nI pre.length) s = some (.inl (nI (pre.length + 1), s1)) ∨ True) → ∃ s', EL (aB T l most) (nI (pre.length + 1), s1) (told V l most rest, s') ∧ Fw (xR T) s1 s' := by
      intro s1 hF _
      have hp : (pre ++ [c]).length = pre.length + 1 := by simp
      have := x_amount hV hm (l := l) rest (pre ++ [c]) s1 (by rw [hK]; simp) (LwX.rd.fw hF hL0 fun o k z => by unfold lwQ at z; unfold xR; omega) (fun j hj => by rw [hF.int (by unfold xR; omega)]; exact hv j hj)
      rw [hp] at this
      exact this
    by_cases cl1 : nI c.1 = l
    · -- the condition
      have hrC := q2.2.2.2 W (fun _ _ _ => rfl) V (cst K pre.length + c.2.1.length + c.2.2.length) [] false (Nat.le_refl _) (by decide)
      have hgC := run_go (T := T) (n := (cds K).length) (s := s) hV h9 (by omega) h1 hv hrC (fun y hy => by
        cases hvv : val V c.2.2 with
        | none => rw [hvv] at hy; cases hy
        | some v => rw [hvv] at hy; cases hy; exact ⟨Nat.le_refl _, by show cst K pre.length + c.2.1.length + c.2.2.length < _; omega⟩)
      have hstep : ∀ {s1 : cS}, Ev (fun N => f_X3_run N T (nI (cst K pre.length + c.2.1.length)) (nI (cst K pre.length + c.2.1.length + c.2.2.length)) s) ((), s1) → ∀ {x : (Int32 × cS) ⊕ (Int32 × cS)}, Ev (fun N => if (iG s1 T 11) = 0 then j_X3_amount_98 T l most (nI pre.length) s1 else if (iG s1 T 12) = 0 then oR (ob (f_X3_run N T (iG s1 (T + 3) pre.length) (iG s1 (T + 4) pre.length) s1) fun _ s11 => if (iG s11 T 12) = 0 then some (((if (0 : Int32) < (if (iG s11 (T + 7) 0) < most then (iG s11 (T + 7) 0) else most) then (if (iG s11 (T + 7) 0) < most then (iG s11 (T + 7) 0) else most) else (0 : Int32)), s11)) else some (((0 : Int32), s11))) else j_X3_amount_98 T l most (nI pre.length) s1) x → Ev (fun N => aB T l most N (nI pre.length, s)) x := by
        intro s1 k1 x k2
        refine Ev.cg (Ev.bnd k1 (k := fun N _ s6 => if (iG s6 T 11) = 0 then j_X3_amount_98 T l most (nI pre.length) s6 else if (iG s6 T 12) = 0 then oR (ob (f_X3_run N T (iG s6 (T + 3) pre.length) (iG s6 (T + 4) pre.length) s6) fun _ s11 => if (iG s11 T 12) = 0 then some (((if (0 : Int32) < (if (iG s11 (T + 7) 0) < most then (iG s11 (T + 7) 0) else most) then (if (iG s11 (T + 7) 0) < most then (iG s11 (T + 7) 0) else most) else (0 : Int32)), s11)) else some (((0 : Int32), s11))) else j_X3_amount_98 T l most (nI pre.length) s6) k2) (fun N => ?_)
        show b_X3_amount_2 N T l most (nI pre.length) s = _
        unfold b_X3_amount_2
        rw [h2, if_neg (nI_ge (by omega) (by omega)), if_neg (c := (12 : Int32) ≤ nI pre.length) (nI_ge (b := 12) (by omega) (by omega)), if_pos ((inb_n (by omega)).mpr (by omega)), nI_clamp (by omega), a1, if_pos cl1, a3, a4]
      have hskip : ∀ {s1 : cS}, Ev (fun N => f_X3_run N T (nI (cst K pre.length + c.2.1.length)) (nI (cst K pre.length + c.2.1.length + c.2.2.length)) s) ((), s1) → Fw (xR T) s s1 → (iG s1 T 11 = 0 ∨ iG s1 T 12 = 1) → val V c.2.2 ≠ some 1 → ∃ s', EL (aB T l most) (nI pre.length, s) (told V l most (c :: rest), s') ∧ Fw (xR T) s s' := by
        intro s1 k1 hF hz hn
        obtain ⟨s', e1, e2⟩ := hrec hF (fun _ => Or.inr trivial)
        refine ⟨s', EL.st (v' := (nI (pre.length + 1), s1)) (hstep k1 (Ev.of fun N => ?_)) ?_, hF.tr e2⟩
        · unfold j_X3_amount_98
          rw [nI_1]
          by_cases z1 : iG s1 T 11 = 0
          · rw [if_pos z1]
          · rw [if_neg z1, hz.resolve_left z1, if_neg (by decide)]
        · unfold told
          rw [if_neg (fun z => hn z.2)]
          exact e1
      cases hvv : val V c.2.2 with
      | none =>
        rw [hvv] at hgC
        obtain ⟨s1, k1, k2, k3⟩ := hgC
        exact hskip k1 k3 (Or.inr k2) (by rw [hvv]; simp)
      | some v =>
        rw [hvv] at hgC
        obtain ⟨s1, k1, k2, k3⟩ := hgC
        by_cases hv1 : v = 1
        · subst hv1
          have hWd1 : Wd s1 T W (cds K).length := k2.2.2.2.2.2.2
          have h11 : iG s1 T 11 = 1 := k2.2.2.2.1
          have h12 : iG s1 T 12 = 0 := k2.2.2.2.2.1
          have hrS := q1.2.2 W (fun _ _ _ => rfl) V (cst K pre.length + c.2.1.length) [] false (Nat.le_refl _) (by decide)
          have hgS := run_go (T := T) (n := (cds K).length) (s := s1) hV h9 (by omega) hWd1 k2.2.2.2.2.2.1 hrS (fun y hy => by
            cases hvv : val V c.2.1 with
            | none => rw [hvv] at hy; cases hy
            | some v => rw [hvv] at hy; cases hy; exact ⟨Nat.le_refl _, by show cst K pre.length + c.2.1.length < _; omega⟩)
          have b2 : iG s1 (T + 3) pre.length = nI (cst K pre.length) := by rw [k3.int (by unfold xR; omega)]; exact a2
          have b3 : iG s1 (T + 4) pre.length = nI (cst K pre.length + c.2.1.length) := by rw [k3.int (by unfold xR; omega)]; exact a3
          have hend : ∀ {s2 : cS} {y : Int32}, Ev (fun N => f_X3_run N T (nI (cst K pre.length)) (nI (cst K pre.length + c.2.1.length)) s1) ((), s2) → (if (iG s2 T 12) = 0 then some (((if (0 : Int32) < (if (iG s2 (T + 7) 0) < most then (iG s2 (T + 7) 0) else most) then (if (iG s2 (T + 7) 0) < most then (iG s2 (T + 7) 0) else most) else (0 : Int32)), s2)) else some (((0 : Int32), s2))) = some (y, s2) → EL (aB T l most) (nI pre.length, s) (y, s2) := by
            intro s2 y w1 w2
            refine EL.en (hstep k1 ?_)
            refine Ev.cg (Ev.ret (Ev.bnd w1 (k := fun _ _ s11 => if (iG s11 T 12) = 0 then some (((if (0 : Int32) < (if (iG s11 (T + 7) 0) < most then (iG s11 (T + 7) 0) else most) then (if (iG s11 (T + 7) 0) < most then (iG s11 (T + 7) 0) else most) else (0 : Int32)), s11)) else some (((0 : Int32), s11))) (Ev.of fun N => w2))) (fun N => ?_)
            rw [h11, if_neg (by decide), h12, if_pos rfl, b2, b3]
          have ht : told V l most (c :: rest) = (match val V c.2.1 with | some y => cl most y | none => 0) := by
            unfold told
            rw [if_pos ⟨cl1, hvv⟩]
          rw [ht]
          cases hvs : val V c.2.1 with
          | none =>
            rw [hvs] at hgS
            obtain ⟨s2, m1, m2, m3⟩ := hgS
            exact ⟨s2, hend m1 (by rw [m2, if_neg (by decide)]), k3.tr m3⟩
          | some y =>
            rw [hvs] at hgS
            obtain ⟨s2, m1, m2, m3⟩ := hgS
            have hy : iG s2 (T + 7) 0 = y := m2.2.2.1.1
            have h12' : iG s2 T 12 = 0 := m2.2.2.2.2.1
            exact ⟨s2, hend m1 (by rw [h12', if_pos rfl, hy, cl_x hm]), k3.tr m3⟩
        · have h11 : iG s1 T 11 = 0 := by
            have : iG s1 T 11 = (if decide (v = 1) = true then 1 else 0) := k2.2.2.2.1
            rw [this, if_neg (by simpa using hv1)]
          exact hskip k1 k3 (Or.inl h11) (by rw [hvv]; simpa using hv1)
    · obtain ⟨s', e1, e2⟩ := hrec (s1 := s) Fw.rf (fun _ => Or.inr trivial)
      refine ⟨s', EL.st (v' := (nI (pre.length + 1), s)) (Ev.of fun N => ?_) ?_, e2⟩
      · show b_X3_amount_2 N T l most (nI pre.length) s = _
        unfold b_X3_amount_2 j_X3_amount_98
        rw [h2, if_neg (nI_ge (by omega) (by omega)), if_neg (c := (12 : Int32) ≤ nI pre.length) (nI_ge (b := 12) (by omega) (by omega)), if_pos ((inb_n (by omega)).mpr (by omega)), nI_clamp (by omega), a1, if_neg cl1, nI_1]
      · unfold told
        rw [if_neg (fun z => cl1 z.1)]
        exact e1
theorem x_told {T : Nat} {V : Nat → Int32} (hV : V 0 = 0) {K : List Cl} {l most : Int32} (hm : 0 ≤ most) {s : cS} (hL : LwX K T s) (hv : ∀ j, j < 10 → iG s (T + 6) j = V (lets.getD j 0)) : ∃ s', Ev (fun N => f_X3_amount N T l most s) (told V l most K, s') ∧ Fw (xR T) s s' := by
  obtain ⟨s', e1, e2⟩ := x_amount hV hm (l := l) K [] s rfl hL hv
  exact ⟨s', e1.ev, e2⟩
/-! the reference works its codes -/
def oAt (o : Option Int32) (i : Nat) (s : cS) : Prop := match o with
  | some v => iG s 216 i = 0 ∧ iG s 215 i = v
  | none => iG s 216 i = 1
def oW (o : Option Int32) (w f : Int32) : Prop := match o with
  | some v => f = 0 ∧ w = v
  | none => f = 1
def stO : List (Option Int32) → cS → Prop
  | [], _ => True
  | o :: r, s => oAt o r.length s ∧ stO r s
def mR (o k : Nat) : Prop := o = 215 ∨ o = 216
theorem stO_fr {s t : cS} : ∀ {r : List (Option Int32)}, stO r s → (∀ o i, (o = 215 ∨ o = 216) → i < r.length → iG t o i = iG s o i) → stO r t
  | [], _, _ => trivial
  | o :: r, h, e => by
    refine ⟨?_, stO_fr h.2 fun o' i ho hi => e o' i ho (by simp; omega)⟩
    have e1 := e 215 r.length (Or.inl rfl) (by simp)
    have e2 := e 216 r.length (Or.inr rfl) (by simp)
    have h1 := h.1
    cases o with
    | none =>
      have h1' : iG s 216 r.length = 1 := h1
      show iG t 216 r.length = 1
      rw [e2]; exact h1'
    | some v =>
      have h1' : iG s 216 r.length = 0 ∧ iG s 215 r.length = v := h1
      show iG t 216 r.length = 0 ∧ iG t 215 r.length = v
      rw [e1, e2]; exact h1'
/-- the values at hand -/
def VM (V : Nat → Int32) (s : cS) : Prop := ∀ c, c ∈ lets → f_X12_valueOf (nI c) s = some (V c, s)
theorem valueOf_fw {s t : cS} {x v : Int32} (hF : Fw mR s t) (h : f_X12_valueOf x s = some (v, s)) : f_X12_valueOf x t = some (v, t) := by
  unfold f_X12_valueOf at h ⊢
  have e : ∀ o k, o ≠ 215 → o ≠ 216 → iG t o k = iG s o k := fun o k a b => hF.int (by unfold mR; omega)
  simp only [e 193 _ (by decide) (by decide), e 195 _ (by decide) (by decide), e 196 _ (by decide) (by decide), e 197 _ (by decide) (by decide)]
  split at h
  · rename_i c; rw [if_pos c]; cases h; rfl
  · rename_i c; rw [if_neg c]
    split at h
    · rename_i c; rw [if_pos c]; cases h; rfl
    · rename_i c; rw [if_neg c]
      split at h
      · rename_i c; rw [if_pos c]
        split at h
        · rename_i c; rw [if_pos c]; cases h; rfl
        · cases h
      · rename_i c; rw [if_neg c]
        split at h
        · rename_i c; rw [if_pos c]; cases h; rfl
        · rename_i c; rw [if_neg c]
          split at h
          · rename_i c; rw [if_pos c]; cases h; rfl
          · rename_i c; rw [if_neg c]
            split at h
            · rename_i c; rw [if_pos c]; cases h; rfl
            · rename_i c; rw [if_neg c]
              split at h
              · rename_i c; rw [if_pos c]; cases h; rfl
              · rename_i c; rw [if_neg c]
                split at h
                · rename_i c; rw [if_pos c]
                  split at h
                  · rename_i c; rw [if_pos c]; cases h; rfl
                  · cases h
                · rename_i c; rw [if_neg c]
                  split at h
                  · rename_i c; rw [if_pos c]
                    split at h
                    · rename_i c; rw [if_pos c]; cases h; rfl
                    · cases h
                  · rename_i c; rw [if_neg c]; cases h; rfl
theorem VM.fw {V : Nat → Int32} {s t : cS} (h : VM V s) (hF : Fw mR s t) : VM V t := fun c hc => valueOf_fw hF (h c hc)
theorem worked_ar {c : Nat} (hc : c < 256) (a b : Int32) (s : cS) : match arO c a b with
    | some v => f_X12_worked (nI c) a b s = v ∧ ¬ ((c = 47 ∨ c = 37) ∧ b = 0)
    | none => (c = 47 ∨ c = 37) ∧ b = 0 := by
  have hx : ∀ n : Nat, n < 2 ^ 31 → (nI c = nI n ↔ c = n) := fun n hn => nI_eq (by omega) hn
  have x37 : nI c = 37 ↔ c = 37 := hx 37 (by decide)
  have x42 : nI c = 42 ↔ c = 42 := hx 42 (by decide)
  have x43 : nI c = 43 ↔ c = 43 := hx 43 (by decide)
  have x45 : nI c = 45 ↔ c = 45 := hx 45 (by decide)
  have x47 : nI c = 47 ↔ c = 47 := hx 47 (by decide)
  have x60 : nI c = 60 ↔ c = 60 := hx 60 (by decide)
  have x62 : nI c = 62 ↔ c = 62 := hx 62 (by decide)
  unfold arO f_X12_worked
  simp only [x37, x42, x43, x45, x47, x60, x62]
  by_cases c37 : c = 37
  · rw [if_pos c37, if_pos c37]
    by_cases hb : b = 0
    · rw [if_pos hb]
      exact ⟨Or.inr c37, hb⟩
    · rw [if_neg hb, if_neg hb]
      exact ⟨rfl, fun z => hb z.2⟩
  · rw [if_neg c37, if_neg c37]
    by_cases c42 : c = 42
    · rw [if_pos c42, if_pos c42]; exact ⟨rfl, fun z => by omega⟩
    · rw [if_neg c42, if_neg c42]
      by_cases c43 : c = 43
      · rw [if_pos c43, if_pos c43]; exact ⟨rfl, fun z => by omega⟩
      · rw [if_neg c43, if_neg c43]
        by_cases c45 : c = 45
        · rw [if_pos c45, if_pos c45]; exact ⟨rfl, fun z => by omega⟩
        · rw [if_neg c45, if_neg c45]
          by_cases c47 : c = 47
          · rw [if_pos c47, if_pos c47]
            by_cases hb : b = 0
            · rw [if_pos hb]
              exact ⟨Or.inl c47, hb⟩
            · rw [if_neg hb, if_neg hb]
              exact ⟨rfl, fun z => hb z.2⟩
          · rw [if_neg c47, if_neg c47]
            by_cases c60 : c = 60
            · rw [if_pos c60, if_pos c60]; exact ⟨rfl, fun z => by omega⟩
            · rw [if_neg c60, if_neg c60]
              by_cases c62 : c = 62
              · rw [if_pos c62, if_pos c62]; exact ⟨rfl, fun z => by omega⟩
              · rw [if_neg c62, if_neg c62]; exact ⟨rfl, fun z => by omega⟩
theorem does_ok {c : Nat} (hc : 2 < c) (hc2 : c < 256) {A B : Option Int32} {r : List (Option Int32)} {s : cS} (h : stO (B :: A :: r) s) (hr : r.length + 2 ≤ 200) : ∃ s', f_X12_does (nI c) (nI r.length) s = some ((), s') ∧ stO (biO c A B :: r) s' ∧ Fw mR s s' := by
  obtain ⟨hB, hA, hR⟩ := h
  have hA' : oAt A r.length s := hA
  have hB' : oAt B (r.length + 1) s := hB
  have ia : inb (nI r.length) 200 := (inb_n (by omega)).mpr (by omega)
  have ib : inb (nI (r.length + 1)) 200 := (inb_n (by omega)).mpr (by omega)
  have ca : (nI r.length).toNatClampNeg = r.length := nI_clamp (by omega)
  have cb : (nI (r.length + 1)).toNatClampNeg = r.length + 1 := nI_clamp (by omega)
  have x38 : nI c = 38 ↔ c = 38 := nI_eq (b := 38) (by omega) (by decide)
  have x124 : nI c = 124 ↔ c = 124 := nI_eq (b := 124) (by omega) (by decide)
  have x37 : nI c = 37 ↔ c = 37 := nI_eq (b := 37) (by omega) (by decide)
  have x47 : nI c = 47 ↔ c = 47 := nI_eq (b := 47) (by omega) (by decide)
  -- writing a place
  have hput : ∀ (w f : Int32), Fw mR s (iS (iS s 216 r.length f) 215 r.length w) ∧ ∀ o : Option Int32, oW o w f → stO (o :: r) (iS (iS s 216 r.length f) 215 r.length w) := by
    intro w f
    refine ⟨(Fw.rf.st (Or.inr rfl)).st (Or.inl rfl), fun o ho => ⟨?_, stO_fr hR fun o' i ho' hi => ?_⟩⟩
    · cases o with
      | none =>
        show iG (iS (iS s 216 r.length f) 215 r.length w) 216 r.length = 1
        rw [iG_ne (by decide), iG_eq]; exact ho
      | some v =>
        show iG (iS (iS s 216 r.length f) 215 r.length w) 216 r.length = 0 ∧ iG (iS (iS s 216 r.length f) 215 r.length w) 215 r.length = v
        rw [iG_ne (by decide), iG_eq, iG_eq]; exact ho
    · rcases ho' with rfl | rfl
      · rw [iG_nk (by omega), iG_ne (by decide)]
      · rw [iG_ne (by decide), iG_nk (by omega)]
  have hput2 : ∀ (w f : Int32), Fw mR s (iS (iS s 215 r.length w) 216 r.length f) ∧ ∀ o : Option Int32, oW o w f → stO (o :: r) (iS (iS s 215 r.length w) 216 r.length f) := by
    intro w f
    refine ⟨(Fw.rf.st (Or.inl rfl)).st (Or.inr rfl), fun o ho => ⟨?_, stO_fr hR fun o' i ho' hi => ?_⟩⟩
    · cases o with
      | none =>
        show iG (iS (iS s 215 r.length w) 216 r.length f) 216 r.length = 1
        rw [iG_eq]; exact ho
      | some v =>
        show iG (iS (iS s 215 r.length w) 216 r.length f) 216 r.length = 0 ∧ iG (iS (iS s 215 r.length w) 216 r.length f) 215 r.length = v
        rw [iG_eq, iG_ne (by decide), iG_eq]; exact ho
    · rcases ho' with rfl | rfl
      · rw [iG_ne (by decide), iG_nk (by omega)]
      · rw [iG_nk (by omega), iG_ne (by decide)]
  have h01 : iG s 216 (r.length + 1) = 0 ∨ iG s 216 (r.length + 1) = 1 := by
    cases B with
    | none => exact Or.inr hB'
    | some v => exact Or.inl hB'.1
  -- and, or
  have hjoin : ∀ y1 : Int32, (∀ v, A = some v → biO c A B = if v = y1 then B else some v) → (A = none → biO c A B = none) → ∃ s', (if iG s 216 r.length = 0 then j_X12_does_42 (nI r.length) (nI (r.length + 1)) (iG s 215 r.length) y1 s else some ((), s)) = some ((), s') ∧ stO (biO c A B :: r) s' ∧ Fw mR s s' := by
    intro y1 g1 g2
    cases A with
    | none =>
      have hA1 : iG s 216 r.length = 1 := hA'
      rw [hA1, if_neg (by decide), g2 rfl]
      exact ⟨s, rfl, ⟨hA1, hR⟩, Fw.rf⟩
    | some v =>
      obtain ⟨hA1, hA2⟩ := hA'
      rw [hA1, if_pos rfl, hA2, g1 v rfl]
      unfold j_X12_does_42
      by_cases z : v = y1
      · rw [if_pos z, if_pos z, if_pos ib, if_pos ia, ca, cb, sb_mk]
        have e1 : iG (iS s 215 r.length (iG s 215 (r.length + 1))) 216 (r.length + 1) = iG s 216 (r.length + 1) := by rw [iG_ne (by decide)]
        rw [e1, if_pos h01, sb_mk]
        obtain ⟨p1, p2⟩ := hput2 (iG s 215 (r.length + 1)) (iG s 216 (r.length + 1))
        refine ⟨_, rfl, p2 B ?_, p1⟩
        cases B with
        | none => exact hB'
        | some w => exact hB'
      · rw [if_neg z, if_neg z]
        exact ⟨s, rfl, ⟨⟨hA1, hA2⟩, hR⟩, Fw.rf⟩
  unfold f_X12_does
  rw [nI_1]
  unfold j_X12_does_16
  by_cases c38 : c = 38
  · subst c38
    obtain ⟨s', q⟩ := hjoin 1 (fun v hv => by rw [hv]; rfl) (fun hv => by rw [hv]; rfl)
    refine ⟨s', ?_, q.2⟩
    simp only [if_pos ia, ca, if_pos (show nI 38 = 38 from rfl)]
    exact q.1
  · rw [if_neg (fun z => c38 (x38.mp z))]
    by_cases c124 : c = 124
    · subst c124
      obtain ⟨s', q⟩ := hjoin 0 (fun v hv => by rw [hv]; rfl) (fun hv => by rw [hv]; rfl)
      refine ⟨s', ?_, q.2⟩
      simp only [if_pos ia, ca, if_pos (show nI 124 = 124 from rfl), if_neg (show ¬ nI 124 = 38 by decide)]
      exact q.1
    · rw [if_neg (fun z => c124 (x124.mp z)), biO_ar c38 c124]
      have h120 : ∀ y2 : Int32, (y2 = 0 ∨ y2 = 1) → j_X12_does_120 (nI c) (nI r.length) (nI (r.length + 1)) (nI r.length) y2 s = some ((), iS (iS s 216 r.length y2) 215 r.length (f_X12_worked (nI c) (iG s 215 r.length) (iG s 215 (r.length + 1)) (iS s 216 r.length y2))) := by
        intro y2 hy
        unfold j_X12_does_120
        have e1 : iG (iS s 216 r.length y2) 215 r.length = iG s 215 r.length := by rw [iG_ne (by decide)]
        have e2 : iG (iS s 216 r.length y2) 215 (r.length + 1) = iG s 215 (r.length + 1) := by rw [iG_ne (by decide)]
        simp only [if_pos ia, if_pos ib, if_pos hy, ca, cb, sb_mk, e1, e2]
      unfold j_X12_does_115 j_X12_does_119 j_X12_does_106
      simp only [if_pos ia, if_pos ib, j_X12_does_115, j_X12_does_119, h120 1 (Or.inr rfl), h120 0 (Or.inl rfl), ca, cb, x37, x47]
      cases A with
      | none =>
        have hA1 : iG s 216 r.length = 1 := hA'
        rw [hA1, if_neg (by decide)]
        obtain ⟨p1, p2⟩ := hput (f_X12_worked (nI c) (iG s 215 r.length) (iG s 215 (r.length + 1)) (iS s 216 r.length 1)) 1
        exact ⟨_, rfl, p2 none rfl, p1⟩
      | some a =>
        obtain ⟨hA1, hA2⟩ := hA'
        rw [hA1, if_pos rfl]
        cases B with
        | none =>
          have hB1 : iG s 216 (r.length + 1) = 1 := hB'
          rw [hB1, if_neg (by decide)]
          obtain ⟨p1, p2⟩ := hput (f_X12_worked (nI c) (iG s 215 r.length) (iG s 215 (r.length + 1)) (iS s 216 r.length 1)) 1
          exact ⟨_, rfl, p2 none rfl, p1⟩
        | some y =>
          obtain ⟨hB1, hB2⟩ := hB'
          rw [hB1, if_pos rfl, hA2, hB2]
          have hw1 := worked_ar hc2 a y (iS s 216 r.length 0)
          dsimp only
          by_cases zz : (c = 47 ∨ c = 37) ∧ y = 0
          · obtain ⟨p1, p2⟩ := hput (f_X12_worked (nI c) a y (iS s 216 r.length 1)) 1
            refine ⟨_, ?_, p2 _ ?_, p1⟩
            · by_cases c47 : c = 47
              · rw [if_pos c47, if_pos zz.2]
              · rw [if_neg c47, if_pos (zz.1.resolve_left c47), if_pos zz.2]
            · cases ha : arO c a y with
              | none => rfl
              | some v => rw [ha] at hw1; exact absurd zz hw1.2
          · obtain ⟨p1, p2⟩ := hput (f_X12_worked (nI c) a y (iS s 216 r.length 0)) 0
            refine ⟨_, ?_, p2 _ ?_, p1⟩
            · by_cases c47 : c = 47
              · rw [if_pos c47, if_neg (fun z => zz ⟨Or.inl c47, z⟩)]
              · rw [if_neg c47]
                by_cases c37 : c = 37
                · rw [if_pos c37, if_neg (fun z => zz ⟨Or.inr c37, z⟩)]
                · rw [if_neg c37]
            · cases ha : arO c a y with
              | none => rw [ha] at hw1; exact absurd hw1 zz
              | some v => rw [ha] at hw1; exact ⟨rfl, hw1.1⟩
