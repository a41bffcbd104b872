/-! the class works its steps -/
def stV : List Int32 → (Nat → Int32) → Prop
  | [], _ => True
  | v :: r, f => f r.length = v ∧ stV r f
theorem stV_fr {f g : Nat → Int32} : ∀ {r : List Int32}, stV r f → (∀ i, i < r.length → g i = f i) → stV r g
  | [], _, _ => trivial
  | v :: r, h, e => ⟨(e _ (by simp)).trans h.1, stV_fr h.2 fun i hi => e i (by simp; omega)⟩
def xR (T o k : Nat) : Prop := (o = T ∧ 10 ≤ k ∧ k ≤ 12) ∨ o = T + 7
def CR (T : Nat) (V : Nat → Int32) (W : Nat → Nat × Nat) (n : Nat) (x : kT3) (s : cS) : Prop := iG s T 10 = nI x.2.1.length ∧ x.2.1.length ≤ 40 ∧ stV x.2.1 (fun i => iG s (T + 7) i) ∧ iG s T 11 = (if x.2.2 = true then 1 else 0) ∧ iG s T 12 = 0 ∧ (∀ j, j < 10 → iG s (T + 6) j = V (lets.getD j 0)) ∧ Wd s T W n
section
variable {T n h : Nat} {V : Nat → Int32} {W : Nat → Nat × Nat} {st : List Int32} {b : Bool} {s : cS}
theorem CR.at (H : CR T V W n (h, st, b) s) (h' : Nat) : CR T V W n (h', st, b) s := H
/-- a change of the machine's own cells alone -/
theorem CR.of {x y : kT3} {t : cS} (H : CR T V W n x s) (hF : Fw (xR T) s t) (h1 : iG t T 10 = nI y.2.1.length) (h2 : y.2.1.length ≤ 40) (h3 : stV y.2.1 (fun i => iG t (T + 7) i)) (h4 : iG t T 11 = (if y.2.2 = true then 1 else 0)) (h5 : iG t T 12 = 0) : CR T V W n y t := by
  obtain ⟨-, -, -, -, -, g6, g7⟩ := H
  exact ⟨h1, h2, h3, h4, h5, fun j hj => by rw [hF.int (by unfold xR; omega)]; exact g6 j hj, fun i hi => by rw [hF.int (by unfold xR; omega)]; exact g7 i hi⟩
theorem run_push (H : CR T V W n (h, st, b) s) (v : Int32) : (st.length < 40 ∧ ∃ s', f_X3_push T v s = some ((), s') ∧ CR T V W n (h + 1, v :: st, b) s' ∧ Fw (xR T) s s') ∨ (¬ st.length < 40 ∧ ∃ s', f_X3_push T v s = some ((), s') ∧ iG s' T 12 = 1 ∧ Fw (xR T) s s') := by
  have HH := H
  obtain ⟨h1, h2, h3, h4, h5, h6, h7⟩ := H
  have h1' : iG s T 10 = nI st.length := h1
  have h2' : st.length ≤ 40 := h2
  unfold f_X3_push
  rw [h1', if_neg (nI_pos (by omega))]
  by_cases c : st.length < 40
  · refine Or.inl ⟨c, ?_⟩
    rw [if_neg (c := (40 : Int32) ≤ nI st.length) (nI_ge (b := 40) c (by omega)), if_pos ((inb_n (by omega)).mpr c), nI_clamp (by omega), sb_mk]
    have e1 : iG (iS s (T + 7) st.length v) T 10 = nI st.length := by rw [iG_ne (by omega), h1']
    rw [e1, nI_1, sb_mk]
    have hF : Fw (xR T) s (iS (iS s (T + 7) st.length v) T 10 (nI (st.length + 1))) := (Fw.rf.st (Or.inr rfl)).st (Or.inl ⟨rfl, by decide, by decide⟩)
    refine ⟨_, rfl, HH.of hF (by rw [iG_eq]; rfl) (by show st.length + 1 ≤ 40; omega) ⟨?_, stV_fr h3 fun i hi => ?_⟩ ?_ ?_, hF⟩
    · show iG (iS (iS s (T + 7) st.length v) T 10 (nI (st.length + 1))) (T + 7) st.length = v
      rw [iG_ne (by omega), iG_eq]
    · have hi' : i < st.length := hi
      show iG (iS (iS s (T + 7) st.length v) T 10 (nI (st.length + 1))) (T + 7) i = iG s (T + 7) i
      rw [iG_ne (by omega), iG_nk (by omega)]
    · rw [iG_nk (by omega), iG_ne (by omega)]; exact h4
    · rw [iG_nk (by omega), iG_ne (by omega)]; exact h5
  · refine Or.inr ⟨c, ?_⟩
    rw [if_pos (c := (40 : Int32) ≤ nI st.length) (nI_le (a := 40) (by omega) (by omega)), sb_mk]
    exact ⟨_, rfl, iG_eq, Fw.rf.st (Or.inl ⟨rfl, by decide, by decide⟩)⟩
theorem reck_0 (H : CR T V W n (h, st, b) s) (hl : st.length < 2) (c : Int32) : ∃ s', f_X3_reckon T c s = some ((), s') ∧ iG s' T 12 = 1 ∧ Fw (xR T) s s' := by
  have h1 : iG s T 10 = nI st.length := H.1
  unfold f_X3_reckon
  rw [h1, if_pos (c := nI st.length < 2) (nI_lt (b := 2) hl (by omega)), sb_mk]
  exact ⟨_, rfl, iG_eq, Fw.rf.st (Or.inl ⟨rfl, by decide, by decide⟩)⟩
theorem reck_52 {y a : Int32} {r : List Int32} (H : CR T V W n (h, y :: a :: r, b) s) {c : Nat} (hc : c < 2048) (h0 : c = 37 ∨ c = 47 → y ≠ 0) : ∃ v s', arO c a y = some v ∧ j_X3_reckon_52 T (nI c) s = some ((), s') ∧ CR T V W n (if c ∈ opsL then (h + 1, v :: r, b) else (h + 1, r, decide (v = 1))) s' ∧ Fw (xR T) s s' := by
  have HH := H
  obtain ⟨h1, h2, ⟨h3, h3', h3''⟩, h4, h5, h6, h7⟩ := H
  have h1' : iG s T 10 = nI (r.length + 1 + 1) := h1
  have h2' : r.length + 2 ≤ 40 := h2
  have h3a : iG s (T + 7) (r.length + 1) = y := h3
  have h3b : iG s (T + 7) r.length = a := h3'
  have t1 : nI (r.length + 1 + 1) - 1 = nI (r.length + 1) := nI_pred _
  have t2 : nI (r.length + 1 + 1) - 2 = nI r.length := by
    show nI (r.length + 1 + 1) - nI 2 = _
    rw [pk_sub (by omega)]
    congr 1
  have hx : ∀ n : Nat, n < 2 ^ 31 → (nI c = nI n ↔ c = n) := fun n hn => nI_eq (by omega) hn
  have x37 : nI c = 37 ↔ c = 37 := hx 37 (by decide)
  have x42 : nI c = 42 ↔ c = 42 := hx 42 (by decide)
  have x43 : nI c = 43 ↔ c = 43 := hx 43 (by decide)
  have x45 : nI c = 45 ↔ c = 45 := hx 45 (by decide)
  have x47 : nI c = 47 ↔ c = 47 := hx 47 (by decide)
  have x60 : nI c = 60 ↔ c = 60 := hx 60 (by decide)
  have x62 : nI c = 62 ↔ c = 62 := hx 62 (by decide)
  have e10 : iG (iS s T 10 (nI (r.length + 1))) T 10 - 1 = nI r.length := by rw [iG_eq, nI_pred]
  -- a value
  have hval : ∀ v : Int32, Fw (xR T) s (iS (iS s T 10 (nI (r.length + 1))) (T + 7) r.length v) ∧ CR T V W n (h + 1, v :: r, b) (iS (iS s T 10 (nI (r.length + 1))) (T + 7) r.length v) := by
    intro v
    have hF : Fw (xR T) s (iS (iS s T 10 (nI (r.length + 1))) (T + 7) r.length v) := (Fw.rf.st (Or.inl ⟨rfl, by decide, by decide⟩)).st (Or.inr rfl)
    refine ⟨hF, HH.of hF (by rw [iG_ne (by omega), iG_eq]; rfl) (by show r.length + 1 ≤ 40; omega) ⟨iG_eq, stV_fr h3'' fun i hi => ?_⟩ ?_ ?_⟩
    · have hi' : i < r.length := hi
      show iG (iS (iS s T 10 (nI (r.length + 1))) (T + 7) r.length v) (T + 7) i = iG s (T + 7) i
      rw [iG_nk (by omega), iG_ne (by omega)]
    · rw [iG_ne (by omega), iG_nk (by omega)]; exact h4
    · rw [iG_ne (by omega), iG_nk (by omega)]; exact h5
  -- what holds
  have hcmp : ∀ w : Int32, (w = 0 ∨ w = 1) → ∃ s', j_X3_reckon_278 T T w (iS s T 10 (nI (r.length + 1))) = some ((), s') ∧ CR T V W n (h + 1, r, decide (w = 1)) s' ∧ Fw (xR T) s s' := by
    intro w hw
    have hF : Fw (xR T) s (iS (iS (iS s T 10 (nI (r.length + 1))) T 11 w) T 10 (nI r.length)) := ((Fw.rf.st (Or.inl ⟨rfl, by decide, by decide⟩)).st (Or.inl ⟨rfl, by decide, by decide⟩)).st (Or.inl ⟨rfl, by decide, by decide⟩)
    refine ⟨_, ?_, HH.of (y := (h + 1, r, decide (w = 1))) hF (by rw [iG_eq]) (by show r.length ≤ 40; omega) (stV_fr h3'' fun i hi => ?_) ?_ ?_, hF⟩
    · unfold j_X3_reckon_278
      have e1 : iG (iS (iS s T 10 (nI (r.length + 1))) T 11 w) T 10 = nI (r.length + 1) := by rw [iG_nk (by omega), iG_eq]
      rw [if_pos hw, sb_mk, e1, nI_pred, sb_mk]
    · have hi' : i < r.length := hi
      show iG (iS (iS (iS s T 10 (nI (r.length + 1))) T 11 w) T 10 (nI r.length)) (T + 7) i = iG s (T + 7) i
      rw [iG_ne (by omega), iG_ne (by omega), iG_ne (by omega)]
    · rw [iG_nk (by omega), iG_eq]
      rcases hw with rfl | rfl <;> rfl
    · rw [iG_nk (by omega), iG_nk (by omega), iG_nk (by omega)]; exact h5
  have hb1 : inb (nI (r.length + 1)) 40 := (inb_n (by omega)).mpr (by omega)
  have hb0 : inb (nI r.length) 40 := (inb_n (by omega)).mpr (by omega)
  unfold j_X3_reckon_52
  rw [h1', t1, t2, if_pos hb1, if_pos hb0, nI_clamp (by omega), nI_clamp (by omega), h3a, h3b, sb_mk]
  have e11 : (nI r.length).toNatClampNeg = r.length := nI_clamp (by omega)
  simp only [e10, e11, x37, x42, x43, x45, x47, x60, x62, if_pos hb0]
  unfold arO
  by_cases c37 : c = 37
  · have hy := h0 (Or.inl c37)
    simp only [if_pos c37, if_neg hy]
    obtain ⟨q1, q2⟩ := hval (a - a / y * y)
    refine ⟨_, _, rfl, rfl, ?_, q1⟩
    rw [if_pos (by rw [c37]; decide)]
    exact q2
  · simp only [if_neg c37]
    by_cases c42 : c = 42
    · simp only [if_pos c42]
      obtain ⟨q1, q2⟩ := hval (a * y)
      refine ⟨_, _, rfl, rfl, ?_, q1⟩
      rw [if_pos (by rw [c42]; decide)]
      exact q2
    · simp only [if_neg c42]
      by_cases c43 : c = 43
      · simp only [if_pos c43]
        obtain ⟨q1, q2⟩ := hval (a + y)
        refine ⟨_, _, rfl, rfl, ?_, q1⟩
        rw [if_pos (by rw [c43]; decide)]
        exact q2
      · simp only [if_neg c43]
        by_cases c45 : c = 45
        · simp only [if_pos c45]
          obtain ⟨q1, q2⟩ := hval (a - y)
          refine ⟨_, _, rfl, rfl, ?_, q1⟩
          rw [if_pos (by rw [c45]; decide)]
          exact q2
        · simp only [if_neg c45]
          by_cases c47 : c = 47
          · have hy := h0 (Or.inr c47)
            simp only [if_pos c47, if_neg hy]
            obtain ⟨q1, q2⟩ := hval (a / y)
            refine ⟨_, _, rfl, rfl, ?_, q1⟩
            rw [if_pos (by rw [c47]; decide)]
            exact q2
          · simp only [if_neg c47]
            have hno : c ∉ opsL := by
              unfold opsL
              simp only [List.mem_cons, List.not_mem_nil, or_false]
              omega
            have hfin : ∀ w : Int32, (w = 0 ∨ w = 1) → ∃ s', j_X3_reckon_278 T T w (iS s T 10 (nI (r.length + 1))) = some ((), s') ∧ CR T V W n (if c ∈ opsL then (h + 1, w :: r, b) else (h + 1, r, decide (w = 1))) s' ∧ Fw (xR T) s s' := by
              intro w hw
              rw [if_neg hno]
              exact hcmp w hw
            by_cases c60 : c = 60
            · simp only [if_pos c60]
              by_cases z : y ≤ a
              · obtain ⟨s', q⟩ := hfin 0 (Or.inl rfl)
                simp only [if_pos z]
                exact ⟨0, s', rfl, q⟩
              · obtain ⟨s', q⟩ := hfin 1 (Or.inr rfl)
                simp only [if_neg z]
                exact ⟨1, s', rfl, q⟩
            · simp only [if_neg c60]
              by_cases c62 : c = 62
              · simp only [if_pos c62]
                by_cases z : a ≤ y
                · obtain ⟨s', q⟩ := hfin 0 (Or.inl rfl)
                  simp only [if_pos z]
                  exact ⟨0, s', rfl, q⟩
                · obtain ⟨s', q⟩ := hfin 1 (Or.inr rfl)
                  simp only [if_neg z]
                  exact ⟨1, s', rfl, q⟩
              · simp only [if_neg c62]
                by_cases z : a = y
                · obtain ⟨s', q⟩ := hfin 1 (Or.inr rfl)
                  simp only [if_pos z]
                  exact ⟨1, s', rfl, q⟩
                · obtain ⟨s', q⟩ := hfin 0 (Or.inl rfl)
                  simp only [if_neg z]
                  exact ⟨0, s', rfl, q⟩
theorem reck_2 {y a : Int32} {r : List Int32} (H : CR T V W n (h, y :: a :: r, b) s) {c : Nat} (hc : c < 2048) : match arO c a y with
    | some v => ∃ s', f_X3_reckon T (nI c) s = some ((), s') ∧ CR T V W n (if c ∈ opsL then (h + 1, v :: r, b) else (h + 1, r, decide (v = 1))) s' ∧ Fw (xR T) s s'
    | none => ∃ s', f_X3_reckon T (nI c) s = some ((), s') ∧ iG s' T 12 = 1 ∧ Fw (xR T) s s' := by
  have h1' : iG s T 10 = nI (r.length + 1 + 1) := H.1
  have h2' : r.length + 2 ≤ 40 := H.2.1
  have h3a : iG s (T + 7) (r.length + 1) = y := H.2.2.1.1
  have t1 : nI (r.length + 1 + 1) - 1 = nI (r.length + 1) := nI_pred _
  have x37 : nI c = 37 ↔ c = 37 := nI_eq (b := 37) (by omega) (by decide)
  have x47 : nI c = 47 ↔ c = 47 := nI_eq (b := 47) (by omega) (by decide)
  have hR : f_X3_reckon T (nI c) s = if c = 47 ∨ c = 37 then j_X3_reckon_32 T (nI c) s else j_X3_reckon_52 T (nI c) s := by
    unfold f_X3_reckon
    rw [h1', if_neg (c := nI (r.length + 1 + 1) < 2) (nI_nlt (b := 2) (by omega) (by omega)), if_neg (c := (40 : Int32) < nI (r.length + 1 + 1)) (nI_nlt (a := 40) (by omega) (by omega))]
    simp only [x37, x47]
    by_cases c1 : c = 47
    · rw [if_pos c1, if_pos (Or.inl c1)]
    · rw [if_neg c1]
      by_cases c2 : c = 37
      · rw [if_pos c2, if_pos (Or.inr c2)]
      · rw [if_neg c2, if_neg (fun z => z.elim c1 c2)]
  by_cases cz : (c = 47 ∨ c = 37) ∧ y = 0
  · have ha : arO c a y = none := by
      unfold arO
      rcases cz.1 with rfl | rfl
      · rw [if_neg (by decide), if_neg (by decide), if_neg (by decide), if_neg (by decide), if_pos rfl, if_pos cz.2]
      · rw [if_pos rfl, if_pos cz.2]
    rw [ha, hR, if_pos cz.1]
    dsimp only
    unfold j_X3_reckon_32
    rw [h1', t1, if_pos ((inb_n (by omega)).mpr (by omega)), nI_clamp (by omega), h3a, if_pos cz.2, sb_mk]
    exact ⟨_, rfl, iG_eq, Fw.rf.st (Or.inl ⟨rfl, by decide, by decide⟩)⟩
  · obtain ⟨v, s', q1, q2, q3⟩ := reck_52 H hc (fun z hy => cz ⟨z.symm, hy⟩)
    rw [q1, hR]
    refine ⟨s', ?_, q3⟩
    by_cases c2 : c = 47 ∨ c = 37
    · rw [if_pos c2]
      unfold j_X3_reckon_32
      rw [h1', t1, if_pos ((inb_n (by omega)).mpr (by omega)), nI_clamp (by omega), h3a, if_neg (fun z => cz ⟨c2, z⟩), q2]
    · rw [if_neg c2, q2]
abbrev kB (T to : Nat) (_ : Nat) (v : Int32 × cS) : Option ((Int32 × cS) ⊕ (Unit × cS)) := b_X3_run_17 T (nI to) v.1 v.2
theorem run_st (hV : V 0 = 0) {to : Nat} (hn : n ≤ 160) (hh : h < n) (hto : h < to) (ht2 : to ≤ 160) (H : CR T V W n (h, st, b) s) : match kSt V (W h) (h, st, b) with
    | some t => ∃ s', b_X3_run_17 T (nI to) (nI h) s = some (.inl (nI t.1, s')) ∧ CR T V W n t s' ∧ Fw (xR T) s s'
    | none => ∃ x s', b_X3_run_17 T (nI to) (nI h) s = some (.inl (x, s')) ∧ iG s' T 12 = 1 ∧ Fw (xR T) s s' := by
  have HH := H
  obtain ⟨h1, h2, h3, h4, h5, h6, h7⟩ := H
  obtain ⟨w1, w2, w3⟩ := h7 h hh
  have hA : aA s (T + 1) 160 (nI h) = stp (W h) := by rw [aA_n (by omega) (by omega), w1]
  obtain ⟨k, r⟩ : ∃ k r, W h = (k, r) := ⟨(W h).1, (W h).2, rfl⟩
  obtain ⟨r, hW⟩ := r
  rw [hW] at hA w2 w3 ⊢
  have hk := stp_k (x := (k, r)) w2 w3
  have hr := stp_r (x := (k, r)) w2 w3
  have w2' : k < 2048 := w2
  have w3' : r < 1048576 := w3
  have hkr : stp (k, r) >>> ((20 : Int32) &&& 31) = nI k := hk
  have hrr : stp (k, r) &&& 1048575 = nI r := hr
  have hx : ∀ n : Nat, n < 2 ^ 31 → (nI k = nI n ↔ k = n) := fun n hn => nI_eq (by omega) hn
  have x1 : nI k = 1 ↔ k = 1 := hx 1 (by decide)
  have x2 : nI k = 2 ↔ k = 2 := hx 2 (by decide)
  have x3 : nI k = 3 ↔ k = 3 := hx 3 (by decide)
  have x4 : nI k = 4 ↔ k = 4 := hx 4 (by decide)
  have x5 : nI k = 5 ↔ k = 5 := hx 5 (by decide)
  unfold b_X3_run_17
  rw [if_neg (nI_ge hto (by omega)), h5, if_pos rfl, hA, hkr, hrr]
  simp only [x1, x2, x3, x4, x5]
  unfold j_X3_run_183
  by_cases c1 : k = 1
  · subst c1
    rw [if_pos rfl, kSt_1]
    rcases run_push HH (nI r) with ⟨z, s', q1, q2, q3⟩ | ⟨z, s', q1, q2, q3⟩
    · rw [if_pos z, ob_some q1, nI_1]
      exact ⟨s', rfl, q2, q3⟩
    · rw [if_neg z, ob_some q1]
      exact ⟨_, s', rfl, q2, q3⟩
  · rw [if_neg c1]
    by_cases c2 : k = 2
    · subst c2
      have hv : aA s (T + 6) 10 (nI r) = V (lets.getD r 0) := by
        by_cases hr10 : r < 10
        · rw [aA_n hr10 (by omega), h6 r hr10]
        · unfold aA
          rw [if_neg (fun z => hr10 ((inb_n (by omega)).mp z))]
          have : lets.getD r 0 = 0 := by
            have hl : lets.length = 10 := rfl
            rw [List.getD_eq_getElem?_getD, List.getElem?_eq_none (by omega)]
            rfl
          rw [this, hV]
      rw [if_pos rfl, kSt_2, hv]
      rcases run_push HH (V (lets.getD r 0)) with ⟨z, s', q1, q2, q3⟩ | ⟨z, s', q1, q2, q3⟩
      · rw [if_pos z, ob_some q1, nI_1]
        exact ⟨s', rfl, q2, q3⟩
      · rw [if_neg z, ob_some q1]
        exact ⟨_, s', rfl, q2, q3⟩
    · rw [if_neg c2]
      by_cases c3 : k = 3
      · subst c3
        rw [if_pos rfl, kSt_3]
        unfold j_X3_run_126 j_X3_run_183
        have hF : ∀ v, Fw (xR T) s (iS s T 11 v) := fun v => Fw.rf.st (Or.inl ⟨rfl, by decide, by decide⟩)
        have hC : ∀ (v : Int32) (b' : Bool), v = (if b' = true then 1 else 0) → CR T V W n (h + 1, st, b') (iS s T 11 v) := fun v b' hv => HH.of (hF v) (by rw [iG_nk (by omega)]; exact h1) h2 (stV_fr h3 fun i hi => by show iG (iS s T 11 v) (T + 7) i = _; rw [iG_ne (by omega)]) (by rw [iG_eq]; exact hv) (by rw [iG_nk (by omega)]; exact h5)
        rw [nI_1]
        cases b with
        | true =>
          have h4' : iG s T 11 = 1 := h4
          rw [h4', if_neg (c := (1 : Int32) = 0) (by decide), if_pos (Or.inl rfl), sb_mk]
          exact ⟨_, rfl, hC 0 false rfl, hF 0⟩
        | false =>
          have h4' : iG s T 11 = 0 := h4
          rw [h4', if_pos (c := (0 : Int32) = 0) rfl, if_pos (Or.inr rfl), sb_mk]
          exact ⟨_, rfl, hC 1 true rfl, hF 1⟩
      · rw [if_neg c3]
        have hmx : (if nI h + 1 < nI r then nI r else nI h + 1) = nI (if h + 1 < r then r else h + 1) := by
          rw [nI_1]
          by_cases z : h + 1 < r
          · rw [if_pos z, if_pos (nI_lt z (by omega))]
          · rw [if_neg z, if_neg (nI_nlt (by omega) (by omega))]
        by_cases c4 : k = 4
        · subst c4
          unfold j_X3_run_149 j_X3_run_183
          rw [if_pos rfl, hmx, nI_1]
          cases b with
          | true =>
            have h4' : iG s T 11 = 1 := h4
            rw [kSt_4t, h4', if_neg (c := (1 : Int32) = 0) (by decide)]
            exact ⟨s, rfl, HH.at _, Fw.rf⟩
          | false =>
            have h4' : iG s T 11 = 0 := h4
            rw [kSt_4f, h4', if_pos (c := (0 : Int32) = 0) rfl]
            exact ⟨s, rfl, HH.at _, Fw.rf⟩
        · rw [if_neg c4]
          by_cases c5 : k = 5
          · subst c5
            unfold j_X3_run_170 j_X3_run_183
            rw [if_pos rfl, hmx, nI_1]
            cases b with
            | true =>
              have h4' : iG s T 11 = 1 := h4
              rw [kSt_5t, h4', if_neg (c := (1 : Int32) = 0) (by decide)]
              exact ⟨s, rfl, HH.at _, Fw.rf⟩
            | false =>
              have h4' : iG s T 11 = 0 := h4
              rw [kSt_5f, h4', if_pos (c := (0 : Int32) = 0) rfl]
              exact ⟨s, rfl, HH.at _, Fw.rf⟩
          · rw [if_neg c5]
            unfold kSt
            rw [if_neg (c := (k, r).1 = 1) c1, if_neg (c := (k, r).1 = 2) c2, if_neg (c := (k, r).1 = 3) c3, if_neg (c := (k, r).1 = 4) c4, if_neg (c := (k, r).1 = 5) c5]
            dsimp only
            rcases st with _ | ⟨y, _ | ⟨a, st⟩⟩
            · obtain ⟨s', q1, q2, q3⟩ := reck_0 HH (by decide) (nI k)
              dsimp only
              rw [ob_some q1]
              exact ⟨_, s', rfl, q2, q3⟩
            · obtain ⟨s', q1, q2, q3⟩ := reck_0 HH (by show 1 < 2; decide) (nI k)
              dsimp only
              rw [ob_some q1]
              exact ⟨_, s', rfl, q2, q3⟩
            · have hq := reck_2 HH w2'
              dsimp only
              cases ha : arO k a y with
              | none =>
                rw [ha] at hq
                obtain ⟨s', q1, q2, q3⟩ := hq
                dsimp only
                rw [ob_some q1]
                exact ⟨_, s', rfl, q2, q3⟩
              | some v =>
                rw [ha] at hq
                obtain ⟨s', q1, q2, q3⟩ := hq
                dsimp only
                rw [ob_some q1, nI_1]
                by_cases z : k ∈ opsL
                · rw [if_pos z] at q2 ⊢
                  exact ⟨s', rfl, q2, q3⟩
                · rw [if_neg z] at q2 ⊢
                  exact ⟨s', rfl, q2, q3⟩
theorem run_sim (hV : V 0 = 0) {to : Nat} (hn : n ≤ 160) (ht : to ≤ n) : ∀ (m : Nat) (x : kT3) (s : cS), CR T V W n x s → match rn W V to m x with
    | some y => to ≤ y.1 → y.1 < 2 ^ 31 → ∃ s', EL (kB T to) (nI x.1, s) ((), s') ∧ CR T V W n y s' ∧ Fw (xR T) s s'
    | none => ∃ s', EL (kB T to) (nI x.1, s) ((), s') ∧ iG s' T 12 = 1 ∧ Fw (xR T) s s' := by
  intro m
  have hend : ∀ (x : kT3) (s : cS), CR T V W n x s → to ≤ x.1 → x.1 < 2 ^ 31 → ∃ s', EL (kB T to) (nI x.1, s) ((), s') ∧ CR T V W n x s' ∧ Fw (xR T) s s' := by
    intro x s H h1 h2
    refine ⟨s, EL.en (Ev.of fun _ => ?_), H, Fw.rf⟩
    show b_X3_run_17 T (nI to) (nI x.1) s = _
    unfold b_X3_run_17
    rw [if_pos (nI_le h1 (by omega))]
    rfl
  induction m with
  | zero =>
    intro x s H
    exact hend x s H
  | succ m ih =>
    intro x s H
    unfold rn
    by_cases c : to ≤ x.1
    · rw [if_pos c]
      exact hend x s H
    · rw [if_neg c]
      obtain ⟨h, st, b⟩ := x
      have c' : ¬ to ≤ h := c
      have hq := run_st hV hn (by omega) (by omega) (by omega) H (to := to)
      show match (match kSt V (W h) (h, st, b) with | none => none | some t => rn W V to m t) with
        | some y => to ≤ y.1 → y.1 < 2 ^ 31 → ∃ s', EL (kB T to) (nI h, s) ((), s') ∧ CR T V W n y s' ∧ Fw (xR T) s s'
        | none => ∃ s', EL (kB T to) (nI h, s) ((), s') ∧ iG s' T 12 = 1 ∧ Fw (xR T) s s'
      cases hk : kSt V (W h) (h, st, b) with
      | none =>
        rw [hk] at hq
        obtain ⟨x, s', q1, q2, q3⟩ := hq
        refine ⟨s', EL.st (v' := (x, s')) (Ev.of fun _ => q1) (EL.en (Ev.of fun _ => ?_)), q2, q3⟩
        show b_X3_run_17 T (nI to) x s' = _
        unfold b_X3_run_17
        by_cases z : nI to ≤ x
        · rw [if_pos z]; rfl
        · rw [if_neg z, q2, if_neg (by decide)]; rfl
      | some t =>
        rw [hk] at hq
        obtain ⟨s1, q1, q2, q3⟩ := hq
        have hI := ih t s1 q2
        dsimp only
        cases hy : rn W V to m t with
        | none =>
          rw [hy] at hI
          obtain ⟨s', e1, e2, e3⟩ := hI
          exact ⟨s', EL.st (v' := (nI t.1, s1)) (Ev.of fun _ => q1) e1, e2, q3.tr e3⟩
        | some y =>
          rw [hy] at hI
          intro g1 g2
          obtain ⟨s', e1, e2, e3⟩ := hI g1 g2
          exact ⟨s', EL.st (v' := (nI t.1, s1)) (Ev.of fun _ => q1) e1, e2, q3.tr e3⟩
/-- a run from its start -/
theorem run_go (hV : V 0 = 0) {fr to : Nat} (hn : n ≤ 160) (ht : to ≤ n) (hW : Wd s T W n) (hv : ∀ j, j < 10 → iG s (T + 6) j = V (lets.getD j 0)) {q : Option kT3} (hr : RS W V to (fr, [], false) q) (hq : ∀ y, q = some y → to ≤ y.1 ∧ y.1 < 2 ^ 31) : match q with
    | some y => ∃ s', Ev (fun N => f_X3_run N T (nI fr) (nI to) s) ((), s') ∧ CR T V W n y s' ∧ Fw (xR T) s s'
    | none => ∃ s', Ev (fun N => f_X3_run N T (nI fr) (nI to) s) ((), s') ∧ iG s' T 12 = 1 ∧ Fw (xR T) s s' := by
  generalize hs3 : iS (iS (iS s T 10 0) T 11 0) T 12 0 = s3
  have hF : Fw (xR T) s s3 := by
    rw [← hs3]
    exact ((Fw.rf.st (Or.inl ⟨rfl, by decide, by decide⟩)).st (Or.inl ⟨rfl, by decide, by decide⟩)).st (Or.inl ⟨rfl, by decide, by decide⟩)
  have H : CR T V W n (fr, [], false) s3 := by
    refine ⟨?_, Nat.zero_le _, trivial, ?_, ?_, fun j hj => ?_, fun i hi => ?_⟩
    · rw [← hs3, iG_nk (by omega), iG_nk (by omega), iG_eq]; rfl
    · rw [← hs3, iG_nk (by omega), iG_eq]; rfl
    · rw [← hs3, iG_eq]
    · rw [hF.int (by unfold xR; omega)]; exact hv j hj
    · rw [hF.int (by unfold xR; omega)]; exact hW i hi
  have hE : ∀ {q : Unit × cS}, EL (kB T to) (nI fr, s3) q → Ev (fun N => f_X3_run N T (nI fr) (nI to) s) q := by
    intro q kq
    refine Ev.cg kq.ev (fun N => ?_)
    unfold f_X3_run
    rw [sb_mk, sb_mk, sb_mk, hs3]
    rfl
  obtain ⟨m, hm⟩ := hr
  have hS := run_sim hV hn ht m _ s3 H
  rw [hm] at hS
  cases q with
  | none =>
    obtain ⟨s', e1, e2, e3⟩ := hS
    exact ⟨s', hE e1, e2, hF.tr e3⟩
  | some y =>
    obtain ⟨g1, g2⟩ := hq y rfl
    obtain ⟨s', e1, e2, e3⟩ := hS g1 g2
    exact ⟨s', hE e1, e2, hF.tr e3⟩
end
