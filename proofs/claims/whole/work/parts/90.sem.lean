/-! what codes mean: a stack of what there is, none where it was refused -/
def arO (c : Nat) (a b : Int32) : Option Int32 :=
  if c = 37 then (if b = 0 then none else some (a - a / b * b))
  else if c = 42 then some (a * b)
  else if c = 43 then some (a + b)
  else if c = 45 then some (a - b)
  else if c = 47 then (if b = 0 then none else some (a / b))
  else if c = 60 then some (if b ≤ a then 0 else 1)
  else if c = 62 then some (if a ≤ b then 0 else 1)
  else some (if a = b then 1 else 0)
def biO (c : Nat) (a b : Option Int32) : Option Int32 :=
  if c = 38 then (match a with | none => none | some v => if v = 1 then b else some v)
  else if c = 124 then (match a with | none => none | some v => if v = 0 then b else some v)
  else match a, b with
    | some x, some y => arO c x y
    | _, _ => none
def opV (V : Nat → Int32) (x : Nat × Nat) (st : List (Option Int32)) : List (Option Int32) :=
  if x.1 = 0 then some (nI x.2) :: st
  else if x.1 = 1 then some (V x.2) :: st
  else if x.1 = 2 then (match st with | a :: r => a.map (fun v => 1 - v) :: r | [] => [])
  else match st with
    | b :: a :: r => biO x.1 a b :: r
    | r => r
def evV (V : Nat → Int32) (L : Cd) (st : List (Option Int32)) : List (Option Int32) := L.foldl (fun st x => opV V x st) st
def val (V : Nat → Int32) (L : Cd) : Option Int32 := (evV V L []).headD none
/-- how high the stack stands behind -/
def hts : Cd → Nat → Option Nat
  | [], h => some h
  | x :: L, h => if x.1 ≤ 1 then hts L (h + 1) else if x.1 = 2 then (if 1 ≤ h then hts L h else none) else (if 2 ≤ h ∧ x.1 < 256 then hts L (h - 1) else none)
theorem hts_app : ∀ (L L' : Cd) (h : Nat), hts (L ++ L') h = (hts L h).bind (hts L')
  | [], L', h => rfl
  | x :: L, L', h => by
    show hts (x :: (L ++ L')) h = _
    unfold hts
    split
    · exact hts_app L L' _
    · split
      · split
        · exact hts_app L L' _
        · rfl
      · split
        · exact hts_app L L' _
        · rfl
def Wf (L : Cd) : Prop := (∀ V st, evV V L st = val V L :: st) ∧ ∀ h, hts L h = some (h + 1)
theorem evV_app (V : Nat → Int32) (L L' : Cd) (st : List (Option Int32)) : evV V (L ++ L') st = evV V L' (evV V L st) := List.foldl_append
theorem Wf.of {L : Cd} {f : (Nat → Int32) → Option Int32} (h : ∀ V st, evV V L st = f V :: st) (h2 : ∀ h, hts L h = some (h + 1)) : Wf L ∧ ∀ V, val V L = f V := by
  have e : ∀ V, val V L = f V := fun V => by unfold val; rw [h]; rfl
  exact ⟨⟨fun V st => by rw [h, e], h2⟩, e⟩
theorem Wf.num (v : Nat) : Wf [(0, v)] ∧ ∀ V, val V [(0, v)] = some (nI v) := Wf.of (fun V st => rfl) fun h => rfl
theorem Wf.let (c : Nat) : Wf [(1, c)] ∧ ∀ V, val V [(1, c)] = some (V c) := Wf.of (fun V st => rfl) fun h => rfl
theorem Wf.not {L : Cd} (h : Wf L) : Wf (L ++ [(2, 0)]) ∧ ∀ V, val V (L ++ [(2, 0)]) = (val V L).map (fun v => 1 - v) := Wf.of (fun V st => by
  rw [evV_app, h.1]; rfl) fun k => by
  rw [hts_app, h.2]
  show hts [(2, 0)] (k + 1) = _
  unfold hts
  rw [if_neg (by show ¬ 2 ≤ 1; decide), if_pos rfl, if_pos (by omega)]
  rfl
theorem Wf.bin {L L' : Cd} (h : Wf L) (h' : Wf L') {c : Nat} (hc : 2 < c) (hc2 : c < 256) : Wf (L ++ L' ++ [(c, 0)]) ∧ ∀ V, val V (L ++ L' ++ [(c, 0)]) = biO c (val V L) (val V L') := Wf.of (fun V st => by
  rw [evV_app, evV_app, h.1, h'.1]
  show opV V (c, 0) _ = _
  unfold opV
  rw [if_neg (by show ¬ c = 0; omega), if_neg (by show ¬ c = 1; omega), if_neg (by show ¬ c = 2; omega)]) fun k => by
  rw [hts_app, hts_app, h.2]
  show ((hts L' (k + 1)).bind _) = _
  rw [h'.2]
  show hts [(c, 0)] (k + 1 + 1) = _
  unfold hts
  rw [if_neg (by show ¬ c ≤ 1; omega), if_neg (by show ¬ c = 2; omega), if_pos ⟨by omega, hc2⟩]
  rfl
theorem biO_ar {c : Nat} (h1 : c ≠ 38) (h2 : c ≠ 124) (a b : Option Int32) : biO c a b = (match a, b with | some x, some y => arO c x y | _, _ => none) := by
  unfold biO
  rw [if_neg h1, if_neg h2]
theorem arO_01 {c : Nat} (hc : c ∈ ([60, 62, 61] : List Nat)) (a b : Int32) : ∃ v, arO c a b = some v ∧ (v = 0 ∨ v = 1) := by
  simp only [List.mem_cons, List.not_mem_nil, or_false] at hc
  unfold arO
  rcases hc with rfl | rfl | rfl
  · rw [if_neg (by decide), if_neg (by decide), if_neg (by decide), if_neg (by decide), if_neg (by decide), if_pos rfl]
    exact ⟨_, rfl, by split <;> simp⟩
  · rw [if_neg (by decide), if_neg (by decide), if_neg (by decide), if_neg (by decide), if_neg (by decide), if_neg (by decide), if_pos rfl]
    exact ⟨_, rfl, by split <;> simp⟩
  · rw [if_neg (by decide), if_neg (by decide), if_neg (by decide), if_neg (by decide), if_neg (by decide), if_neg (by decide), if_neg (by decide)]
    exact ⟨_, rfl, by split <;> simp⟩
/-! the steps of the class: a small machine with a stack and what holds -/
abbrev kT3 : Type := Nat × List Int32 × Bool
def kSt (V : Nat → Int32) (x : Nat × Nat) (s : kT3) : Option kT3 :=
  if x.1 = 1 then (if s.2.1.length < 40 then some (s.1 + 1, nI x.2 :: s.2.1, s.2.2) else none)
  else if x.1 = 2 then (if s.2.1.length < 40 then some (s.1 + 1, V (lets.getD x.2 0) :: s.2.1, s.2.2) else none)
  else if x.1 = 3 then some (s.1 + 1, s.2.1, !s.2.2)
  else if x.1 = 4 then some (if s.2.2 = true then (if s.1 + 1 < x.2 then x.2 else s.1 + 1) else s.1 + 1, s.2.1, s.2.2)
  else if x.1 = 5 then some (if s.2.2 = true then s.1 + 1 else (if s.1 + 1 < x.2 then x.2 else s.1 + 1), s.2.1, s.2.2)
  else match s.2.1 with
    | y :: a :: r => (match arO x.1 a y with
        | none => none
        | some v => if x.1 ∈ opsL then some (s.1 + 1, v :: r, s.2.2) else some (s.1 + 1, r, decide (v = 1)))
    | _ => none
theorem kSt_2 {V : Nat → Int32} {j h : Nat} {st : List Int32} {b : Bool} : kSt V (2, j) (h, st, b) = (if st.length < 40 then some (h + 1, V (lets.getD j 0) :: st, b) else none) := rfl
theorem kSt_1 {V : Nat → Int32} {j h : Nat} {st : List Int32} {b : Bool} : kSt V (1, j) (h, st, b) = (if st.length < 40 then some (h + 1, nI j :: st, b) else none) := rfl
theorem kSt_3 {V : Nat → Int32} {j h : Nat} {st : List Int32} {b : Bool} : kSt V (3, j) (h, st, b) = some (h + 1, st, !b) := rfl
theorem kSt_4t {V : Nat → Int32} {j h : Nat} {st : List Int32} : kSt V (4, j) (h, st, true) = some (if h + 1 < j then j else h + 1, st, true) := rfl
theorem kSt_4f {V : Nat → Int32} {j h : Nat} {st : List Int32} : kSt V (4, j) (h, st, false) = some (h + 1, st, false) := rfl
theorem kSt_5f {V : Nat → Int32} {j h : Nat} {st : List Int32} : kSt V (5, j) (h, st, false) = some (if h + 1 < j then j else h + 1, st, false) := rfl
theorem kSt_5t {V : Nat → Int32} {j h : Nat} {st : List Int32} : kSt V (5, j) (h, st, true) = some (h + 1, st, true) := rfl
theorem mx_e {h e : Nat} (hh : h + 1 ≤ e) : (if h + 1 < e then e else h + 1) = e := by split <;> omega
def rn (W : Nat → Nat × Nat) (V : Nat → Int32) (to : Nat) : Nat → kT3 → Option kT3
  | 0, s => some s
  | n + 1, s => if to ≤ s.1 then some s else match kSt V (W s.1) s with
    | none => none
    | some t => rn W V to n t
def RS (W : Nat → Nat × Nat) (V : Nat → Int32) (to : Nat) (s : kT3) (q : Option kT3) : Prop := ∃ n, rn W V to n s = q
section
variable {W W' : Nat → Nat × Nat} {V : Nat → Int32} {to : Nat} {s t : kT3} {q : Option kT3}
theorem rn_end (h : to ≤ s.1) : ∀ n, rn W V to n s = some s
  | 0 => rfl
  | n + 1 => by unfold rn; rw [if_pos h]
theorem rn_add : ∀ (n m : Nat) (s : kT3), rn W V to (n + m) s = (rn W V to n s).bind (rn W V to m)
  | 0, m, s => by rw [Nat.zero_add]; rfl
  | n + 1, m, s => by
    rw [show n + 1 + m = (n + m) + 1 by omega]
    unfold rn
    by_cases h : to ≤ s.1
    · rw [if_pos h, if_pos h]
      exact (rn_end h m).symm
    · rw [if_neg h, if_neg h]
      cases kSt V (W s.1) s with
      | none => rfl
      | some t => exact rn_add n m t
theorem RS.rf : RS W V to s (some s) := ⟨0, rfl⟩
theorem RS.tr (h : RS W V to s (some t)) (k : RS W V to t q) : RS W V to s q := by
  obtain ⟨n, h⟩ := h
  obtain ⟨m, k⟩ := k
  exact ⟨n + m, by rw [rn_add, h]; exact k⟩
theorem RS.st (hlt : s.1 < to) (h : kSt V (W s.1) s = some t) (k : RS W V to t q) : RS W V to s q := by
  obtain ⟨n, k⟩ := k
  refine ⟨n + 1, ?_⟩
  unfold rn
  rw [if_neg (by omega), h]
  exact k
theorem RS.no (hlt : s.1 < to) (h : kSt V (W s.1) s = none) : RS W V to s none := by
  refine ⟨1, ?_⟩
  unfold rn
  rw [if_neg (by omega), h]
end
/-- the steps from z to z' push the value -/
def SemS (W : Nat → Nat × Nat) (z z' : Nat) (L : Cd) (d : Nat) : Prop := Wf L ∧ z ≤ z' ∧ ∀ W', (∀ i, z ≤ i → i < z' → W' i = W i) → ∀ V to st b, z' ≤ to → st.length + d ≤ 40 → RS W' V to (z, st, b) (match val V L with | some v => some (z', v :: st, b) | none => none)
/-- the steps from z to z' say whether it holds -/
def SemC (W : Nat → Nat × Nat) (z z' : Nat) (L : Cd) (d : Nat) : Prop := Wf L ∧ (∀ V v, val V L = some v → v = 0 ∨ v = 1) ∧ z ≤ z' ∧ ∀ W', (∀ i, z ≤ i → i < z' → W' i = W i) → ∀ V to st b, z' ≤ to → st.length + d ≤ 40 → RS W' V to (z, st, b) (match val V L with | some v => some (z', st, decide (v = 1)) | none => none)
theorem SemS.cg {W W1 : Nat → Nat × Nat} {z z' d : Nat} {L : Cd} (h : SemS W z z' L d) (e : ∀ i, z ≤ i → i < z' → W1 i = W i) : SemS W1 z z' L d :=
  ⟨h.1, h.2.1, fun W' hW => h.2.2 W' fun i a b => (hW i a b).trans (e i a b)⟩
theorem SemC.cg {W W1 : Nat → Nat × Nat} {z z' d : Nat} {L : Cd} (h : SemC W z z' L d) (e : ∀ i, z ≤ i → i < z' → W1 i = W i) : SemC W1 z z' L d :=
  ⟨h.1, h.2.1, h.2.2.1, fun W' hW => h.2.2.2 W' fun i a b => (hW i a b).trans (e i a b)⟩
theorem SemS.mo {W : Nat → Nat × Nat} {z z' d d' : Nat} {L : Cd} (h : SemS W z z' L d) (e : d ≤ d') : SemS W z z' L d' :=
  ⟨h.1, h.2.1, fun W' hW V to st b h1 h2 => h.2.2 W' hW V to st b h1 (by omega)⟩
theorem SemC.mo {W : Nat → Nat × Nat} {z z' d d' : Nat} {L : Cd} (h : SemC W z z' L d) (e : d ≤ d') : SemC W z z' L d' :=
  ⟨h.1, h.2.1, h.2.2.1, fun W' hW V to st b h1 h2 => h.2.2.2 W' hW V to st b h1 (by omega)⟩
theorem SemS.num {W : Nat → Nat × Nat} {z v : Nat} (h : W z = (1, v)) : SemS W z (z + 1) [(0, v)] 1 := by
  refine ⟨(Wf.num v).1, by omega, fun W' hW V to st b h1 h2 => ?_⟩
  rw [(Wf.num v).2 V]
  refine RS.st (t := (z + 1, nI v :: st, b)) (by show z < to; omega) ?_ RS.rf
  show kSt V (W' z) _ = _
  rw [hW z (by omega) (by omega), h, kSt_1, if_pos (by omega)]
theorem SemS.let {W : Nat → Nat × Nat} {z j c : Nat} (h : W z = (2, j)) (hj : lets.getD j 0 = c) : SemS W z (z + 1) [(1, c)] 1 := by
  refine ⟨(Wf.let c).1, by omega, fun W' hW V to st b h1 h2 => ?_⟩
  rw [(Wf.let c).2 V]
  refine RS.st (t := (z + 1, V c :: st, b)) (by show z < to; omega) ?_ RS.rf
  show kSt V (W' z) _ = _
  rw [hW z (by omega) (by omega), h, kSt_2, if_pos (by omega), hj]
theorem kSt_op {V : Nat → Int32} {c h : Nat} {x y : Int32} {st : List Int32} {b : Bool} (hc : 5 < c) : kSt V (c, 0) (h, y :: x :: st, b) = (match arO c x y with
    | none => none
    | some v => if c ∈ opsL then some (h + 1, v :: st, b) else some (h + 1, st, decide (v = 1))) := by
  unfold kSt
  rw [if_neg (by show ¬ c = 1; omega), if_neg (by show ¬ c = 2; omega), if_neg (by show ¬ c = 3; omega), if_neg (by show ¬ c = 4; omega), if_neg (by show ¬ c = 5; omega)]
theorem SemS.bin {W : Nat → Nat × Nat} {z z1 z2 c d1 d2 d : Nat} {L L' : Cd} (h : SemS W z z1 L d1) (h' : SemS W z1 z2 L' d2) (hW0 : W z2 = (c, 0)) (hc : c ∈ opsL) (hd : d1 ≤ d ∧ d2 + 1 ≤ d) : SemS W z (z2 + 1) (L ++ L' ++ [(c, 0)]) d := by
  have hc2 : c < 256 := by
    unfold opsL at hc
    simp only [List.mem_cons, List.not_mem_nil, or_false] at hc
    omega
  have hc' : 5 < c ∧ c ≠ 38 ∧ c ≠ 124 ∧ c ∉ ([60, 62, 61] : List Nat) := by
    unfold opsL at hc
    simp only [List.mem_cons, List.not_mem_nil, or_false] at hc ⊢
    omega
  have hB := Wf.bin h.1 h'.1 (c := c) (by omega) (by omega)
  have z01 := h.2.1
  have z12 := h'.2.1
  refine ⟨hB.1, by omega, fun W' hW V to st b h1 h2 => ?_⟩
  rw [hB.2 V, biO_ar hc'.2.1 hc'.2.2.1]
  have r1 := h.2.2 W' (fun i a b => hW i a (by omega)) V to st b (by omega) (by omega)
  cases hv : val V L with
  | none =>
    rw [hv] at r1
    exact r1
  | some x =>
    rw [hv] at r1
    have r2 := h'.2.2 W' (fun i a b => hW i (by omega) (by omega)) V to (x :: st) b (by omega) (by show st.length + 1 + d2 ≤ 40; omega)
    cases hv' : val V L' with
    | none =>
      rw [hv'] at r2
      exact r1.tr r2
    | some y =>
      rw [hv'] at r2
      refine r1.tr (r2.tr ?_)
      have hk := kSt_op (V := V) (h := z2) (x := x) (y := y) (st := st) (b := b) hc'.1
      show RS W' V to (z2, y :: x :: st, b) (match arO c x y with | some v => some (z2 + 1, v :: st, b) | none => none)
      cases ha : arO c x y with
      | none =>
        rw [ha] at hk
        exact RS.no (by show z2 < to; omega) (by show kSt V (W' z2) _ = _; rw [hW z2 (by omega) (by omega), hW0]; exact hk)
      | some v =>
        rw [ha] at hk
        dsimp only at hk
        rw [if_pos hc] at hk
        exact RS.st (by show z2 < to; omega) (by show kSt V (W' z2) _ = _; rw [hW z2 (by omega) (by omega), hW0]; exact hk) RS.rf
theorem SemC.cmp {W : Nat → Nat × Nat} {z z1 z2 c d1 d2 d : Nat} {L L' : Cd} (h : SemS W z z1 L d1) (h' : SemS W z1 z2 L' d2) (hW0 : W z2 = (c, 0)) (hc : c ∈ ([60, 62, 61] : List Nat)) (hd : d1 ≤ d ∧ d2 + 1 ≤ d) : SemC W z (z2 + 1) (L ++ L' ++ [(c, 0)]) d := by
  have hc2 := (sgL_no hc).2.2.2
  have hc' : 5 < c ∧ c ≠ 38 ∧ c ≠ 124 := by
    simp only [List.mem_cons, List.not_mem_nil, or_false] at hc
    omega
  have hB := Wf.bin h.1 h'.1 (c := c) (by omega) (by omega)
  have z01 := h.2.1
  have z12 := h'.2.1
  have hv01 : ∀ V, ∀ v, val V (L ++ L' ++ [(c, 0)]) = some v → v = 0 ∨ v = 1 := by
    intro V v hv
    rw [hB.2 V, biO_ar hc'.2.1 hc'.2.2] at hv
    cases hx : val V L with
    | none => rw [hx] at hv; cases hv
    | some x =>
      cases hy : val V L' with
      | none => rw [hx, hy] at hv; cases hv
      | some y =>
        rw [hx, hy] at hv
        obtain ⟨w, w1, w2⟩ := arO_01 hc x y
        have hv' : arO c x y = some v := hv
        rw [w1] at hv'
        cases hv'
        exact w2
  refine ⟨hB.1, hv01, by omega, fun W' hW V to st b h1 h2 => ?_⟩
  rw [hB.2 V, biO_ar hc'.2.1 hc'.2.2]
  have r1 := h.2.2 W' (fun i a b => hW i a (by omega)) V to st b (by omega) (by omega)
  cases hv : val V L with
  | none =>
    rw [hv] at r1
    exact r1
  | some x =>
    rw [hv] at r1
    have r2 := h'.2.2 W' (fun i a b => hW i (by omega) (by omega)) V to (x :: st) b (by omega) (by show st.length + 1 + d2 ≤ 40; omega)
    cases hv' : val V L' with
    | none =>
      rw [hv'] at r2
      exact r1.tr r2
    | some y =>
      rw [hv'] at r2
      refine r1.tr (r2.tr ?_)
      have hk := kSt_op (V := V) (h := z2) (x := x) (y := y) (st := st) (b := b) hc'.1
      show RS W' V to (z2, y :: x :: st, b) (match arO c x y with | some v => some (z2 + 1, st, decide (v = 1)) | none => none)
      obtain ⟨w, w1, w2⟩ := arO_01 hc x y
      rw [w1] at hk ⊢
      dsimp only at hk
      rw [if_neg (sgL_no hc).1] at hk
      exact RS.st (by show z2 < to; omega) (by show kSt V (W' z2) _ = _; rw [hW z2 (by omega) (by omega), hW0]; exact hk) RS.rf
theorem SemC.not {W : Nat → Nat × Nat} {z z1 d : Nat} {L : Cd} (h : SemC W z z1 L d) (hW0 : W z1 = (3, 0)) : SemC W z (z1 + 1) (L ++ [(2, 0)]) d := by
  have hB := Wf.not h.1
  have z01 := h.2.2.1
  have h01 : ∀ v : Int32, v = 0 ∨ v = 1 → (1 - v = 0 ∨ 1 - v = 1) ∧ (!decide (v = 1)) = decide (1 - v = 1) := by
    intro v hv
    rcases hv with rfl | rfl <;> decide
  refine ⟨hB.1, fun V v hv => ?_, by omega, fun W' hW V to st b h1 h2 => ?_⟩
  · rw [hB.2 V] at hv
    cases hx : val V L with
    | none => rw [hx] at hv; cases hv
    | some x =>
      rw [hx] at hv
      cases hv
      exact (h01 _ (h.2.1 V _ hx)).1
  · rw [hB.2 V]
    have r1 := h.2.2.2 W' (fun i a b => hW i a (by omega)) V to st b (by omega) h2
    cases hx : val V L with
    | none =>
      rw [hx] at r1
      exact r1
    | some x =>
      rw [hx] at r1
      refine r1.tr (RS.st (by show z1 < to; omega) ?_ RS.rf)
      show kSt V (W' z1) _ = _
      rw [hW z1 (by omega) (by omega), hW0, kSt_3, (h01 _ (h.2.1 V _ hx)).2]
/-- a chain that isn't closed yet: its skips sk, of the kind k, will lead to e -/
def PCh (k : Nat) (W : Nat → Nat × Nat) (z z1 : Nat) (sk : List Nat) (L : Cd) (d : Nat) : Prop := Wf L ∧ (∀ V v, val V L = some v → v = 0 ∨ v = 1) ∧ z ≤ z1 ∧ (∀ i ∈ sk, z ≤ i ∧ i < z1) ∧ ∀ W' e, z1 ≤ e → (∀ i, z ≤ i → i < z1 → i ∉ sk → W' i = W i) → (∀ i ∈ sk, W' i = (k, e)) → ∀ V to st b, e ≤ to → st.length + d ≤ 40 → match val V L with
    | some v => RS W' V to (z, st, b) (some (z1, st, decide (v = 1))) ∨ (decide (v = 1) = decide (k = 4) ∧ RS W' V to (z, st, b) (some (e, st, decide (v = 1))))
    | none => RS W' V to (z, st, b) none
theorem PCh.cg {k : Nat} {W W1 : Nat → Nat × Nat} {z z1 d : Nat} {sk : List Nat} {L : Cd} (h : PCh k W z z1 sk L d) (e : ∀ i, z ≤ i → i < z1 → i ∉ sk → W1 i = W i) : PCh k W1 z z1 sk L d :=
  ⟨h.1, h.2.1, h.2.2.1, h.2.2.2.1, fun W' e' he hW => h.2.2.2.2 W' e' he fun i a b c => (hW i a b c).trans (e i a b c)⟩
theorem PCh.bg {k : Nat} {W : Nat → Nat × Nat} {z z1 d : Nat} {L : Cd} (h : SemC W z z1 L d) : PCh k W z z1 [] L d := by
  refine ⟨h.1, h.2.1, h.2.2.1, (fun i hi => by cases hi), fun W' e he hW _ V to st b h1 h2 => ?_⟩
  have r := h.2.2.2 W' (fun i a b => hW i a b (by simp)) V to st b (by omega) h2
  cases hx : val V L with
  | none => rw [hx] at r; exact r
  | some v => rw [hx] at r; exact Or.inl r
theorem PCh.st {k c : Nat} (hkc : k = 5 ∧ c = 38 ∨ k = 4 ∧ c = 124) {W : Nat → Nat × Nat} {z z1 z2 d : Nat} {sk : List Nat} {L L' : Cd} (h : PCh k W z z1 sk L d) (h' : SemC W (z1 + 1) z2 L' d) : PCh k W z z2 (z1 :: sk) (L ++ L' ++ [(c, 0)]) d := by
  have hB := Wf.bin h.1 h'.1 (c := c) (by omega) (by omega)
  have z01 := h.2.2.1
  have z12 := h'.2.2.1
  have hval : ∀ V, val V (L ++ L' ++ [(c, 0)]) = (match val V L with | none => none | some v => if decide (v = 1) = decide (k = 4) then some v else val V L') := by
    intro V
    rw [hB.2 V]
    unfold biO
    cases hx : val V L with
    | none => rcases hkc with ⟨rfl, rfl⟩ | ⟨rfl, rfl⟩ <;> rfl
    | some v =>
      have h01 := h.2.1 V v hx
      rcases hkc with ⟨rfl, rfl⟩ | ⟨rfl, rfl⟩
      · rcases h01 with rfl | rfl <;> rfl
      · rcases h01 with rfl | rfl <;> rfl
  refine ⟨hB.1, fun V v hv => ?_, by omega, fun i hi => ?_, fun W' e he hW hsk V to st b h1 h2 => ?_⟩
  · rw [hval V] at hv
    cases hx : val V L with
    | none => rw [hx] at hv; cases hv
    | some x =>
      rw [hx] at hv
      dsimp only at hv
      split at hv
      · cases hv
        exact h.2.1 V _ hx
      · exact h'.2.1 V v hv
  · rcases List.mem_cons.mp hi with rfl | hi
    · exact ⟨z01, by omega⟩
    · have := h.2.2.2.1 i hi
      omega
  · have hz1 : W' z1 = (k, e) := hsk z1 List.mem_cons_self
    have r := h.2.2.2.2 W' e (by omega) (fun i a b c => hW i a (by omega) (by
      intro z
      rcases List.mem_cons.mp z with z | z
      · omega
      · exact c z)) (fun i hi => hsk i (List.mem_cons_of_mem _ hi)) V to st b h1 h2
    rw [hval V]
    cases hx : val V L with
    | none =>
      rw [hx] at r
      exact r
    | some v =>
      rw [hx] at r
      dsimp only at r ⊢
      by_cases hj : decide (v = 1) = decide (k = 4)
      · rw [if_pos hj]
        dsimp only
        rcases r with r | ⟨-, r⟩
        · refine Or.inr ⟨hj, r.tr (RS.st (by show z1 < to; omega) (t := (e, st, decide (v = 1))) ?_ RS.rf)⟩
          show kSt V (W' z1) _ = _
          rw [hz1]
          rcases hkc with ⟨rfl, rfl⟩ | ⟨rfl, rfl⟩
          · have hf : decide (v = 1) = false := hj
            rw [hf, kSt_5f, mx_e (by omega)]
          · have hf : decide (v = 1) = true := hj
            rw [hf, kSt_4t, mx_e (by omega)]
        · exact Or.inr ⟨hj, r⟩
      · rw [if_neg hj]
        have r1 : RS W' V to (z, st, b) (some (z1, st, decide (v = 1))) := by
          rcases r with r | ⟨z, -⟩
          · exact r
          · exact absurd z hj
        have r2 : RS W' V to (z, st, b) (some (z1 + 1, st, decide (v = 1))) := by
          refine r1.tr (RS.st (by show z1 < to; omega) ?_ RS.rf)
          show kSt V (W' z1) _ = _
          rw [hz1]
          rcases hkc with ⟨rfl, rfl⟩ | ⟨rfl, rfl⟩
          · have hf : decide (v = 1) = true := by
              cases hd : decide (v = 1)
              · rw [hd] at hj; exact absurd rfl hj
              · rfl
            rw [hf, kSt_5t]
          · have hf : decide (v = 1) = false := by
              cases hd : decide (v = 1)
              · rfl
              · rw [hd] at hj; exact absurd rfl hj
            rw [hf, kSt_4f]
        have r3 := h'.2.2.2 W' (fun i a b => hW i (by omega) b (by
          intro z
          rcases List.mem_cons.mp z with z | z
          · omega
          · have := h.2.2.2.1 i z
            omega)) V to st (decide (v = 1)) (by omega) h2
        cases hy : val V L' with
        | none =>
          rw [hy] at r3
          exact r2.tr r3
        | some v' =>
          rw [hy] at r3
          exact Or.inl (r2.tr r3)
theorem PCh.en {k : Nat} {W W1 : Nat → Nat × Nat} {z z1 d : Nat} {sk : List Nat} {L : Cd} (h : PCh k W z z1 sk L d) (h1 : ∀ i, z ≤ i → i < z1 → i ∉ sk → W1 i = W i) (h2 : ∀ i ∈ sk, W1 i = (k, z1)) : SemC W1 z z1 L d := by
  refine ⟨h.1, h.2.1, h.2.2.1, fun W' hW V to st b g1 g2 => ?_⟩
  have r := h.2.2.2.2 W' z1 (Nat.le_refl _) (fun i a b c => (hW i a b).trans (h1 i a b c)) (fun i hi => by
    have := h.2.2.2.1 i hi
    rw [hW i this.1 this.2, h2 i hi]) V to st b g1 g2
  cases hx : val V L with
  | none => rw [hx] at r; exact r
  | some v =>
    rw [hx] at r
    rcases r with r | ⟨-, r⟩ <;> exact r
