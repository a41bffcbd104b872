/-! loops that count, whole numbers in ints, what may change -/
theorem itr_cnt {V ρ : Type} {B : V → Option (V ⊕ ρ)} (st : Nat → V) {n : Nat} {q : ρ} (h1 : ∀ i, i < n → B (st i) = some (.inl (st (i + 1)))) (h2 : B (st n) = some (.inr q)) (a : Nat) (ha : a ≤ n) : ∀ N, n - a < N → itr B N (st a) = some q := by
  obtain ⟨q', h, hq⟩ := itr_inv (I := fun m v => ∃ i, v = st i ∧ i ≤ n ∧ m = n - i) (Q := fun q' => q' = q) (fun m v ⟨i, hv, hi, hm⟩ => by
    subst hv
    by_cases hin : i < n
    · exact Or.inl ⟨st (i + 1), n - (i + 1), h1 i hin, by omega, i + 1, rfl, by omega, rfl⟩
    · have : i = n := by omega
      subst this
      exact Or.inr ⟨q, h2, rfl⟩) (n - a) (st a) ⟨a, rfl, ha, rfl⟩
  subst hq
  exact h
/-- the same down -/
theorem itr_dn {V ρ : Type} {B : V → Option (V ⊕ ρ)} (st : Nat → V) {q : ρ} (h1 : ∀ i, B (st (i + 1)) = some (.inl (st i))) (h2 : B (st 0) = some (.inr q)) (a : Nat) : ∀ N, a < N → itr B N (st a) = some q := by
  have h := itr_cnt (B := B) (fun i => st (a - i)) (n := a) (q := q) (fun i hi => by
    have e : a - i = (a - (i + 1)) + 1 := by omega
    show B (st (a - i)) = some (.inl (st (a - (i + 1))))
    rw [e]; exact h1 _) (by show B (st (a - a)) = _; rw [Nat.sub_self]; exact h2) 0 (Nat.zero_le _)
  intro N hN
  exact h N (by omega)
/-- what may change: P; the law's references stand -/
def Fw (P : Nat → Nat → Prop) (s t : cS) : Prop := t.1 = s.1 ∧ (∀ o k, ¬ P o k → iG t o k = iG s o k) ∧ (∀ o k, ¬ P o k → lG t o k = lG s o k)
theorem Fw.rf {P : Nat → Nat → Prop} {s : cS} : Fw P s s := ⟨rfl, fun _ _ _ => rfl, fun _ _ _ => rfl⟩
theorem Fw.tr {P : Nat → Nat → Prop} {s t u : cS} (h : Fw P s t) (h' : Fw P t u) : Fw P s u := ⟨h'.1.trans h.1, fun o k z => (h'.2.1 o k z).trans (h.2.1 o k z), fun o k z => (h'.2.2 o k z).trans (h.2.2 o k z)⟩
theorem Fw.mo {P P' : Nat → Nat → Prop} {s t : cS} (h : Fw P s t) (hP : ∀ o k, P o k → P' o k) : Fw P' s t := ⟨h.1, fun o k z => h.2.1 o k fun y => z (hP o k y), fun o k z => h.2.2 o k fun y => z (hP o k y)⟩
theorem Fw.st {P : Nat → Nat → Prop} {s t : cS} {o k : Nat} {v : Int32} (h : Fw P s t) (hp : P o k) : Fw P s (iS t o k v) := by
  refine ⟨h.1, fun o' k' z => ?_, h.2.2⟩
  rw [← h.2.1 o' k' z, iG_if]
  by_cases e1 : o' = o
  · by_cases e2 : k' = k
    · subst e1 e2; exact absurd hp z
    · rw [if_pos e1, if_neg e2]
  · rw [if_neg e1]
theorem Fw.sl {P : Nat → Nat → Prop} {s t : cS} {o k : Nat} {v : Int64} (h : Fw P s t) (hp : P o k) : Fw P s (lS t o k v) := by
  refine ⟨h.1, h.2.1, fun o' k' z => ?_⟩
  rw [← h.2.2 o' k' z, lG_if]
  by_cases e1 : o' = o
  · by_cases e2 : k' = k
    · subst e1 e2; exact absurd hp z
    · rw [if_pos e1, if_neg e2]
  · rw [if_neg e1]
theorem Fw.int {P : Nat → Nat → Prop} {s t : cS} (h : Fw P s t) {o k : Nat} (hp : ¬ P o k) : iG t o k = iG s o k := h.2.1 o k hp
theorem Fw.lng {P : Nat → Nat → Prop} {s t : cS} (h : Fw P s t) {o k : Nat} (hp : ¬ P o k) : lG t o k = lG s o k := h.2.2 o k hp
/-- I looks at Q alone -/
def Rd (Q : Nat → Nat → Prop) (I : cS → Prop) : Prop := ∀ s t, (∀ o k, Q o k → iG t o k = iG s o k) → (∀ o k, Q o k → lG t o k = lG s o k) → I s → I t
theorem Rd.fw {Q P : Nat → Nat → Prop} {I : cS → Prop} (h : Rd Q I) {s t : cS} (f : Fw P s t) (hi : I s) (hd : ∀ o k, Q o k → ¬ P o k) : I t := h s t (fun o k q => f.2.1 o k (hd o k q)) (fun o k q => f.2.2 o k (hd o k q)) hi
/-! ints -/
theorem i_lit (n : Nat) : (OfNat.ofNat n : Int32) = nI n := rfl
theorem l_lit (n : Nat) : (OfNat.ofNat n : Int64) = lN n := rfl
theorem inb_n {i n : Nat} (hi : i < 2 ^ 31) : inb (nI i) n ↔ i < n := by
  constructor
  · intro h
    exact Nat.not_le.mp fun z => h (Or.inr (by rw [nI_clamp hi]; exact z))
  · rintro h (z | z)
    · exact nI_pos hi z
    · rw [nI_clamp hi] at z; omega
theorem aA_n {s : cS} {A n i : Nat} (h : i < n) (hn : i < 2 ^ 31) : aA s A n (nI i) = iG s A i := by
  unfold aA
  rw [if_pos ((inb_n hn).mpr h), nI_clamp hn]
theorem lA_n {s : cS} {A n i : Nat} (h : i < n) (hn : i < 2 ^ 31) : lA s A n (nI i) = lG s A i := by
  unfold lA
  rw [if_pos ((inb_n hn).mpr h), nI_clamp hn]
theorem pA_n {s : cS} {A n i : Nat} {x : Int32} (h : i < n) (hn : i < 2 ^ 31) : pA s A n (nI i) x = iS s A i x := by
  unfold pA
  rw [if_pos ((inb_n hn).mpr h), nI_clamp hn]
theorem plA_n {s : cS} {A n i : Nat} {x : Int64} (h : i < n) (hn : i < 2 ^ 31) : plA s A n (nI i) x = lS s A i x := by
  unfold plA
  rw [if_pos ((inb_n hn).mpr h), nI_clamp hn]
theorem wB_c (x : Int32) (m n : Nat) (hm : m < 2 ^ 31) (hn : n < 2 ^ 31) : wB x (nI m) (nI n) = 0 ∨ ∃ j, m ≤ j ∧ j ≤ n ∧ x = nI j ∧ wB x (nI m) (nI n) = 1 := by
  by_cases h : wB x (nI m) (nI n) = 0
  · exact Or.inl h
  · obtain ⟨h1, h2⟩ := wB_1 h
    have h3 : ¬ x < 0 := by
      rw [lti]
      have := lei.mp h1
      rw [nI_toInt hm] at this
      have h0 : (0 : Int32).toInt = 0 := rfl
      omega
    obtain ⟨j, hj, rfl⟩ := nI_of h3
    exact Or.inr ⟨j, (nI_leI hm hj).mp h1, (nI_leI hj hn).mp h2, rfl, (wB_bool _ _ _).resolve_left h⟩
/-- an index into what has n -/
theorem has_c (i : Int32) (n : Nat) (hn : n < 2 ^ 31) : ((if i < 0 then (0 : Int32) else if nI n ≤ i then (0 : Int32) else (1 : Int32)) = 0 ∧ lIn i.toInt64 (0 : Int64) ((nI n - (1 : Int32)).toInt64) = 0 ∧ ¬ ∃ j, j < n ∧ i = nI j) ∨ ∃ j, j < n ∧ i = nI j ∧ (if i < 0 then (0 : Int32) else if nI n ≤ i then (0 : Int32) else (1 : Int32)) = 1 ∧ lIn i.toInt64 (0 : Int64) ((nI n - (1 : Int32)).toInt64) = 1 := by
  have hn1 : (nI n - 1).toInt = (n : Int) - 1 := by
    have := nI_toInt hn
    rw [subi (by rw [this]; show _ ≤ (n : Int) - 1; omega) (by rw [this]; show (n : Int) - 1 < _; omega), this]
    rfl
  rw [lIn_w (a' := 0) (b' := nI n - 1) rfl l_i]
  by_cases c1 : i < 0
  · refine Or.inl ⟨by rw [if_pos c1], wB_0.mpr fun z => Int32.not_le.mpr c1 z.1, fun ⟨j, hj, e⟩ => nI_pos (n := j) (by omega) (by rw [← e]; exact c1)⟩
  · obtain ⟨j, hj, rfl⟩ := nI_of c1
    by_cases c2 : n ≤ j
    · refine Or.inl ⟨by rw [if_neg c1, if_pos ((nI_leI hn hj).mpr c2)], wB_0.mpr fun z => ?_, fun ⟨j', hj', e⟩ => ?_⟩
      · have := lei.mp z.2
        rw [hn1, nI_toInt hj] at this
        omega
      · have := (nI_eq hj (by omega)).mp e
        omega
    · refine Or.inr ⟨j, by omega, rfl, by rw [if_neg c1, if_neg (fun z => c2 ((nI_leI hn hj).mp z))], ?_⟩
      refine (wB_bool _ _ _).resolve_left fun z => wB_0.mp z ⟨Int32.not_lt.mp c1, lei.mpr ?_⟩
      rw [hn1, nI_toInt hj]
      omega
theorem itr_s {V ρ : Type} (B : V → Option (V ⊕ ρ)) (n : Nat) (v : V) : itr B (n + 1) v = (match B v with | none => none | some (Sum.inl v') => itr B n v' | some (Sum.inr q) => some q) := rfl
theorem itr_l {V ρ : Type} {B : V → Option (V ⊕ ρ)} {n : Nat} {v v' : V} (h : B v = some (.inl v')) : itr B (n + 1) v = itr B n v' := by rw [itr_s, h]
theorem itr_r {V ρ : Type} {B : V → Option (V ⊕ ρ)} {n : Nat} {v : V} {q : ρ} (h : B v = some (.inr q)) : itr B (n + 1) v = some q := by rw [itr_s, h]
theorem sb_mk' {β γ : Type} {s : β} {k : β → γ} : sb s k = k s := rfl
/-! longs -/
theorem lN_toI {n : Nat} (h : n < 2 ^ 63) : (lN n).toInt = (n : Int) := by
  exact Int64.toInt_ofNat_of_lt h
theorem lg_lt {x y : Int64} : lg_cmp x y < 0 ↔ x < y := by
  unfold lg_cmp
  by_cases h1 : y < x
  · have h2 : ¬ x < y := fun z => Int64.lt_irrefl (Int64.lt_trans h1 z)
    rw [if_pos h1]
    exact ⟨fun z => absurd z (by decide), fun z => absurd z h2⟩
  · rw [if_neg h1]
    by_cases h2 : x = y
    · rw [if_pos h2]
      exact ⟨fun z => absurd z (by decide), fun z => absurd z (by rw [h2]; exact Int64.lt_irrefl)⟩
    · rw [if_neg h2]
      exact ⟨fun _ => Int64.lt_of_le_of_ne (Int64.not_lt.mp h1) h2, fun _ => by decide⟩
theorem lg_gt {x y : Int64} : 0 < lg_cmp x y ↔ y < x := by
  unfold lg_cmp
  by_cases h1 : y < x
  · rw [if_pos h1]
    exact ⟨fun _ => h1, fun _ => by decide⟩
  · rw [if_neg h1]
    by_cases h2 : x = y
    · rw [if_pos h2]
      exact ⟨fun z => absurd z (by decide), fun z => absurd z h1⟩
    · rw [if_neg h2]
      exact ⟨fun z => absurd z (by decide), fun z => absurd z h1⟩
theorem lg_eq {x y : Int64} : lg_cmp x y = 0 ↔ x = y := by
  unfold lg_cmp
  by_cases h1 : y < x
  · rw [if_pos h1]
    exact ⟨fun z => absurd z (by decide), fun z => absurd h1 (by rw [z]; exact Int64.lt_irrefl)⟩
  · rw [if_neg h1]
    by_cases h2 : x = y
    · rw [if_pos h2]
      exact ⟨fun _ => h2, fun _ => rfl⟩
    · rw [if_neg h2]
      exact ⟨fun z => absurd z (by decide), fun z => absurd z h2⟩
theorem lg_le {x y : Int64} : lg_cmp x y ≤ 0 ↔ x ≤ y := by
  rw [← Int32.not_lt, lg_gt, Int64.not_lt]
theorem lg_ge {x y : Int64} : 0 ≤ lg_cmp x y ↔ y ≤ x := by
  rw [← Int32.not_lt, lg_lt, Int64.not_lt]
theorem llt {a b : Int64} : a < b ↔ a.toInt < b.toInt := Int64.lt_iff_toInt_lt
theorem lle {a b : Int64} : a ≤ b ↔ a.toInt ≤ b.toInt := Int64.le_iff_toInt_le
theorem leq {a b : Int64} : a = b ↔ a.toInt = b.toInt := Int64.toInt_inj.symm
theorem lN_ltn {a b : Nat} (ha : a < 2 ^ 63) (hb : b < 2 ^ 63) : lN a < lN b ↔ a < b := by
  rw [llt, lN_toI ha, lN_toI hb]; omega
theorem lN_len {a b : Nat} (ha : a < 2 ^ 63) (hb : b < 2 ^ 63) : lN a ≤ lN b ↔ a ≤ b := by
  rw [lle, lN_toI ha, lN_toI hb]; omega
theorem lN_eqn {a b : Nat} (ha : a < 2 ^ 63) (hb : b < 2 ^ 63) : lN a = lN b ↔ a = b := by
  rw [leq, lN_toI ha, lN_toI hb]; omega
/-- a sum, a product of the first n -/
def sumL (g : Nat → Int64) : Nat → Int64
  | 0 => 0
  | n + 1 => sumL g n + g n
def prodL (c : Int64) (g : Nat → Int64) : Nat → Int64
  | 0 => c
  | n + 1 => prodL c g n * g n
theorem sumL_eq {g g' : Nat → Int64} : ∀ n, (∀ i, i < n → g i = g' i) → sumL g n = sumL g' n
  | 0, _ => rfl
  | n + 1, h => by
    show sumL g n + g n = sumL g' n + g' n
    rw [sumL_eq n (fun i hi => h i (by omega)), h n (by omega)]
theorem prodL_eq {c : Int64} {g g' : Nat → Int64} : ∀ n, (∀ i, i < n → g i = g' i) → prodL c g n = prodL c g' n
  | 0, _ => rfl
  | n + 1, h => by
    show prodL c g n * g n = prodL c g' n * g' n
    rw [prodL_eq n (fun i hi => h i (by omega)), h n (by omega)]
