/-! loops, frames, numbers: what the mathematics of the calls stands on -/
theorem itr_inv {V ρ : Type} {B : V → Option (V ⊕ ρ)} {I : Nat → V → Prop} {Q : ρ → Prop} (h : ∀ n v, I n v → (∃ v' m, B v = some (.inl v') ∧ m < n ∧ I m v') ∨ (∃ q, B v = some (.inr q) ∧ Q q)) : ∀ n v, I n v → ∃ q, (∀ N, n < N → itr B N v = some q) ∧ Q q := by
  intro n
  induction n using Nat.strongRecOn with
  | ind n ih =>
    intro v hv
    rcases h n v hv with ⟨v', m, h1, h2, h3⟩ | ⟨q, h1, h2⟩
    · obtain ⟨q, hq, hQ⟩ := ih m h2 v' h3
      refine ⟨q, fun N hN => ?_, hQ⟩
      obtain ⟨N', rfl⟩ : ∃ N', N = N' + 1 := ⟨N - 1, by omega⟩
      show (match B v with | none => none | some (.inl v') => itr B N' v' | some (.inr q) => some q) = some q
      rw [h1]
      exact hq N' (by omega)
    · refine ⟨q, fun N hN => ?_, h2⟩
      obtain ⟨N', rfl⟩ : ∃ N', N = N' + 1 := ⟨N - 1, by omega⟩
      show (match B v with | none => none | some (.inl v') => itr B N' v' | some (.inr q) => some q) = some q
      rw [h1]
/-- two loops, step by step side by side -/
theorem itr_sim {V V' ρ ρ' : Type} {B : V → Option (V ⊕ ρ)} {B' : V' → Option (V' ⊕ ρ')} {I : Nat → V → V' → Prop} {Q : ρ → ρ' → Prop} (h : ∀ n v w, I n v w → (∃ v' w' m, B v = some (.inl v') ∧ B' w = some (.inl w') ∧ m < n ∧ I m v' w') ∨ (∃ q q', B v = some (.inr q) ∧ B' w = some (.inr q') ∧ Q q q')) : ∀ n v w, I n v w → ∃ q q', (∀ N, n < N → itr B N v = some q) ∧ (∀ N, n < N → itr B' N w = some q') ∧ Q q q' := by
  intro n
  induction n using Nat.strongRecOn with
  | ind n ih =>
    intro v w hv
    rcases h n v w hv with ⟨v', w', m, h1, h1', h2, h3⟩ | ⟨q, q', h1, h1', h2⟩
    · obtain ⟨q, q', hq, hq', hQ⟩ := ih m h2 v' w' h3
      refine ⟨q, q', fun N hN => ?_, fun N hN => ?_, hQ⟩
      · obtain ⟨N', rfl⟩ : ∃ N', N = N' + 1 := ⟨N - 1, by omega⟩
        show (match B v with | none => none | some (.inl v') => itr B N' v' | some (.inr q) => some q) = some q
        rw [h1]
        exact hq N' (by omega)
      · obtain ⟨N', rfl⟩ : ∃ N', N = N' + 1 := ⟨N - 1, by omega⟩
        show (match B' w with | none => none | some (.inl v') => itr B' N' v' | some (.inr q) => some q) = some q'
        rw [h1']
        exact hq' N' (by omega)
    · refine ⟨q, q', fun N hN => ?_, fun N hN => ?_, h2⟩
      · obtain ⟨N', rfl⟩ : ∃ N', N = N' + 1 := ⟨N - 1, by omega⟩
        show (match B v with | none => none | some (.inl v') => itr B N' v' | some (.inr q) => some q) = some q
        rw [h1]
      · obtain ⟨N', rfl⟩ : ∃ N', N = N' + 1 := ⟨N - 1, by omega⟩
        show (match B' w with | none => none | some (.inl v') => itr B' N' v' | some (.inr q) => some q) = some q'
        rw [h1']
/-- what a call may change: the cells D (193 is the model's object: of it the fields E), and the law's references if c -/
def Fr (D E : List Nat) (c : Bool) (s t : cS) : Prop := (c = false → t.1 = s.1) ∧ (∀ o, o ∉ D → o ≠ 193 → t.2.1 o = s.2.1 o ∧ t.2.2 o = s.2.2 o) ∧ (∀ f, f ∉ E → t.2.1 193 f = s.2.1 193 f)
theorem Fr.rf {s : cS} : Fr [] [] false s s := ⟨fun _ => rfl, fun _ _ _ => ⟨rfl, rfl⟩, fun _ _ => rfl⟩
theorem Fr.tr {D E D' E' : List Nat} {c c' : Bool} {s t u : cS} (h : Fr D E c s t) (h' : Fr D' E' c' t u) : Fr (D ++ D') (E ++ E') (c || c') s u := by
  refine ⟨fun hc => ?_, fun o ho h1 => ?_, fun f hf => ?_⟩
  · have h2 : c = false ∧ c' = false := by cases c <;> cases c' <;> simp_all
    rw [h'.1 h2.2, h.1 h2.1]
  · have h2 : o ∉ D ∧ o ∉ D' := by simpa using ho
    obtain ⟨a, b⟩ := h.2.1 o h2.1 h1
    obtain ⟨a', b'⟩ := h'.2.1 o h2.2 h1
    exact ⟨a'.trans a, b'.trans b⟩
  · have h2 : f ∉ E ∧ f ∉ E' := by simpa using hf
    rw [h'.2.2 f h2.2, h.2.2 f h2.1]
theorem Fr.mono {D E D' E' : List Nat} {c : Bool} {s t : cS} (h : Fr D E c s t) (hD : ∀ o ∈ D, o ∈ D') (hE : ∀ o ∈ E, o ∈ E') : Fr D' E' c s t :=
  ⟨h.1, fun o ho h1 => h.2.1 o (fun q => ho (hD o q)) h1, fun f hf => h.2.2 f (fun q => hf (hE f q))⟩
theorem Fr.i1 {s : cS} {o k : Nat} {v : Int32} (ho : o ≠ 193) : Fr [o] [] false s (iS s o k v) := by
  refine ⟨fun _ => rfl, fun i hi _ => ⟨upd2_ne (by simpa using hi), rfl⟩, fun f _ => ?_⟩
  show upd2 s.2.1 o k v 193 f = _
  rw [upd2_ne (Ne.symm ho)]
theorem Fr.m1 {s : cS} {k : Nat} {v : Int32} : Fr [] [k] false s (iS s 193 k v) :=
  ⟨fun _ => rfl, fun i _ h => ⟨upd2_ne h, rfl⟩, fun f hf => upd2_nk (f := s.2.1) (o := 193) (k := k) (v := v) (by simpa using hf)⟩
theorem Fr.l1 {s : cS} {o k : Nat} {v : Int64} (ho : o ≠ 193) : Fr [o] [] false s (lS s o k v) :=
  ⟨fun _ => rfl, fun i hi _ => ⟨rfl, upd2_ne (by simpa using hi)⟩, fun f _ => rfl⟩
theorem Fr.row {D E : List Nat} {c : Bool} {s t : cS} (h : Fr D E c s t) {o : Nat} (ho : o ∉ D) (h1 : o ≠ 193) : t.2.1 o = s.2.1 o := (h.2.1 o ho h1).1
theorem Fr.int {D E : List Nat} {c : Bool} {s t : cS} (h : Fr D E c s t) {o k : Nat} (ho : o ∉ D) (h1 : o ≠ 193) : iG t o k = iG s o k := congrFun (h.2.1 o ho h1).1 k
theorem Fr.lng {D E : List Nat} {c : Bool} {s t : cS} (h : Fr D E c s t) {o k : Nat} (ho : o ∉ D) (h1 : o ≠ 193) : lG t o k = lG s o k := congrFun (h.2.1 o ho h1).2 k
theorem Fr.fld {D E : List Nat} {c : Bool} {s t : cS} (h : Fr D E c s t) {f : Nat} (hf : f ∉ E) : iG t 193 f = iG s 193 f := h.2.2 f hf
theorem iG_eq {s : cS} {o k : Nat} {v : Int32} : iG (iS s o k v) o k = v := upd2_eq
theorem iG_ne {s : cS} {o k o' k' : Nat} {v : Int32} (h : o' ≠ o) : iG (iS s o k v) o' k' = iG s o' k' := congrFun (upd2_ne h) k'
theorem iG_nk {s : cS} {o k k' : Nat} {v : Int32} (h : k' ≠ k) : iG (iS s o k v) o k' = iG s o k' := upd2_nk h
theorem iG_if {s : cS} {o k o' k' : Nat} {v : Int32} : iG (iS s o k v) o' k' = if o' = o then (if k' = k then v else iG s o' k') else iG s o' k' := rfl
theorem lG_if {s : cS} {o k o' k' : Nat} {v : Int64} : lG (lS s o k v) o' k' = if o' = o then (if k' = k then v else lG s o' k') else lG s o' k' := rfl
theorem lG_iS {s : cS} {o k o' k' : Nat} {v : Int32} : lG (iS s o k v) o' k' = lG s o' k' := rfl
theorem iG_lS {s : cS} {o k o' k' : Nat} {v : Int64} : iG (lS s o k v) o' k' = iG s o' k' := rfl
theorem ob_some {α β γ : Type} {r : α} {s : β} {k : α → β → Option γ} {q : Option (α × β)} (h : q = some (r, s)) : ob q k = k r s := by subst h; rfl
theorem oR_some {V ρ : Type} {x : ρ} : oR (V := V) (some x) = some (.inr x) := rfl
/-- ints as whole numbers -/
theorem lti {a b : Int32} : a < b ↔ a.toInt < b.toInt := Int32.lt_iff_toInt_lt
theorem lei {a b : Int32} : a ≤ b ↔ a.toInt ≤ b.toInt := Int32.le_iff_toInt_le
theorem eqi {a b : Int32} : a = b ↔ a.toInt = b.toInt := Int32.toInt_inj.symm
theorem addi {a b : Int32} (h1 : -2147483648 ≤ a.toInt + b.toInt) (h2 : a.toInt + b.toInt < 2147483648) : (a + b).toInt = a.toInt + b.toInt := by
  rw [Int32.toInt_add]
  exact Int.bmod_eq_of_le (by omega) (by omega)
theorem subi {a b : Int32} (h1 : -2147483648 ≤ a.toInt - b.toInt) (h2 : a.toInt - b.toInt < 2147483648) : (a - b).toInt = a.toInt - b.toInt := by
  rw [Int32.toInt_sub]
  exact Int.bmod_eq_of_le (by omega) (by omega)
theorem rngi (a : Int32) : -2147483648 ≤ a.toInt ∧ a.toInt < 2147483648 := ⟨Int32.le_toInt a, Int32.toInt_lt a⟩
theorem wB_1 {x a b : Int32} (h : ¬ wB x a b = 0) : a ≤ x ∧ x ≤ b := Classical.not_not.mp fun q => h (wB_0.mpr q)
theorem lIn_0 {x a b : Int64} : lIn x a b = 0 ↔ ¬ (a ≤ x ∧ x ≤ b) := by
  unfold lIn
  split
  · rename_i h
    exact ⟨fun z => absurd z (by decide), fun z => absurd h z⟩
  · rename_i h
    exact ⟨fun _ => h, fun _ => rfl⟩
theorem l_i {a : Int32} : a.toInt64.toInt = a.toInt := by simp
theorem lIn_w {x : Int32} {a b : Int64} {a' b' : Int32} (ha : a.toInt = a'.toInt) (hb : b.toInt = b'.toInt) : lIn x.toInt64 a b = wB x a' b' := by
  unfold lIn wB
  have e1 : a ≤ x.toInt64 ↔ a' ≤ x := by rw [Int64.le_iff_toInt_le, Int32.le_iff_toInt_le, ha, l_i]
  have e2 : x.toInt64 ≤ b ↔ x ≤ b' := by rw [Int64.le_iff_toInt_le, Int32.le_iff_toInt_le, hb, l_i]
  by_cases h : a' ≤ x ∧ x ≤ b'
  · rw [if_pos h, if_pos ⟨e1.mpr h.1, e2.mpr h.2⟩]
  · rw [if_neg h, if_neg fun z => h ⟨e1.mp z.1, e2.mp z.2⟩]
