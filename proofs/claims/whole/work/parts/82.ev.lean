/-! what holds of all but the first fuels -/
def Ev {β : Type} (f : Nat → Option β) (q : β) : Prop := ∃ n, ∀ N, n ≤ N → f N = some q
def EL {V ρ : Type} (B : Nat → V → Option (V ⊕ ρ)) (v : V) (q : ρ) : Prop := ∃ n, ∀ N M, n ≤ N → n ≤ M → itr (B N) M v = some q
theorem EL.st {V ρ : Type} {B : Nat → V → Option (V ⊕ ρ)} {v v' : V} {q : ρ} (h : Ev (fun N => B N v) (.inl v')) (k : EL B v' q) : EL B v q := by
  obtain ⟨n1, h1⟩ := h
  obtain ⟨n2, h2⟩ := k
  refine ⟨n1 + n2 + 1, fun N M hN hM => ?_⟩
  obtain ⟨M', rfl⟩ : ∃ M', M = M' + 1 := ⟨M - 1, by omega⟩
  have h1' : B N v = some (.inl v') := h1 N (by omega)
  rw [itr_s, h1']
  exact h2 N M' (by omega) (by omega)
theorem EL.en {V ρ : Type} {B : Nat → V → Option (V ⊕ ρ)} {v : V} {q : ρ} (h : Ev (fun N => B N v) (.inr q)) : EL B v q := by
  obtain ⟨n1, h1⟩ := h
  refine ⟨n1 + 1, fun N M hN hM => ?_⟩
  obtain ⟨M', rfl⟩ : ∃ M', M = M' + 1 := ⟨M - 1, by omega⟩
  have h1' : B N v = some (.inr q) := h1 N (by omega)
  rw [itr_s, h1']
theorem EL.ev {V ρ : Type} {B : Nat → V → Option (V ⊕ ρ)} {v : V} {q : ρ} (h : EL B v q) : Ev (fun N => itr (B N) N v) q := by
  obtain ⟨n, h⟩ := h
  exact ⟨n, fun N hN => h N N hN hN⟩
theorem Ev.of {β : Type} {f : Nat → Option β} {q : β} (h : ∀ N, f N = some q) : Ev f q := ⟨0, fun N _ => h N⟩
theorem Ev.cg {β : Type} {f g : Nat → Option β} {q : β} (h : Ev g q) (e : ∀ N, f N = g N) : Ev f q := by
  obtain ⟨n, h⟩ := h
  exact ⟨n, fun N hN => (e N).trans (h N hN)⟩
theorem Ev.bnd {α β γ : Type} {f : Nat → Option (α × β)} {k : Nat → α → β → Option γ} {r : α} {s : β} {q : γ} (h : Ev f (r, s)) (h' : Ev (fun N => k N r s) q) : Ev (fun N => ob (f N) (k N)) q := by
  obtain ⟨n1, h1⟩ := h
  obtain ⟨n2, h2⟩ := h'
  refine ⟨n1 + n2, fun N hN => ?_⟩
  show ob (f N) (k N) = some q
  rw [h1 N (by omega)]
  exact h2 N (by omega)
theorem Ev.ex {β : Type} {f : Nat → Option β} {q : β} (h : Ev f q) : ∃ N, f N = some q := by
  obtain ⟨n, h⟩ := h
  exact ⟨n, h n (Nat.le_refl _)⟩
theorem Ev.and {β γ : Type} {f : Nat → Option β} {g : Nat → Option γ} {q : β} {r : γ} (h : Ev f q) (k : Ev g r) : ∃ N, f N = some q ∧ g N = some r := by
  obtain ⟨n1, h1⟩ := h
  obtain ⟨n2, h2⟩ := k
  exact ⟨n1 + n2, h1 _ (by omega), h2 _ (by omega)⟩
theorem Ev.ret {V ρ : Type} {f : Nat → Option ρ} {q : ρ} (h : Ev f q) : Ev (fun N => oR (V := V) (f N)) (.inr q) := by
  obtain ⟨n, h⟩ := h
  refine ⟨n, fun N hN => ?_⟩
  show oR (f N) = _
  rw [h N hN]
  rfl
theorem Ev.lp {V ρ : Type} {B : V → Option (V ⊕ ρ)} {v : V} {q : ρ} (h : ∃ n, ∀ N, n < N → itr B N v = some q) : Ev (fun N => itr B N v) q := by
  obtain ⟨n, h⟩ := h
  exact ⟨n + 1, fun N hN => h N (by omega)⟩
theorem ob_mk {α β γ : Type} {r : α} {s : β} {k : α → β → Option γ} : ob (some (r, s)) k = k r s := rfl
theorem sb_mk {β γ : Type} {s : β} {k : β → γ} : sb s k = k s := rfl
theorem tb_mk {α β γ : Type} {r : α} {s : β} {k : α → β → γ} : tb (r, s) k = k r s := rfl
theorem oR_mk {V ρ : Type} {q : ρ} : oR (V := V) (some q) = some (Sum.inr q) := rfl
