/-! a new hull -/
def dg4 (A c : Nat) : Nat := A / 2 ^ (2 * c) % 4
theorem h_dig {A c : Nat} (hA : A < 2 ^ 31) (hc : c < 8) : (nI A >>> (((2 : Int32) * nI c) &&& 31)) &&& (3 : Int32) = nI (dg4 A c) := by
  have hs : ((((2 : Int32) * nI c) &&& 31).toBitVec.smod 32).toNat = 2 * c := by
    have : ∀ c, c < 8 → ((((2 : Int32) * nI c) &&& 31).toBitVec.smod 32).toNat = 2 * c := by decide +kernel
    exact this c hc
  rw [pk_shrN hA _ (2 * c) hs]
  have : A / 2 ^ (2 * c) < 2 ^ 32 := by
    have := Nat.div_le_self A (2 ^ (2 * c))
    omega
  exact pk_andN this 2 (by decide)
theorem dg4_lt {A c : Nat} : dg4 A c < 4 := Nat.mod_lt _ (by decide)
/-- the choice of lives holds -/
def fitS (m : Nat → Nat) (A : Nat) : Nat → Bool
  | 0 => true
  | c + 1 => fitS m A c && decide (dg4 A c = 0 ∨ dg4 A c < m c)
theorem x_fits_lp {A : Nat} {m : Nat → Nat} {s : cS} (hA : A < 2 ^ 31) (hm : ∀ c, c < 8 → iG s 8 c = nI (m c) ∧ m c ≤ 4) : ∀ (d c : Nat), c + d = 8 → (fitS m A c = true → EL (fun _ (v : Int32 × cS) => b_X1_fits_15 (nI A) v.1 v.2) (nI c, s) (if fitS m A 8 = true then 1 else 0, s)) := by
  have mono : ∀ (d c : Nat), c + d = 8 → fitS m A c = false → fitS m A 8 = false := by
    intro d
    induction d with
    | zero => intro c hc h; rw [show c = 8 by omega] at h; exact h
    | succ d ih =>
      intro c hc h
      refine ih (c + 1) (by omega) ?_
      show (fitS m A c && _) = false
      rw [h]; rfl
  intro d
  induction d with
  | zero =>
    intro c hc h
    have h8 : c = 8 := by omega
    subst h8
    refine EL.en (Ev.of fun N => ?_)
    show b_X1_fits_15 (nI A) (nI 8) s = _
    unfold b_X1_fits_15
    rw [if_pos (c := (8 : Int32) ≤ nI 8) (by decide), h, if_pos rfl]
    rfl
  | succ d ih =>
    intro c hc h
    have hcl : (nI c).toNatClampNeg = c := nI_clamp (by omega)
    have hin : inb (nI c) 8 := (inb_n (by omega)).mpr (by omega)
    have hd4 := dg4_lt (A := A) (c := c)
    obtain ⟨m1, m2⟩ := hm c (by omega)
    have e0 : nI (dg4 A c) ≤ (0 : Int32) ↔ dg4 A c = 0 := by
      have : nI (dg4 A c) ≤ (0 : Int32) ↔ dg4 A c ≤ 0 := nI_leI (b := 0) (by omega) (by decide)
      rw [this]; omega
    have e1 : nI (dg4 A c) < nI (m c) ↔ dg4 A c < m c := nI_ltI (by omega) (by omega)
    by_cases z : dg4 A c = 0 ∨ dg4 A c < m c
    · have hf : fitS m A (c + 1) = true := by
        show (fitS m A c && decide _) = true
        rw [h, decide_eq_true z]; rfl
      refine EL.st (v' := (nI (c + 1), s)) (Ev.of fun N => ?_) (ih (c + 1) (by omega) hf)
      show b_X1_fits_15 (nI A) (nI c) s = _
      unfold b_X1_fits_15 j_X1_fits_45
      rw [if_neg (c := (8 : Int32) ≤ nI c) (nI_ge (b := 8) (by omega) (by omega)), h_dig hA (by omega), nI_1]
      by_cases w : dg4 A c = 0
      · rw [if_pos (e0.mpr w)]
      · rw [if_neg (fun v => w (e0.mp v))]
        simp only [if_pos hin, hcl, m1]
        rw [if_pos (e1.mpr (z.resolve_left w))]
    · have hf : fitS m A (c + 1) = false := by
        show (fitS m A c && decide _) = false
        rw [h, decide_eq_false z]; rfl
      rw [mono d (c + 1) (by omega) hf, if_neg (by decide)]
      refine EL.en (Ev.of fun N => ?_)
      show b_X1_fits_15 (nI A) (nI c) s = _
      unfold b_X1_fits_15
      rw [if_neg (c := (8 : Int32) ≤ nI c) (nI_ge (b := 8) (by omega) (by omega)), h_dig hA (by omega), if_neg (fun v => z (Or.inl (e0.mp v)))]
      simp only [if_pos hin, hcl, m1]
      rw [if_neg (fun v => z (Or.inr (e1.mp v)))]
      rfl
