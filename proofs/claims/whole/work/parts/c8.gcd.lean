/-! common divisors -/
theorem lN_z {b : Nat} (hb : b < 2 ^ 63) : lN b = (0 : Int64) ↔ b = 0 := lN_eqn (b := 0) hb (by decide)
theorem m_gcd {s : cS} : ∀ (b a : Nat), b < 2 ^ 63 → a < 2 ^ 63 → EL (fun _ (v : (Int64 × Int64) × cS) => b_X12_divisor_6 v.1.1 v.1.2 v.2) ((lN a, lN b), s) (lN (Nat.gcd a b), s) := by
  intro b
  induction b using Nat.strongRecOn with
  | ind b ih =>
    intro a hb ha
    by_cases z : b = 0
    · subst z
      refine EL.en (Ev.of fun N => ?_)
      show b_X12_divisor_6 (lN a) (lN 0) s = _
      unfold b_X12_divisor_6
      rw [if_pos (c := lg_cmp (lN 0) (0 : Int64) = 0) (lg_eq.mpr rfl), Nat.gcd_zero_right]
      rfl
    · have hr : a % b < b := Nat.mod_lt _ (by omega)
      have h := ih (a % b) hr b (by omega) hb
      have e : Nat.gcd b (a % b) = Nat.gcd a b := by
        rw [Nat.gcd_comm, ← Nat.gcd_rec, Nat.gcd_comm]
      rw [e] at h
      refine EL.st (v' := ((lN b, lN (a % b)), s)) (Ev.of fun N => ?_) h
      have hz : ¬ lN b = (0 : Int64) := fun w => z ((lN_z hb).mp w)
      show b_X12_divisor_6 (lN a) (lN b) s = _
      unfold b_X12_divisor_6
      rw [if_neg (fun w => hz (lg_eq.mp w)), if_neg hz, pk_lRem ha (by omega) hb]
theorem m_divisor {s : cS} {a b : Nat} (hb : b < 2 ^ 63) (ha : a < 2 ^ 63) : Ev (fun N => f_X12_divisor N (lN a) (lN b) s) (lN (Nat.gcd a b), s) := Ev.cg (m_gcd b a hb ha).ev fun N => rfl
theorem sh_44 {A B g : Nat} {x4 : Int32} {s : cS} (hA : A < 2 ^ 63) (hB : B < 2 ^ 63) (hg : 0 < g) (hg2 : g < 2 ^ 63) : j_X11_shortened_44 (lN A) (lN B) x4 (lN g) s = some (if x4 = 0 then lN (A / g) else lN (B / g), s) := by
  have hz : ¬ lN g = (0 : Int64) := fun w => by have := (lN_z hg2).mp w; omega
  unfold j_X11_shortened_44
  rw [if_neg (fun w => hz (lg_eq.mp w))]
  by_cases z : x4 = 0
  · rw [if_pos z, if_pos z, if_neg hz, pk_lDiv hA hg hg2]
  · rw [if_neg z, if_neg z, if_neg hz, pk_lDiv hB hg hg2]
theorem sh_z {A B a j : Nat} {x4 : Int32} {s : cS} (hA : A < 2 ^ 63) (hB : B < 2 ^ 63) (ha : a < 2 ^ 63) (h0 : 0 < a) : EL (fun _ (v : (Int64 × Int64 × Int32) × cS) => b_X11_shortened_9 (lN A) (lN B) x4 v.1.1 v.1.2.1 v.1.2.2 v.2) ((lN a, lN 0, nI j), s) (if x4 = 0 then lN (A / a) else lN (B / a), s) := by
  refine EL.en (Ev.of fun N => ?_)
  show b_X11_shortened_9 (lN A) (lN B) x4 (lN a) (lN 0) (nI j) s = _
  unfold b_X11_shortened_9
  rw [sh_44 hA hB h0 ha]
  split
  · rfl
  · rw [if_pos (c := lg_cmp (lN 0) (0 : Int64) = 0) (lg_eq.mpr rfl)]
    rfl
theorem sh_st {A B a b j : Nat} {x4 : Int32} {s : cS} {q : Int64 × cS} (ha : a < 2 ^ 63) (hb : b < 2 ^ 63) (h0 : 0 < b) (hj : j < 100) (h : EL (fun _ (v : (Int64 × Int64 × Int32) × cS) => b_X11_shortened_9 (lN A) (lN B) x4 v.1.1 v.1.2.1 v.1.2.2 v.2) ((lN b, lN (a % b), nI (j + 1)), s) q) : EL (fun _ (v : (Int64 × Int64 × Int32) × cS) => b_X11_shortened_9 (lN A) (lN B) x4 v.1.1 v.1.2.1 v.1.2.2 v.2) ((lN a, lN b, nI j), s) q := by
  refine EL.st (v' := ((lN b, lN (a % b), nI (j + 1)), s)) (Ev.of fun N => ?_) h
  have hz : ¬ lN b = (0 : Int64) := fun w => by have := (lN_z hb).mp w; omega
  show b_X11_shortened_9 (lN A) (lN B) x4 (lN a) (lN b) (nI j) s = _
  unfold b_X11_shortened_9
  rw [if_neg (c := (100 : Int32) ≤ nI j) (nI_ge (b := 100) hj (by omega)), if_neg (fun w => hz (lg_eq.mp w)), if_neg hz, pk_lRem ha h0 hb, nI_1]
theorem gcd_st (a b : Nat) : Nat.gcd b (a % b) = Nat.gcd a b := by
  rw [Nat.gcd_comm, ← Nat.gcd_rec, Nat.gcd_comm]
theorem sh_lp {A B : Nat} {x4 : Int32} {s : cS} (hA : A < 2 ^ 63) (hB : B < 2 ^ 63) : ∀ (k a b j : Nat), b < 2 ^ k → b < 2 ^ 63 → a < 2 ^ 63 → j + 2 * k ≤ 100 → 0 < Nat.gcd a b → EL (fun _ (v : (Int64 × Int64 × Int32) × cS) => b_X11_shortened_9 (lN A) (lN B) x4 v.1.1 v.1.2.1 v.1.2.2 v.2) ((lN a, lN b, nI j), s) (if x4 = 0 then lN (A / Nat.gcd a b) else lN (B / Nat.gcd a b), s) := by
  intro k
  induction k with
  | zero =>
    intro a b j h1 h2 h3 h4 h5
    have hb0 : b = 0 := by omega
    subst hb0
    rw [Nat.gcd_zero_right] at h5 ⊢
    exact sh_z hA hB h3 h5
  | succ k ih =>
    intro a b j h1 h2 h3 h4 h5
    by_cases z : b = 0
    · subst z
      rw [Nat.gcd_zero_right] at h5 ⊢
      exact sh_z hA hB h3 h5
    · have hr : a % b < b := Nat.mod_lt _ (by omega)
      refine sh_st h3 h2 (by omega) (by omega) ?_
      rw [← gcd_st a b] at h5 ⊢
      by_cases y : a % b = 0
      · rw [y, Nat.gcd_zero_right]
        exact sh_z hA hB h2 (by omega)
      · have hr2 : b % (a % b) < a % b := Nat.mod_lt _ (by omega)
        have hr3 : a % b + b % (a % b) ≤ b := by
          have e1 := Nat.div_add_mod b (a % b)
          have e2 : 1 ≤ b / (a % b) := Nat.div_pos (by omega) (by omega)
          have e3 : (a % b) * 1 ≤ (a % b) * (b / (a % b)) := Nat.mul_le_mul_left _ e2
          omega
        refine sh_st h2 (by omega) (by omega) (by omega) ?_
        rw [← gcd_st b (a % b)] at h5 ⊢
        rw [Nat.pow_succ] at h1
        exact ih (a % b) (b % (a % b)) (j + 1 + 1) (by omega) (by omega) (by omega) (by omega) h5
theorem x_short {A B : Nat} {x4 : Int32} {s : cS} (hA : A < 2 ^ 63) (hB : B < 2 ^ 36) (h0 : 0 < B) : Ev (fun N => f_X11_shortened N (lN A) (lN B) x4 s) (if x4 = 0 then lN (A / Nat.gcd A B) else lN (B / Nat.gcd A B), s) := Ev.cg (sh_lp hA (by omega) 36 A B 0 hB (by omega) hA (by decide) (Nat.gcd_pos_of_pos_right _ h0)).ev fun N => rfl
