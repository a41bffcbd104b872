/-! weights: numbers -/
def sumN (g : Nat → Nat) : Nat → Nat
  | 0 => 0
  | n + 1 => sumN g n + g n
def prodN (g : Nat → Nat) : Nat → Nat
  | 0 => 1
  | n + 1 => prodN g n * g n
theorem sumN_eq {g g' : Nat → Nat} : ∀ {n : Nat}, (∀ i, i < n → g i = g' i) → sumN g n = sumN g' n
  | 0, _ => rfl
  | n + 1, h => by
    show sumN g n + g n = sumN g' n + g' n
    rw [sumN_eq fun i hi => h i (by omega), h n (by omega)]
theorem prodN_eq {g g' : Nat → Nat} : ∀ {n : Nat}, (∀ i, i < n → g i = g' i) → prodN g n = prodN g' n
  | 0, _ => rfl
  | n + 1, h => by
    show prodN g n * g n = prodN g' n * g' n
    rw [prodN_eq fun i hi => h i (by omega), h n (by omega)]
theorem sumN_le {g g' : Nat → Nat} : ∀ {n : Nat}, (∀ i, i < n → g i ≤ g' i) → sumN g n ≤ sumN g' n
  | 0, _ => Nat.le_refl _
  | n + 1, h => Nat.add_le_add (sumN_le fun i hi => h i (by omega)) (h n (by omega))
theorem prodN_le {g g' : Nat → Nat} : ∀ {n : Nat}, (∀ i, i < n → g i ≤ g' i) → prodN g n ≤ prodN g' n
  | 0, _ => Nat.le_refl _
  | n + 1, h => Nat.mul_le_mul (prodN_le fun i hi => h i (by omega)) (h n (by omega))
theorem sumN_bd {g : Nat → Nat} {b : Nat} : ∀ {n : Nat}, (∀ i, i < n → g i ≤ b) → sumN g n ≤ b * n
  | 0, _ => Nat.le_refl _
  | n + 1, h => by
    have h1 := sumN_bd (n := n) fun i hi => h i (by omega)
    have h2 := h n (by omega)
    show sumN g n + g n ≤ b * (n + 1)
    rw [Nat.mul_succ]
    omega
theorem prodN_bd {g : Nat → Nat} {b : Nat} : ∀ {n : Nat}, (∀ i, i < n → g i ≤ b) → prodN g n ≤ b ^ n
  | 0, _ => Nat.le_refl _
  | n + 1, h => by
    rw [Nat.pow_succ]
    exact Nat.mul_le_mul (prodN_bd fun i hi => h i (by omega)) (h n (by omega))
/-- by the first q nothing, or behind them -/
theorem fst1_gt {P : Nat → Bool} {T T' : Nat} (h : fst1 P T = 0) : fst1 P T' = 0 ∨ T < fst1 P T' := by
  rcases Nat.eq_zero_or_pos (fst1 P T') with z | z
  · exact Or.inl z
  · right
    apply Nat.lt_of_not_le
    intro w
    have h1 := fst1_z h (fst1 P T') z w
    rw [fst1_nz (P := P) (n := T') (by omega)] at h1
    cases h1
theorem fst1_mo {P : Nat → Bool} {q T : Nat} (hq : q ≤ T) (h : fst1 P q ≠ 0) : fst1 P T = fst1 P q := by
  have := fst1_st h (T - q)
  rw [show q + (T - q) = T by omega] at this
  exact this
theorem fst1_iff {P : Nat → Bool} {q T : Nat} (hq : q ≤ T) : (fst1 P T = 0 ∨ q < fst1 P T) ↔ fst1 P q = 0 := by
  constructor
  · intro h
    rcases Nat.eq_zero_or_pos (fst1 P q) with z | z
    · exact z
    · have h1 := fst1_mo hq (show fst1 P q ≠ 0 by omega)
      have h2 := fst1_le P q
      omega
  · intro h
    exact fst1_gt h
theorem fst1_top {P : Nat → Bool} {q T : Nat} (hq : T ≤ q) : (fst1 P T = 0 ∨ q < fst1 P T) ↔ fst1 P T = 0 := by
  have := fst1_le P T
  omega
theorem fst1_dn {P : Nat → Bool} {q T : Nat} (hq : q ≤ T) (h : fst1 P T = 0) : fst1 P q = 0 := (fst1_iff hq).mp (Or.inl h)
/-- the weight of those of a corner that have not run -/
def wpF (mc : Nat) (w : Nat → Nat) (P : Nat → Nat → Bool) (q : Nat) : Nat := if mc = 0 then 1 else sumN (fun i => if fst1 (P i) q = 0 then w i else 0) mc
abbrev bit (pc c : Nat) : Prop := pc / 2 ^ c % 2 = 1
def past (n : Nat) (m : Nat → Nat) (w : Nat → Nat → Nat) (P : Nat → Nat → Nat → Bool) (pc q : Nat) : Nat := prodN (fun c => if bit pc c then wpF (m c) (w c) (P c) q else 1) n
theorem wpF_mo {mc : Nat} {w : Nat → Nat} {P : Nat → Nat → Bool} {q q' : Nat} (h : q ≤ q') : wpF mc w P q' ≤ wpF mc w P q := by
  unfold wpF
  split
  · exact Nat.le_refl _
  · refine sumN_le fun i _ => ?_
    by_cases z : fst1 (P i) q' = 0
    · rw [if_pos z, if_pos (fst1_dn h z)]
      exact Nat.le_refl _
    · rw [if_neg z]
      exact Nat.zero_le _
theorem past_mo {n : Nat} {m : Nat → Nat} {w : Nat → Nat → Nat} {P : Nat → Nat → Nat → Bool} {pc q q' : Nat} (h : q ≤ q') : past n m w P pc q' ≤ past n m w P pc q := by
  unfold past
  refine prodN_le fun c _ => ?_
  split
  · exact wpF_mo h
  · exact Nat.le_refl _
theorem wpF_bd {mc : Nat} {w : Nat → Nat} {P : Nat → Nat → Bool} {q : Nat} (h : mc ≤ 4) (hw : ∀ i, i < mc → w i ≤ 5) : wpF mc w P q ≤ 20 := by
  unfold wpF
  split
  · decide
  · have := sumN_bd (g := fun i => if fst1 (P i) q = 0 then w i else 0) (b := 5) (n := mc) (fun i hi => by
      show (if fst1 (P i) q = 0 then w i else 0) ≤ 5
      split
      · exact hw i hi
      · exact Nat.zero_le _)
    omega
theorem past_bd {n : Nat} {m : Nat → Nat} {w : Nat → Nat → Nat} {P : Nat → Nat → Nat → Bool} {pc q : Nat} (hn : n ≤ 8) (hm : ∀ c, c < n → m c ≤ 4) (hw : ∀ c i, c < n → i < m c → w c i ≤ 5) : past n m w P pc q ≤ 25600000000 := by
  have h1 : past n m w P pc q ≤ 20 ^ n := by
    unfold past
    refine prodN_bd fun c hc => ?_
    split
    · exact wpF_bd (hm c hc) fun i hi => hw c i hc hi
    · decide
  have h2 : 20 ^ n ≤ 20 ^ 8 := Nat.pow_le_pow_right (by decide) hn
  have h3 : (20 : Nat) ^ 8 = 25600000000 := by decide
  omega
/-- where less is left, some corner runs -/
theorem past_ch {n : Nat} {m : Nat → Nat} {w : Nat → Nat → Nat} {P : Nat → Nat → Nat → Bool} {pc q : Nat} (h : past n m w P pc (q + 1) ≠ past n m w P pc q) : ∃ c i, c < n ∧ bit pc c ∧ i < m c ∧ ∀ T, q + 1 ≤ T → fst1 (P c i) T = q + 1 := by
  apply Classical.byContradiction
  intro hno
  apply h
  unfold past
  refine prodN_eq fun c hc => ?_
  by_cases hb : bit pc c
  · rw [if_pos hb, if_pos hb]
    unfold wpF
    split
    · rfl
    · refine sumN_eq fun i hi => ?_
      by_cases z : fst1 (P c i) q = 0
      · by_cases y : fst1 (P c i) (q + 1) = 0
        · rw [if_pos y, if_pos z]
        · exfalso
          refine hno ⟨c, i, hc, hb, hi, fun T hT => ?_⟩
          rw [fst1_mo hT y]
          have h1 := fst1_le (P c i) (q + 1)
          have h2 := (fst1_gt z (T' := q + 1)).resolve_left y
          omega
      · rw [if_neg z, if_neg (fun y => z (fst1_dn (by omega) y))]
  · rw [if_neg hb, if_neg hb]
/-- the weight of those ways in which c runs ahead of all others -/
def firF (n : Nat) (m : Nat → Nat) (w : Nat → Nat → Nat) (P : Nat → Nat → Nat → Bool) (c T : Nat) : Nat := sumN (fun i => if fst1 (P c i) T = 0 then 0 else w c i * prodN (fun o => if o = c then 1 else wpF (m o) (w o) (P o) (if o < c then fst1 (P c i) T else fst1 (P c i) T - 1)) n) (m c)
