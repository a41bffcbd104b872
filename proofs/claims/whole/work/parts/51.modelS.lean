def lIn (v a b : Int64) : Int32 := if a ≤ v ∧ v ≤ b then 1 else 0
theorem ps_isIn {g : pG} {l : Launch} {a0 a1 a2 : Int64} {s : cS} {q : Int32} (h : lIn a0 a1 a2 = q) : PM g l 1 M_X12_isIn [.long a0, .long a1, .long a2] (tS s) (some (.int q)) (tS s) 0 0 := by
  refine p_X12_isIn ?_
  rw [← h]
  unfold f_X12_isIn lIn
  have e1 : ∀ x y : Int64, lg_cmp x y < 0 ↔ x < y := by
    intro x y
    unfold lg_cmp
    by_cases h1 : y < x
    · have h2 : ¬ x < y := fun z => Int64.lt_irrefl (Int64.lt_trans h1 z)
      rw [if_pos h1]
      exact ⟨fun z => absurd z (by decide), fun z => absurd z h2⟩
    · rw [if_neg h1]
      by_cases h2 : x = y
      · rw [if_pos h2]
        exact ⟨fun z => absurd z (by decide), fun z => absurd z (by rw [h2]; exact Int64.lt_irrefl)⟩
      · rw [if_neg h2]
        exact ⟨fun _ => Int64.lt_of_le_of_ne (Int64.not_lt.mp h1) h2, fun _ => by decide⟩
  have e2 : ∀ x y : Int64, 0 < lg_cmp x y ↔ y < x := by
    intro x y
    unfold lg_cmp
    by_cases h1 : y < x
    · rw [if_pos h1]
      exact ⟨fun _ => h1, fun _ => by decide⟩
    · rw [if_neg h1]
      by_cases h2 : x = y
      · rw [if_pos h2]
        exact ⟨fun z => absurd z (by decide), fun z => absurd z h1⟩
      · rw [if_neg h2]
        exact ⟨fun z => absurd z (by decide), fun z => absurd z h1⟩
  simp only [e1, e2]
  by_cases h1 : a0 < a1
  · rw [if_pos h1, if_neg (fun z => Int64.not_le.mpr h1 z.1)]
  · rw [if_neg h1]
    by_cases h2 : a2 < a0
    · rw [if_pos h2, if_neg (fun z => Int64.not_le.mpr h2 z.2)]
    · rw [if_neg h2, if_pos ⟨Int64.not_lt.mp h1, Int64.not_lt.mp h2⟩]
theorem lIn_bool (x a b : Int64) : lIn x a b = 0 ∨ lIn x a b = 1 := by
  unfold lIn
  split
  · exact Or.inr rfl
  · exact Or.inl rfl
