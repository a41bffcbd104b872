/-- the sign at the place that is read; behind a fault, and behind the text: none -/
def sgn (s : cS) : Int32 := if iG s 1 4 = 0 ∧ inb (iG s 1 3) 200 ∧ iG s 1 3 < iG s 1 2 then iG s 2 (iG s 1 3).toNatClampNeg else -1
theorem ps_sign {g : pG} {l : Launch} {s : cS} {q : Int32} (h : sgn s = q) : PM g l 1 M_X9_sign [.ref 1] (tS s) (some (.int q)) (tS s) 0 0 := by
  refine p_X9_sign (q := (q, s)) ?_
  rw [← h]
  unfold f_X9_sign sgn
  by_cases h1 : iG s 1 4 = 0
  · rw [if_pos h1]
    by_cases h2 : iG s 1 3 < 0
    · rw [if_pos h2, if_neg (fun z => z.2.1 (Or.inl h2))]
    · rw [if_neg h2]
      by_cases h3 : iG s 1 2 ≤ iG s 1 3
      · rw [if_pos h3, if_neg (fun z => Int32.not_le.mpr z.2.2 h3)]
      · rw [if_neg h3]
        by_cases h4 : (200 : Int32) ≤ iG s 1 3
        · rw [if_pos h4, if_neg (fun z => Int32.not_le.mpr ((inb_iff (by decide)).mp z.2.1).2 h4)]
        · have h5 : inb (iG s 1 3) 200 := (inb_iff (by decide)).mpr ⟨h2, Int32.not_le.mp h4⟩
          rw [if_neg h4, if_pos h5, if_pos ⟨h1, h5, Int32.not_le.mp h3⟩]
  · rw [if_neg h1, if_neg (fun z => h1 z.1)]
