/-! the small helpers, closed -/
theorem tnc (i : Int32) : i.toNatClampNeg = i.toInt.toNat := rfl
theorem not_lt0 {i : Int32} (h : ¬ i < 0) : 0 ≤ i.toInt := by
  have h1 : ¬ i.toInt < (0 : Int32).toInt := fun q => h (Int32.lt_iff_toInt_lt.mpr q)
  have h2 : (0 : Int32).toInt = 0 := rfl
  omega
theorem inb_iff {i : Int32} {n : Nat} (hn : n < 2147483648) : inb i n ↔ ¬ i < 0 ∧ i < Int32.ofNat n := by
  have h2 : (Int32.ofNat n).toInt = (n : Int) := nI_toInt hn
  constructor
  · intro h
    have h0 : ¬ i < 0 := fun q => h (Or.inl q)
    have h1 := not_lt0 h0
    have h3 : ¬ n ≤ i.toInt.toNat := fun q => h (Or.inr q)
    exact ⟨h0, Int32.lt_iff_toInt_lt.mpr (by omega)⟩
  · rintro ⟨h0, h1⟩ (q | q)
    · exact h0 q
    · have h3 := Int32.lt_iff_toInt_lt.mp h1
      have h4 := not_lt0 h0
      have h5 : n ≤ i.toInt.toNat := q
      omega
def wB (x a b : Int32) : Int32 := if a ≤ x ∧ x ≤ b then 1 else 0
theorem ps_within {g : pG} {l : Launch} {a0 a1 a2 : Int32} {s : cS} {q : Int32} (h : wB a0 a1 a2 = q) : PM g l 1 M_X11_within [.int a0, .int a1, .int a2] (tS s) (some (.int q)) (tS s) 0 0 := by
  refine p_X11_within ?_
  rw [← h]
  unfold f_X11_within wB
  by_cases h1 : a0 < a1
  · rw [if_pos h1, if_neg (fun z => Int32.not_le.mpr h1 z.1)]
  · rw [if_neg h1]
    by_cases h2 : a2 < a0
    · rw [if_pos h2, if_neg (fun z => Int32.not_le.mpr h2 z.2)]
    · rw [if_neg h2, if_pos ⟨Int32.not_lt.mp h1, Int32.not_lt.mp h2⟩]
theorem wB_bool (x a b : Int32) : wB x a b = 0 ∨ wB x a b = 1 := by
  unfold wB
  split
  · exact Or.inr rfl
  · exact Or.inl rfl
theorem wB_0 {x a b : Int32} : wB x a b = 0 ↔ ¬ (a ≤ x ∧ x ≤ b) := by
  unfold wB
  split
  · rename_i h
    exact ⟨fun z => absurd z (by decide), fun z => absurd h z⟩
  · rename_i h
    exact ⟨fun _ => h, fun _ => rfl⟩
def aA (s : cS) (A n : Nat) (i : Int32) : Int32 := if inb i n then iG s A i.toNatClampNeg else 0
def lA (s : cS) (A n : Nat) (i : Int32) : Int64 := if inb i n then lG s A i.toNatClampNeg else 0
def pA (s : cS) (A n : Nat) (i x : Int32) : cS := if inb i n then iS s A i.toNatClampNeg x else s
def plA (s : cS) (A n : Nat) (i : Int32) (x : Int64) : cS := if inb i n then lS s A i.toNatClampNeg x else s
theorem ps_at {g : pG} {l : Launch} {A n : Nat} {a1 : Int32} {s : cS} {q : Int32} (hA : LAY[A]? = some (.inr (0, n))) (h : aA s A n a1 = q) (hn : n < 2147483648 := by decide) : PM g l 1 M_X11_at [.ref A, .int a1] (tS s) (some (.int q)) (tS s) 0 0 := by
  refine p_X11_at (q := (q, s)) hA ?_
  rw [← h]
  unfold f_X11_at aA
  by_cases h1 : a1 < 0
  · rw [if_pos h1, if_neg (fun z => z (Or.inl h1))]
  · rw [if_neg h1]
    by_cases h2 : Int32.ofNat n ≤ a1
    · rw [if_pos h2, if_neg (fun z => Int32.not_le.mpr ((inb_iff hn).mp z).2 h2)]
    · have h3 : inb a1 n := (inb_iff hn).mpr ⟨h1, Int32.not_le.mp h2⟩
      rw [if_neg h2, if_pos h3, if_pos h3]
theorem ps_put {g : pG} {l : Launch} {A n : Nat} {a1 a2 : Int32} {s s' : cS} (hA : LAY[A]? = some (.inr (0, n))) (h : pA s A n a1 a2 = s') (hn : n < 2147483648 := by decide) : PM g l 1 M_X11_put [.ref A, .int a1, .int a2] (tS s) none (tS s') 0 0 := by
  refine p_X11_put (q := ((), s')) hA ?_
  rw [← h]
  unfold f_X11_put pA
  by_cases h1 : a1 < 0
  · rw [if_pos h1, if_neg (fun z => z (Or.inl h1))]
  · rw [if_neg h1]
    by_cases h2 : Int32.ofNat n ≤ a1
    · rw [if_pos h2, if_neg (fun z => Int32.not_le.mpr ((inb_iff hn).mp z).2 h2)]
    · have h3 : inb a1 n := (inb_iff hn).mpr ⟨h1, Int32.not_le.mp h2⟩
      rw [if_neg h2, if_pos h3, if_pos h3]
      rfl
theorem ps_longAt {g : pG} {l : Launch} {A n : Nat} {a1 : Int32} {s : cS} {q : Int64} (hA : LAY[A]? = some (.inr (1, n))) (h : lA s A n a1 = q) (hn : n < 2147483648 := by decide) : PM g l 1 M_X11_longAt [.ref A, .int a1] (tS s) (some (.long q)) (tS s) 0 0 := by
  refine p_X11_longAt (q := (q, s)) hA ?_
  rw [← h]
  unfold f_X11_longAt lA
  by_cases h1 : a1 < 0
  · rw [if_pos h1, if_neg (fun z => z (Or.inl h1))]
  · rw [if_neg h1]
    by_cases h2 : Int32.ofNat n ≤ a1
    · rw [if_pos h2, if_neg (fun z => Int32.not_le.mpr ((inb_iff hn).mp z).2 h2)]
    · have h3 : inb a1 n := (inb_iff hn).mpr ⟨h1, Int32.not_le.mp h2⟩
      rw [if_neg h2, if_pos h3, if_pos h3]
theorem ps_putLong {g : pG} {l : Launch} {A n : Nat} {a1 : Int32} {a2 : Int64} {s s' : cS} (hA : LAY[A]? = some (.inr (1, n))) (h : plA s A n a1 a2 = s') (hn : n < 2147483648 := by decide) : PM g l 1 M_X11_putLong [.ref A, .int a1, .long a2] (tS s) none (tS s') 0 0 := by
  refine p_X11_putLong (q := ((), s')) hA ?_
  rw [← h]
  unfold f_X11_putLong plA
  by_cases h1 : a1 < 0
  · rw [if_pos h1, if_neg (fun z => z (Or.inl h1))]
  · rw [if_neg h1]
    by_cases h2 : Int32.ofNat n ≤ a1
    · rw [if_pos h2, if_neg (fun z => Int32.not_le.mpr ((inb_iff hn).mp z).2 h2)]
    · have h3 : inb a1 n := (inb_iff hn).mpr ⟨h1, Int32.not_le.mp h2⟩
      rw [if_neg h2, if_pos h3, if_pos h3]
      rfl
