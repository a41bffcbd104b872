/-! the reader's recursion, tied: so many levels, each with its room -/
def dS : Nat → Nat
  | 0 => 23
  | k + 1 => dS k + 3
theorem dS_le (k : Nat) : 23 ≤ dS k := by
  induction k with
  | zero => exact Nat.le_refl _
  | succ k ih => exact Nat.le_trans ih (Nat.le_add_right _ 3)
def F_sum (N : Nat) : Nat → Int32 → cS → Option (Unit × cS)
  | 0 => fun _ _ => none
  | k + 1 => fun o s => f_X4_readSum N (f_X4_readTerm N (f_X4_readFactor N (F_sum N k))) o s
theorem pF_sum {g : pG} {l : Launch} {N : Nat} : ∀ (k : Nat) {o : Int32} {s : cS} {q : Unit × cS}, F_sum N k o s = some q → PM g l (dS k) M_X4_readSum [.ref 27, .int o] (tS s) none (tS q.2) 0 0
  | 0, _, _, _, h => by cases h
  | k + 1, o, s, q, h => p_X4_readSum (d := dS k + 2) (d0 := dS k + 2) (by have := dS_le k; omega) (Nat.le_refl _) (fun h1 => p_X4_readTerm (d := dS k + 1) (d0 := dS k + 1) (by have := dS_le k; omega) (Nat.le_refl _) (fun h2 => p_X4_readFactor (d := dS k) (d0 := dS k) (by have := dS_le k; omega) (Nat.le_refl _) (fun h3 => pF_sum k h3) h2) h1) h
def dP : Nat → Nat
  | 0 => 50
  | k + 1 => dP k + 4
theorem dP_le (k : Nat) : 50 ≤ dP k := by
  induction k with
  | zero => exact Nat.le_refl _
  | succ k ih => exact Nat.le_trans ih (Nat.le_add_right _ 4)
def F_piece (N : Nat) : Nat → Int32 → cS → Option (Unit × cS)
  | 0 => fun _ _ => none
  | k + 1 => fun o s => f_X4_readPiece (f_X4_readInside (F_piece N k) (f_X4_readChoice N (f_X4_readPart N (F_piece N k)))) (F_sum N 8) o s
def F_choice (N k : Nat) : Int32 → cS → Option (Unit × cS) := f_X4_readChoice N (f_X4_readPart N (F_piece N k))
theorem pF_choice {g : pG} {l : Launch} {N k : Nat} (hp : ∀ {o : Int32} {s : cS} {q : Unit × cS}, F_piece N k o s = some q → PM g l (dP k) M_X4_readPiece [.ref 27, .int o] (tS s) none (tS q.2) 0 0) {o : Int32} {s : cS} {q : Unit × cS} (h : F_choice N k o s = some q) : PM g l (dP k + 2) M_X4_readChoice [.ref 27, .int o] (tS s) none (tS q.2) 0 0 :=
  p_X4_readChoice (d := dP k + 1) (d0 := dP k + 1) (by have := dP_le k; omega) (Nat.le_refl _) (fun h1 => p_X4_readPart (d := dP k) (d0 := dP k) (by have := dP_le k; omega) (Nat.le_refl _) (fun h2 => hp h2) h1) h
theorem pF_piece {g : pG} {l : Launch} {N : Nat} : ∀ (k : Nat) {o : Int32} {s : cS} {q : Unit × cS}, F_piece N k o s = some q → PM g l (dP k) M_X4_readPiece [.ref 27, .int o] (tS s) none (tS q.2) 0 0
  | 0, _, _, _, h => by cases h
  | k + 1, o, s, q, h => p_X4_readPiece (d := dP k + 3) (d0 := dP k + 3) (d1 := dS 8) (by have := dP_le k; omega) (Nat.le_refl _) (by have := dP_le k; show 47 ≤ _; omega) (fun h1 => p_X4_readInside (d := dP k + 2) (d0 := dP k) (d1 := dP k + 2) (by have := dP_le k; omega) (by omega) (Nat.le_refl _) (fun h2 => pF_piece k h2) (fun h3 => pF_choice (fun h4 => pF_piece k h4) h3) h1) (fun h5 => pF_sum 8 h5) h
def F_clause (N : Nat) : Int32 → cS → Option (Unit × cS) := f_X4_readClause (F_sum N 8) (F_choice N 8)
theorem pF_clause {g : pG} {l : Launch} {N : Nat} {o : Int32} {s : cS} {q : Unit × cS} (h : F_clause N o s = some q) : PM g l 85 M_X4_readClause [.ref 27, .int o] (tS s) none (tS q.2) 0 0 :=
  p_X4_readClause (d := 84) (d0 := dS 8) (d1 := dP 8 + 2) (by decide) (by decide) (by decide) (fun h1 => pF_sum 8 h1) (fun h2 => pF_choice (fun h3 => pF_piece 8 h3) h2) h
def F_read (N : Nat) (T : Nat) (s : cS) : Option (Unit × cS) := f_X4_read N (F_clause N) T s
theorem pF_read {g : pG} {l : Launch} {N T : Nat} {s : cS} {q : Unit × cS} (hT : kd T 3) (h : F_read N T s = some q) : PM g l 86 M_X4_read [.ref 27, .ref T] (tS s) none (tS q.2) 0 0 :=
  p_X4_read (d := 85) (d0 := 85) (by decide) (Nat.le_refl _) (fun h1 => pF_clause h1) hT h
