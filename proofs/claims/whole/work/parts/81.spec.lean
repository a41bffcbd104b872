/-! the texts of laws, read: what both readers come to. A piece of a text is told by a row of codes: (0, number), (1, letter), (2, 0) not, (sign, 0) -/
abbrev Cd : Type := List (Nat × Nat)
abbrev PR : Type := (Nat × Cd) ⊕ (Nat × Nat)
/-- the sign at a place; behind the end 256 -/
def cq (tb : Nat → Nat) (e p : Nat) : Nat := if p < e then tb p else 256
def digS (tb : Nat → Nat) (e : Nat) : Nat → Nat → Nat → (Nat × Nat) ⊕ (Nat × Nat)
  | 0, p, v => if 48 ≤ cq tb e p ∧ cq tb e p ≤ 57 then .inr (2, p) else .inl (p, v)
  | k + 1, p, v => if 48 ≤ cq tb e p ∧ cq tb e p ≤ 57 then digS tb e k (p + 1) (v * 10 + (cq tb e p - 48)) else .inl (p, v)
def numS (tb : Nat → Nat) (e m p : Nat) : (Nat × Nat) ⊕ (Nat × Nat) := if 48 ≤ cq tb e p ∧ cq tb e p ≤ 57 then digS tb e m p 0 else .inr (1, p)
def lets : List Nat := [112, 114, 116, 107, 99, 110, 113, 104, 108, 119]
def facS (tb : Nat → Nat) (e : Nat) (sum : Nat → Nat → PR) (d p : Nat) : PR :=
  if cq tb e p ∈ lets then .inl (p + 1, [(1, cq tb e p)])
  else if cq tb e p = 91 then
    if d < 6 then match sum (d + 1) (p + 1) with
      | .inl (p', L) => if cq tb e p' = 93 then .inl (p' + 1, L) else .inr (1, p')
      | .inr f => .inr f
    else .inr (5, p)
  else match numS tb e 5 p with
    | .inl (p', v) => .inl (p', [(0, v)])
    | .inr f => .inr f
/-- more of the same behind signs: the codes so far are L -/
def lpS (tb : Nat → Nat) (e : Nat) (ops : List Nat) (sub : Nat → Nat → PR) : Nat → Nat → Nat → Cd → PR
  | 0, _, p, L => .inl (p, L)
  | k + 1, d, p, L => if cq tb e p ∈ ops then match sub d (p + 1) with
      | .inl (p', L') => lpS tb e ops sub k d p' (L ++ L' ++ [(cq tb e p, 0)])
      | .inr f => .inr f
    else .inl (p, L)
def chS (tb : Nat → Nat) (e : Nat) (ops : List Nat) (sub : Nat → Nat → PR) (d p : Nat) : PR := match sub d p with
  | .inl (p', L) => lpS tb e ops sub 160 d p' L
  | .inr f => .inr f
def termS (tb : Nat → Nat) (e : Nat) (sum : Nat → Nat → PR) : Nat → Nat → PR := chS tb e [42, 47, 37] (facS tb e sum)
def sumS (tb : Nat → Nat) (e : Nat) : Nat → Nat → Nat → PR
  | 0 => fun _ _ => .inr (0, 0)
  | k + 1 => chS tb e [43, 45] (termS tb e (sumS tb e k))
def pieS (tb : Nat → Nat) (e : Nat) (pie cho sum : Nat → Nat → PR) (d p : Nat) : PR :=
  if cq tb e p = 33 then
    if d < 6 then match pie (d + 1) (p + 1) with
      | .inl (p', L) => .inl (p', L ++ [(2, 0)])
      | .inr f => .inr f
    else .inr (5, p)
  else if cq tb e p = 40 then
    if d < 6 then match cho (d + 1) (p + 1) with
      | .inl (p', L) => if cq tb e p' = 41 then .inl (p' + 1, L) else .inr (1, p')
      | .inr f => .inr f
    else .inr (5, p)
  else match sum d p with
    | .inl (p', L) => if cq tb e p' ∈ [60, 62, 61] then match sum d (p' + 1) with
        | .inl (p'', L') => .inl (p'', L ++ L' ++ [(cq tb e p', 0)])
        | .inr f => .inr f
      else .inr (1, p')
    | .inr f => .inr f
def choS (tb : Nat → Nat) (e : Nat) (pie : Nat → Nat → PR) : Nat → Nat → PR := chS tb e [124] (chS tb e [38] pie)
def pieceS (tb : Nat → Nat) (e : Nat) : Nat → Nat → Nat → PR
  | 0 => fun _ _ => .inr (0, 0)
  | k + 1 => pieS tb e (pieceS tb e k) (choS tb e (pieceS tb e k)) (sumS tb e 8)
/-- a clause: its letter, the codes of its sum, of its condition -/
abbrev Cl : Type := Nat × Cd × Cd
def claS (tb : Nat → Nat) (e i p : Nat) : (Nat × Cl) ⊕ (Nat × Nat) :=
  if cq tb e p ∈ [113, 100, 103] then
    if i < 12 then match sumS tb e 8 0 (p + 1) with
      | .inl (p1, L1) => if cq tb e p1 = 40 then match choS tb e (pieceS tb e 8) 1 (p1 + 1) with
          | .inl (p2, L2) => if cq tb e p2 = 41 then .inl (p2 + 1, (cq tb e p, L1, L2)) else .inr (1, p2)
          | .inr f => .inr f
        else .inr (1, p1)
      | .inr f => .inr f
    else .inr (4, p)
  else .inr (1, p)
def lawS (tb : Nat → Nat) (e : Nat) : Nat → Nat → Nat → List Cl → (List Cl) ⊕ (Nat × Nat)
  | 0, _, _, _ => .inr (0, 0)
  | k + 1, i, p, C => match claS tb e i p with
    | .inl (p', c) => if e ≤ p' then .inl (C ++ [c]) else if cq tb e p' = 59 then lawS tb e k (i + 1) (p' + 1) (C ++ [c]) else .inr (1, p')
    | .inr f => .inr f
