/-! X12_waysOf -/
def j_X12_waysOf_83 (x1 : Int32) (x2 : Int64) (x4 : Int32) (s : cS) : Option (((Int64 × Int32) × cS) ⊕ (Int64 × cS)) :=
  some (.inl ((x2, (x4 + (1 : Int32))), s))
set_option maxRecDepth 20000 in
set_option maxHeartbeats 4000000 in
theorem ok_j_X12_waysOf_83 {g : pG} {l : Launch} {F : pF} {x1 : Int32} {x2 : Int64} {x4 : Int32} {s : cS} {x : (((Int64 × Int32) × cS) ⊕ (Int64 × cS))} (h : j_X12_waysOf_83 x1 x2 x4 s = some x) (hx : (KL (fun (v : (Int64 × Int32) × cS) => PW g l (pRoom 2 0 0) M_X12_waysOf F 5 [(0, .ref 193), (1, .int x1), (2, .long v.1.1), (4, .int v.1.2)] [] (tS v.2) 0 0) (fun q => F = pE g (some (.long q.1)) (tS q.2) 0 0)) x) : PW g l (pRoom 2 0 0) M_X12_waysOf F 83 [(0, .ref 193), (1, .int x1), (2, .long x2), (4, .int x4)] [] (tS s) 0 0 := by
  unfold j_X12_waysOf_83 at h
  refine PW.iinc (v := (x4 + (1 : Int32))) 3 dX12_waysOf_83 rfl (by first | rfl | decide) (Nat.le_of_ble_eq_true rfl) rfl ?_
  refine PW.goto (tgt := 5) dX12_waysOf_86 (by decide) ?_
  cases h
  exact PW.pick [1, 2, 3, 0] rfl hx
def b_X12_waysOf_42 (x1 : Int32) (x2 : Int64) (x4 : Int32) (x5 : Int64) (x7 : Int32) (s : cS) : Option (((Int64 × Int32) × cS) ⊕ (((Int64 × Int32) × cS) ⊕ (Int64 × cS))) :=
  if inb x4 8 then
  if (iG s 199 x4.toNatClampNeg) ≤ x7 then
    oR (
      j_X12_waysOf_83 x1 (x2 * x5) x4 s)
  else
    if inb (((4 : Int32) * x4) + x7) 32 then
    some (.inl (((x5 + (iG s 201 (((4 : Int32) * x4) + x7).toNatClampNeg).toInt64), (x7 + (1 : Int32))), s))
    else none
  else none
set_option maxRecDepth 20000 in
set_option maxHeartbeats 4000000 in
theorem ok_b_X12_waysOf_42 {g : pG} {l : Launch} {F : pF} {x1 : Int32} {x2 : Int64} {x4 : Int32} {x5 : Int64} {x7 : Int32} {s : cS} {x : (((Int64 × Int32) × cS) ⊕ (((Int64 × Int32) × cS) ⊕ (Int64 × cS)))} (h : b_X12_waysOf_42 x1 x2 x4 x5 x7 s = some x) (hx : (KL (fun (v : (Int64 × Int32) × cS) => PW g l (pRoom 2 0 0) M_X12_waysOf F 42 [(0, .ref 193), (1, .int x1), (2, .long x2), (4, .int x4), (5, .long v.1.1), (7, .int v.1.2)] [] (tS v.2) 0 0) (KL (fun (v : (Int64 × Int32) × cS) => PW g l (pRoom 2 0 0) M_X12_waysOf F 5 [(0, .ref 193), (1, .int x1), (2, .long v.1.1), (4, .int v.1.2)] [] (tS v.2) 0 0) (fun q => F = pE g (some (.long q.1)) (tS q.2) 0 0))) x) : PW g l (pRoom 2 0 0) M_X12_waysOf F 42 [(0, .ref 193), (1, .int x1), (2, .long x2), (4, .int x4), (5, .long x5), (7, .int x7)] [] (tS s) 0 0 := by
  unfold b_X12_waysOf_42 at h
  refine PW.iload 5 dX12_waysOf_42 rfl ?_
  refine PW.aload_n 0 0 dX12_waysOf_44 rfl rfl rfl ?_
  refine CW.getr dX12_waysOf_45 fL_X12_26 LA_193 (Or.inr ⟨_, rfl⟩) rfl ?_
  refine PW.iload 3 dX12_waysOf_48 rfl ?_
  by_cases c6 : inb x4 8
  rotate_left
  · have h := ifn h c6; cases h
  replace h := ifp h c6
  refine CW.iald dX12_waysOf_50 LA_199 c6 ?_
  refine PW.icmp_ge (tgt := 78) dX12_waysOf_51 (by decide) (fun c7 => ?_) (fun c7 => ?_)
  · replace h := ifp h c7
    obtain ⟨xo, hy, hxo⟩ := oRb h
    clear h
    subst hxo
    replace hx := KLr hx
    have h := hy
    clear hy
    refine PW.lload_n 2 2 dX12_waysOf_78 rfl rfl ?_
    refine PW.lload 4 dX12_waysOf_79 rfl ?_
    refine PW.lmul dX12_waysOf_81 ?_
    refine PW.lstore_n dX12_waysOf_82 rfl (Nat.le_of_ble_eq_true rfl) rfl ?_
    exact PW.pick [1, 2, 0, 3] rfl (ok_j_X12_waysOf_83 h hx)
  · replace h := ifn h c7
    refine PW.lload 4 dX12_waysOf_54 rfl ?_
    refine PW.aload_n 0 0 dX12_waysOf_56 rfl rfl rfl ?_
    refine CW.getr dX12_waysOf_57 fL_X12_32 LA_193 (Or.inr ⟨_, rfl⟩) rfl ?_
    refine PW.iconst (v := 4) dX12_waysOf_60 (by decide) ?_
    refine PW.iload 3 dX12_waysOf_61 rfl ?_
    refine PW.imul dX12_waysOf_63 ?_
    refine PW.iload 5 dX12_waysOf_64 rfl ?_
    refine PW.iadd dX12_waysOf_66 ?_
    by_cases c8 : inb (((4 : Int32) * x4) + x7) 32
    rotate_left
    · have h := ifn h c8; cases h
    replace h := ifp h c8
    refine CW.iald dX12_waysOf_67 LA_201 c8 ?_
    refine PW.i2l dX12_waysOf_68 ?_
    refine PW.ladd dX12_waysOf_69 ?_
    refine PW.lstore dX12_waysOf_70 (Nat.le_of_ble_eq_true rfl) rfl ?_
    refine PW.iinc (v := (x7 + (1 : Int32))) 5 dX12_waysOf_72 rfl (by first | rfl | decide) (Nat.le_of_ble_eq_true rfl) rfl ?_
    refine PW.goto (tgt := 42) dX12_waysOf_75 (by decide) ?_
    cases h
    exact PW.pick [2, 3, 4, 5, 1, 0] rfl hx
def w_X12_waysOf_42 (N : Nat) (x1 : Int32) (x2 : Int64) (x4 : Int32) (x5 : Int64) (x7 : Int32) (s : cS) : Option (((Int64 × Int32) × cS) ⊕ (Int64 × cS)) := itr (fun (v : (Int64 × Int32) × cS) => b_X12_waysOf_42 x1 x2 x4 v.1.1 v.1.2 v.2) N ((x5, x7), s)
theorem ok_w_X12_waysOf_42 {g : pG} {l : Launch} {F : pF} {N : Nat} {x1 : Int32} {x2 : Int64} {x4 : Int32} {x5 : Int64} {x7 : Int32} {s : cS} {x : (((Int64 × Int32) × cS) ⊕ (Int64 × cS))} (h : w_X12_waysOf_42 N x1 x2 x4 x5 x7 s = some x) (hx : (KL (fun (v : (Int64 × Int32) × cS) => PW g l (pRoom 2 0 0) M_X12_waysOf F 5 [(0, .ref 193), (1, .int x1), (2, .long v.1.1), (4, .int v.1.2)] [] (tS v.2) 0 0) (fun q => F = pE g (some (.long q.1)) (tS q.2) 0 0)) x) : PW g l (pRoom 2 0 0) M_X12_waysOf F 42 [(0, .ref 193), (1, .int x1), (2, .long x2), (4, .int x4), (5, .long x5), (7, .int x7)] [] (tS s) 0 0 :=
  okIter (P := (fun (v : (Int64 × Int32) × cS) => PW g l (pRoom 2 0 0) M_X12_waysOf F 42 [(0, .ref 193), (1, .int x1), (2, .long x2), (4, .int x4), (5, .long v.1.1), (7, .int v.1.2)] [] (tS v.2) 0 0)) (K := (KL (fun (v : (Int64 × Int32) × cS) => PW g l (pRoom 2 0 0) M_X12_waysOf F 5 [(0, .ref 193), (1, .int x1), (2, .long v.1.1), (4, .int v.1.2)] [] (tS v.2) 0 0) (fun q => F = pE g (some (.long q.1)) (tS q.2) 0 0))) (fun v y hB hy => ok_b_X12_waysOf_42 hB hy) N ((x5, x7), s) x h hx
def b_X12_waysOf_5 (N : Nat) (x1 : Int32) (x2 : Int64) (x4 : Int32) (s : cS) : Option (((Int64 × Int32) × cS) ⊕ (Int64 × cS)) :=
  if (iG s 193 2) ≤ x4 then
    oR (
      some ((x2, s)))
  else
    if inb x4 8 then
    if (iG s 199 x4.toNatClampNeg) = 0 then
      j_X12_waysOf_83 x1 x2 x4 s
    else
      if (f_X12_has x1 x4 s) = 0 then
        j_X12_waysOf_83 x1 x2 x4 s
      else
        w_X12_waysOf_42 N x1 x2 x4 (0 : Int64) (0 : Int32) s
    else none
set_option maxRecDepth 20000 in
set_option maxHeartbeats 4000000 in
theorem ok_b_X12_waysOf_5 {g : pG} {l : Launch} {F : pF} {N : Nat} {x1 : Int32} {x2 : Int64} {x4 : Int32} {s : cS} {x : (((Int64 × Int32) × cS) ⊕ (Int64 × cS))} (h : b_X12_waysOf_5 N x1 x2 x4 s = some x) (hx : (KL (fun (v : (Int64 × Int32) × cS) => PW g l (pRoom 2 0 0) M_X12_waysOf F 5 [(0, .ref 193), (1, .int x1), (2, .long v.1.1), (4, .int v.1.2)] [] (tS v.2) 0 0) (fun q => F = pE g (some (.long q.1)) (tS q.2) 0 0)) x) : PW g l (pRoom 2 0 0) M_X12_waysOf F 5 [(0, .ref 193), (1, .int x1), (2, .long x2), (4, .int x4)] [] (tS s) 0 0 := by
  unfold b_X12_waysOf_5 at h
  refine PW.iload 3 dX12_waysOf_5 rfl ?_
  refine PW.aload_n 0 0 dX12_waysOf_7 rfl rfl rfl ?_
  refine CW.geti dX12_waysOf_8 fL_X12_161 LA_193 (Or.inl rfl) ?_
  refine PW.icmp_ge (tgt := 89) dX12_waysOf_11 (by decide) (fun c1 => ?_) (fun c1 => ?_)
  · replace h := ifp h c1
    obtain ⟨xo, hy, hxo⟩ := oRb h
    clear h
    subst hxo
    replace hx := KLr hx
    have h := hy
    clear hy
    refine PW.lload_n 2 2 dX12_waysOf_89 rfl rfl ?_
    cases h
    subst hx
    exact PW.lret dX12_waysOf_90 rfl (Nat.le_refl 0) (Nat.le_refl 0)
  · replace h := ifn h c1
    refine PW.aload_n 0 0 dX12_waysOf_14 rfl rfl rfl ?_
    refine CW.getr dX12_waysOf_15 fL_X12_26 LA_193 (Or.inr ⟨_, rfl⟩) rfl ?_
    refine PW.iload 3 dX12_waysOf_18 rfl ?_
    by_cases c2 : inb x4 8
    rotate_left
    · have h := ifn h c2; cases h
    replace h := ifp h c2
    refine CW.iald dX12_waysOf_20 LA_199 c2 ?_
    refine PW.if_eq (tgt := 83) dX12_waysOf_21 (by decide) (fun c3 => ?_) (fun c3 => ?_)
    · replace h := ifp h c3
      exact PW.pick [0, 1, 2, 3] rfl (ok_j_X12_waysOf_83 h hx)
    · replace h := ifn h c3
      refine PW.iload_n 1 1 dX12_waysOf_24 rfl rfl ?_
      refine PW.iload 3 dX12_waysOf_25 rfl ?_
      refine CW.callSi (st := []) [.int x1, .int x4] dX12_waysOf_27 (p_X12_has rfl) MS_X12_has mL_X12_380 rfl rfl (Nat.le_of_ble_eq_true rfl) (by first | decide | omega) ?_
      refine PW.if_ne (tgt := 36) dX12_waysOf_30 (by decide) (fun c5 => ?_) (fun c5 => ?_)
      · replace h := ifn h c5
        refine PW.lconst (v := 0) dX12_waysOf_36 (by decide) ?_
        refine PW.lstore dX12_waysOf_37 (Nat.le_of_ble_eq_true rfl) rfl ?_
        refine PW.iconst (v := 0) dX12_waysOf_39 (by decide) ?_
        refine PW.istore dX12_waysOf_40 (Nat.le_of_ble_eq_true rfl) rfl ?_
        exact PW.pick [2, 3, 4, 5, 1, 0] rfl (ok_w_X12_waysOf_42 h hx)
      · replace h := ifp h c5
        refine PW.goto (tgt := 83) dX12_waysOf_33 (by decide) ?_
        exact PW.pick [0, 1, 2, 3] rfl (ok_j_X12_waysOf_83 h hx)
def w_X12_waysOf_5 (N : Nat) (x1 : Int32) (x2 : Int64) (x4 : Int32) (s : cS) : Option (Int64 × cS) := itr (fun (v : (Int64 × Int32) × cS) => b_X12_waysOf_5 N x1 v.1.1 v.1.2 v.2) N ((x2, x4), s)
theorem ok_w_X12_waysOf_5 {g : pG} {l : Launch} {F : pF} {N : Nat} {x1 : Int32} {x2 : Int64} {x4 : Int32} {s : cS} {x : (Int64 × cS)} (h : w_X12_waysOf_5 N x1 x2 x4 s = some x) (hx : (fun q => F = pE g (some (.long q.1)) (tS q.2) 0 0) x) : PW g l (pRoom 2 0 0) M_X12_waysOf F 5 [(0, .ref 193), (1, .int x1), (2, .long x2), (4, .int x4)] [] (tS s) 0 0 :=
  okIter (P := (fun (v : (Int64 × Int32) × cS) => PW g l (pRoom 2 0 0) M_X12_waysOf F 5 [(0, .ref 193), (1, .int x1), (2, .long v.1.1), (4, .int v.1.2)] [] (tS v.2) 0 0)) (K := (fun q => F = pE g (some (.long q.1)) (tS q.2) 0 0)) (fun v y hB hy => ok_b_X12_waysOf_5 hB hy) N ((x2, x4), s) x h hx
def f_X12_waysOf (N : Nat) (a0 : Int32) (s : cS) : Option (Int64 × cS) :=
  w_X12_waysOf_5 N a0 (1 : Int64) (0 : Int32) s
set_option maxRecDepth 20000 in
set_option maxHeartbeats 4000000 in
theorem p_X12_waysOf {g : pG} {l : Launch} {N : Nat} {a0 : Int32} {s : cS} {q : Int64 × cS} (h : f_X12_waysOf N a0 s = some q) : PM g l 2 M_X12_waysOf [.ref 193, .int a0] (tS s) (some (.long q.1)) (tS q.2) 0 0 := by
  refine PM.of (by decide +kernel) (Nat.le_of_ble_eq_true rfl) ?_
  show PW g l (pRoom 2 0 0) M_X12_waysOf _ 0 [(0, .ref 193), (1, .int a0)] [] (tS s) 0 0
  unfold f_X12_waysOf at h
  generalize hF : pE g (some (.long q.1)) (tS q.2) 0 0 = F
  have hx := hF.symm
  refine PW.lconst (v := 1) dX12_waysOf_0 (by decide) ?_
  refine PW.lstore_n dX12_waysOf_1 rfl (Nat.le_of_ble_eq_true rfl) rfl ?_
  refine PW.iconst (v := 0) dX12_waysOf_2 (by decide) ?_
  refine PW.istore dX12_waysOf_3 (Nat.le_of_ble_eq_true rfl) rfl ?_
  exact PW.pick [2, 3, 1, 0] rfl (ok_w_X12_waysOf_5 h hx)
/-! X12_waysLeft -/
def j_X12_waysLeft_118 (x1 : Int32) (x2 : Int32) (x3 : Int64) (x5 : Int32) (s : cS) : Option (((Int64 × Int32) × cS) ⊕ (Int64 × cS)) :=
  some (.inl ((x3, (x5 + (1 : Int32))), s))
set_option maxRecDepth 20000 in
set_option maxHeartbeats 4000000 in
theorem ok_j_X12_waysLeft_118 {g : pG} {l : Launch} {F : pF} {x1 : Int32} {x2 : Int32} {x3 : Int64} {x5 : Int32} {s : cS} {x : (((Int64 × Int32) × cS) ⊕ (Int64 × cS))} (h : j_X12_waysLeft_118 x1 x2 x3 x5 s = some x) (hx : (KL (fun (v : (Int64 × Int32) × cS) => PW g l (pRoom 2 0 0) M_X12_waysLeft F 5 [(0, .ref 193), (1, .int x1), (2, .int x2), (3, .long v.1.1), (5, .int v.1.2)] [] (tS v.2) 0 0) (fun q => F = pE g (some (.long q.1)) (tS q.2) 0 0)) x) : PW g l (pRoom 2 0 0) M_X12_waysLeft F 118 [(0, .ref 193), (1, .int x1), (2, .int x2), (3, .long x3), (5, .int x5)] [] (tS s) 0 0 := by
  unfold j_X12_waysLeft_118 at h
  refine PW.iinc (v := (x5 + (1 : Int32))) 4 dX12_waysLeft_118 rfl (by first | rfl | decide) (Nat.le_of_ble_eq_true rfl) rfl ?_
  refine PW.goto (tgt := 5) dX12_waysLeft_121 (by decide) ?_
  cases h
  exact PW.pick [1, 2, 3, 4, 0] rfl hx
def j_X12_waysLeft_104 (x1 : Int32) (x2 : Int32) (x3 : Int64) (x5 : Int32) (x8 : Int32) (y0 : Int64) (y1 : Int64) (s : cS) : Option (((Int64 × Int32) × cS) ⊕ (((Int64 × Int32) × cS) ⊕ (Int64 × cS))) :=
  some (.inl (((y0 + y1), (x8 + (1 : Int32))), s))
set_option maxRecDepth 20000 in
set_option maxHeartbeats 4000000 in
theorem ok_j_X12_waysLeft_104 {g : pG} {l : Launch} {F : pF} {x1 : Int32} {x2 : Int32} {x3 : Int64} {x5 : Int32} {x8 : Int32} {y0 : Int64} {y1 : Int64} {s : cS} {x : (((Int64 × Int32) × cS) ⊕ (((Int64 × Int32) × cS) ⊕ (Int64 × cS)))} (h : j_X12_waysLeft_104 x1 x2 x3 x5 x8 y0 y1 s = some x) (hx : (KL (fun (v : (Int64 × Int32) × cS) => PW g l (pRoom 2 0 0) M_X12_waysLeft F 42 [(0, .ref 193), (1, .int x1), (2, .int x2), (3, .long x3), (5, .int x5), (6, .long v.1.1), (8, .int v.1.2)] [] (tS v.2) 0 0) (KL (fun (v : (Int64 × Int32) × cS) => PW g l (pRoom 2 0 0) M_X12_waysLeft F 5 [(0, .ref 193), (1, .int x1), (2, .int x2), (3, .long v.1.1), (5, .int v.1.2)] [] (tS v.2) 0 0) (fun q => F = pE g (some (.long q.1)) (tS q.2) 0 0))) x) : PW g l (pRoom 2 0 0) M_X12_waysLeft F 104 [(0, .ref 193), (1, .int x1), (2, .int x2), (3, .long x3), (5, .int x5), (8, .int x8)] [.long y1, .long y0] (tS s) 0 0 := by
  unfold j_X12_waysLeft_104 at h
  refine PW.ladd dX12_waysLeft_104 ?_
  refine PW.lstore dX12_waysLeft_105 (Nat.le_of_ble_eq_true rfl) rfl ?_
  refine PW.iinc (v := (x8 + (1 : Int32))) 6 dX12_waysLeft_107 rfl (by first | rfl | decide) (Nat.le_of_ble_eq_true rfl) rfl ?_
  refine PW.goto (tgt := 42) dX12_waysLeft_110 (by decide) ?_
  cases h
  exact PW.pick [2, 3, 4, 5, 6, 1, 0] rfl hx
def j_X12_waysLeft_87 (x1 : Int32) (x2 : Int32) (x3 : Int64) (x5 : Int32) (x8 : Int32) (y0 : Int64) (s : cS) : Option (((Int64 × Int32) × cS) ⊕ (((Int64 × Int32) × cS) ⊕ (Int64 × cS))) :=
  if inb (((4 : Int32) * x5) + x8) 32 then
  j_X12_waysLeft_104 x1 x2 x3 x5 x8 y0 ((iG s 201 (((4 : Int32) * x5) + x8).toNatClampNeg).toInt64) s
  else none
set_option maxRecDepth 20000 in
set_option maxHeartbeats 4000000 in
theorem ok_j_X12_waysLeft_87 {g : pG} {l : Launch} {F : pF} {x1 : Int32} {x2 : Int32} {x3 : Int64} {x5 : Int32} {x8 : Int32} {y0 : Int64} {s : cS} {x : (((Int64 × Int32) × cS) ⊕ (((Int64 × Int32) × cS) ⊕ (Int64 × cS)))} (h : j_X12_waysLeft_87 x1 x2 x3 x5 x8 y0 s = some x) (hx : (KL (fun (v : (Int64 × Int32) × cS) => PW g l (pRoom 2 0 0) M_X12_waysLeft F 42 [(0, .ref 193), (1, .int x1), (2, .int x2), (3, .long x3), (5, .int x5), (6, .long v.1.1), (8, .int v.1.2)] [] (tS v.2) 0 0) (KL (fun (v : (Int64 × Int32) × cS) => PW g l (pRoom 2 0 0) M_X12_waysLeft F 5 [(0, .ref 193), (1, .int x1), (2, .int x2), (3, .long v.1.1), (5, .int v.1.2)] [] (tS v.2) 0 0) (fun q => F = pE g (some (.long q.1)) (tS q.2) 0 0))) x) : PW g l (pRoom 2 0 0) M_X12_waysLeft F 87 [(0, .ref 193), (1, .int x1), (2, .int x2), (3, .long x3), (5, .int x5), (8, .int x8)] [.long y0] (tS s) 0 0 := by
  unfold j_X12_waysLeft_87 at h
  refine PW.aload_n 0 0 dX12_waysLeft_87 rfl rfl rfl ?_
  refine CW.getr dX12_waysLeft_88 fL_X12_32 LA_193 (Or.inr ⟨_, rfl⟩) rfl ?_
  refine PW.iconst (v := 4) dX12_waysLeft_91 (by decide) ?_
  refine PW.iload 4 dX12_waysLeft_92 rfl ?_
  refine PW.imul dX12_waysLeft_94 ?_
  refine PW.iload 5 dX12_waysLeft_95 rfl ?_
  refine PW.iadd dX12_waysLeft_97 ?_
  by_cases c10 : inb (((4 : Int32) * x5) + x8) 32
  rotate_left
  · have h := ifn h c10; cases h
  replace h := ifp h c10
  refine CW.iald dX12_waysLeft_98 LA_201 c10 ?_
  refine PW.i2l dX12_waysLeft_99 ?_
  refine PW.goto (tgt := 104) dX12_waysLeft_100 (by decide) ?_
  exact PW.pick [0, 1, 2, 3, 4, 5] rfl (ok_j_X12_waysLeft_104 h hx)
def b_X12_waysLeft_42 (x1 : Int32) (x2 : Int32) (x3 : Int64) (x5 : Int32) (x6 : Int64) (x8 : Int32) (s : cS) : Option (((Int64 × Int32) × cS) ⊕ (((Int64 × Int32) × cS) ⊕ (Int64 × cS))) :=
  if inb x5 8 then
  if (iG s 199 x5.toNatClampNeg) ≤ x8 then
    oR (
      j_X12_waysLeft_118 x1 x2 (x3 * x6) x5 s)
  else
    if inb (((4 : Int32) * x5) + x8) 32 then
    if (iG s 223 (((4 : Int32) * x5) + x8).toNatClampNeg) = 0 then
      j_X12_waysLeft_87 x1 x2 x3 x5 x8 x6 s
    else
      if (iG s 223 (((4 : Int32) * x5) + x8).toNatClampNeg) ≤ x2 then
        j_X12_waysLeft_104 x1 x2 x3 x5 x8 x6 (0 : Int64) s
      else
        j_X12_waysLeft_87 x1 x2 x3 x5 x8 x6 s
    else none
  else none
set_option maxRecDepth 20000 in
set_option maxHeartbeats 4000000 in
theorem ok_b_X12_waysLeft_42 {g : pG} {l : Launch} {F : pF} {x1 : Int32} {x2 : Int32} {x3 : Int64} {x5 : Int32} {x6 : Int64} {x8 : Int32} {s : cS} {x : (((Int64 × Int32) × cS) ⊕ (((Int64 × Int32) × cS) ⊕ (Int64 × cS)))} (h : b_X12_waysLeft_42 x1 x2 x3 x5 x6 x8 s = some x) (hx : (KL (fun (v : (Int64 × Int32) × cS) => PW g l (pRoom 2 0 0) M_X12_waysLeft F 42 [(0, .ref 193), (1, .int x1), (2, .int x2), (3, .long x3), (5, .int x5), (6, .long v.1.1), (8, .int v.1.2)] [] (tS v.2) 0 0) (KL (fun (v : (Int64 × Int32) × cS) => PW g l (pRoom 2 0 0) M_X12_waysLeft F 5 [(0, .ref 193), (1, .int x1), (2, .int x2), (3, .long v.1.1), (5, .int v.1.2)] [] (tS v.2) 0 0) (fun q => F = pE g (some (.long q.1)) (tS q.2) 0 0))) x) : PW g l (pRoom 2 0 0) M_X12_waysLeft F 42 [(0, .ref 193), (1, .int x1), (2, .int x2), (3, .long x3), (5, .int x5), (6, .long x6), (8, .int x8)] [] (tS s) 0 0 := by
  unfold b_X12_waysLeft_42 at h
  refine PW.iload 6 dX12_waysLeft_42 rfl ?_
  refine PW.aload_n 0 0 dX12_waysLeft_44 rfl rfl rfl ?_
  refine CW.getr dX12_waysLeft_45 fL_X12_26 LA_193 (Or.inr ⟨_, rfl⟩) rfl ?_
  refine PW.iload 4 dX12_waysLeft_48 rfl ?_
  by_cases c6 : inb x5 8
  rotate_left
  · have h := ifn h c6; cases h
  replace h := ifp h c6
  refine CW.iald dX12_waysLeft_50 LA_199 c6 ?_
  refine PW.icmp_ge (tgt := 113) dX12_waysLeft_51 (by decide) (fun c7 => ?_) (fun c7 => ?_)
  · replace h := ifp h c7
    obtain ⟨xo, hy, hxo⟩ := oRb h
    clear h
    subst hxo
    replace hx := KLr hx
    have h := hy
    clear hy
    refine PW.lload_n 3 3 dX12_waysLeft_113 rfl rfl ?_
    refine PW.lload 5 dX12_waysLeft_114 rfl ?_
    refine PW.lmul dX12_waysLeft_116 ?_
    refine PW.lstore_n dX12_waysLeft_117 rfl (Nat.le_of_ble_eq_true rfl) rfl ?_
    exact PW.pick [1, 2, 3, 0, 4] rfl (ok_j_X12_waysLeft_118 h hx)
  · replace h := ifn h c7
    refine PW.lload 5 dX12_waysLeft_54 rfl ?_
    refine PW.aload_n 0 0 dX12_waysLeft_56 rfl rfl rfl ?_
    refine CW.getr dX12_waysLeft_57 fL_X12_99 LA_193 (Or.inr ⟨_, rfl⟩) rfl ?_
    refine PW.iconst (v := 4) dX12_waysLeft_60 (by decide) ?_
    refine PW.iload 4 dX12_waysLeft_61 rfl ?_
    refine PW.imul dX12_waysLeft_63 ?_
    refine PW.iload 6 dX12_waysLeft_64 rfl ?_
    refine PW.iadd dX12_waysLeft_66 ?_
    by_cases c8 : inb (((4 : Int32) * x5) + x8) 32
    rotate_left
    · have h := ifn h c8; cases h
    replace h := ifp h c8
    refine CW.iald dX12_waysLeft_67 LA_223 c8 ?_
    refine PW.if_eq (tgt := 87) dX12_waysLeft_68 (by decide) (fun c9 => ?_) (fun c9 => ?_)
    · replace h := ifp h c9
      exact PW.pick [0, 1, 2, 3, 4, 6] rfl (ok_j_X12_waysLeft_87 h hx)
    · replace h := ifn h c9
      refine PW.aload_n 0 0 dX12_waysLeft_71 rfl rfl rfl ?_
      refine CW.getr dX12_waysLeft_72 fL_X12_99 LA_193 (Or.inr ⟨_, rfl⟩) rfl ?_
      refine PW.iconst (v := 4) dX12_waysLeft_75 (by decide) ?_
      refine PW.iload 4 dX12_waysLeft_76 rfl ?_
      refine PW.imul dX12_waysLeft_78 ?_
      refine PW.iload 6 dX12_waysLeft_79 rfl ?_
      refine PW.iadd dX12_waysLeft_81 ?_
      refine CW.iald dX12_waysLeft_82 LA_223 c8 ?_
      refine PW.iload_n 2 2 dX12_waysLeft_83 rfl rfl ?_
      refine PW.icmp_le (tgt := 103) dX12_waysLeft_84 (by decide) (fun c11 => ?_) (fun c11 => ?_)
      · replace h := ifp h c11
        refine PW.lconst (v := 0) dX12_waysLeft_103 (by decide) ?_
        exact PW.pick [0, 1, 2, 3, 4, 6] rfl (ok_j_X12_waysLeft_104 h hx)
      · replace h := ifn h c11
        exact PW.pick [0, 1, 2, 3, 4, 6] rfl (ok_j_X12_waysLeft_87 h hx)
def w_X12_waysLeft_42 (N : Nat) (x1 : Int32) (x2 : Int32) (x3 : Int64) (x5 : Int32) (x6 : Int64) (x8 : Int32) (s : cS) : Option (((Int64 × Int32) × cS) ⊕ (Int64 × cS)) := itr (fun (v : (Int64 × Int32) × cS) => b_X12_waysLeft_42 x1 x2 x3 x5 v.1.1 v.1.2 v.2) N ((x6, x8), s)
theorem ok_w_X12_waysLeft_42 {g : pG} {l : Launch} {F : pF} {N : Nat} {x1 : Int32} {x2 : Int32} {x3 : Int64} {x5 : Int32} {x6 : Int64} {x8 : Int32} {s : cS} {x : (((Int64 × Int32) × cS) ⊕ (Int64 × cS))} (h : w_X12_waysLeft_42 N x1 x2 x3 x5 x6 x8 s = some x) (hx : (KL (fun (v : (Int64 × Int32) × cS) => PW g l (pRoom 2 0 0) M_X12_waysLeft F 5 [(0, .ref 193), (1, .int x1), (2, .int x2), (3, .long v.1.1), (5, .int v.1.2)] [] (tS v.2) 0 0) (fun q => F = pE g (some (.long q.1)) (tS q.2) 0 0)) x) : PW g l (pRoom 2 0 0) M_X12_waysLeft F 42 [(0, .ref 193), (1, .int x1), (2, .int x2), (3, .long x3), (5, .int x5), (6, .long x6), (8, .int x8)] [] (tS s) 0 0 :=
  okIter (P := (fun (v : (Int64 × Int32) × cS) => PW g l (pRoom 2 0 0) M_X12_waysLeft F 42 [(0, .ref 193), (1, .int x1), (2, .int x2), (3, .long x3), (5, .int x5), (6, .long v.1.1), (8, .int v.1.2)] [] (tS v.2) 0 0)) (K := (KL (fun (v : (Int64 × Int32) × cS) => PW g l (pRoom 2 0 0) M_X12_waysLeft F 5 [(0, .ref 193), (1, .int x1), (2, .int x2), (3, .long v.1.1), (5, .int v.1.2)] [] (tS v.2) 0 0) (fun q => F = pE g (some (.long q.1)) (tS q.2) 0 0))) (fun v y hB hy => ok_b_X12_waysLeft_42 hB hy) N ((x6, x8), s) x h hx
def b_X12_waysLeft_5 (N : Nat) (x1 : Int32) (x2 : Int32) (x3 : Int64) (x5 : Int32) (s : cS) : Option (((Int64 × Int32) × cS) ⊕ (Int64 × cS)) :=
  if (iG s 193 2) ≤ x5 then
    oR (
      some ((x3, s)))
  else
    if inb x5 8 then
    if (iG s 199 x5.toNatClampNeg) = 0 then
      j_X12_waysLeft_118 x1 x2 x3 x5 s
    else
      if (f_X12_has x1 x5 s) = 0 then
        j_X12_waysLeft_118 x1 x2 x3 x5 s
      else
        w_X12_waysLeft_42 N x1 x2 x3 x5 (0 : Int64) (0 : Int32) s
    else none
set_option maxRecDepth 20000 in
set_option maxHeartbeats 4000000 in
theorem ok_b_X12_waysLeft_5 {g : pG} {l : Launch} {F : pF} {N : Nat} {x1 : Int32} {x2 : Int32} {x3 : Int64} {x5 : Int32} {s : cS} {x : (((Int64 × Int32) × cS) ⊕ (Int64 × cS))} (h : b_X12_waysLeft_5 N x1 x2 x3 x5 s = some x) (hx : (KL (fun (v : (Int64 × Int32) × cS) => PW g l (pRoom 2 0 0) M_X12_waysLeft F 5 [(0, .ref 193), (1, .int x1), (2, .int x2), (3, .long v.1.1), (5, .int v.1.2)] [] (tS v.2) 0 0) (fun q => F = pE g (some (.long q.1)) (tS q.2) 0 0)) x) : PW g l (pRoom 2 0 0) M_X12_waysLeft F 5 [(0, .ref 193), (1, .int x1), (2, .int x2), (3, .long x3), (5, .int x5)] [] (tS s) 0 0 := by
  unfold b_X12_waysLeft_5 at h
  refine PW.iload 4 dX12_waysLeft_5 rfl ?_
  refine PW.aload_n 0 0 dX12_waysLeft_7 rfl rfl rfl ?_
  refine CW.geti dX12_waysLeft_8 fL_X12_161 LA_193 (Or.inl rfl) ?_
  refine PW.icmp_ge (tgt := 124) dX12_waysLeft_11 (by decide) (fun c1 => ?_) (fun c1 => ?_)
  · replace h := ifp h c1
    obtain ⟨xo, hy, hxo⟩ := oRb h
    clear h
    subst hxo
    replace hx := KLr hx
    have h := hy
    clear hy
    refine PW.lload_n 3 3 dX12_waysLeft_124 rfl rfl ?_
    cases h
    subst hx
    exact PW.lret dX12_waysLeft_125 rfl (Nat.le_refl 0) (Nat.le_refl 0)
  · replace h := ifn h c1
    refine PW.aload_n 0 0 dX12_waysLeft_14 rfl rfl rfl ?_
    refine CW.getr dX12_waysLeft_15 fL_X12_26 LA_193 (Or.inr ⟨_, rfl⟩) rfl ?_
    refine PW.iload 4 dX12_waysLeft_18 rfl ?_
    by_cases c2 : inb x5 8
    rotate_left
    · have h := ifn h c2; cases h
    replace h := ifp h c2
    refine CW.iald dX12_waysLeft_20 LA_199 c2 ?_
    refine PW.if_eq (tgt := 118) dX12_waysLeft_21 (by decide) (fun c3 => ?_) (fun c3 => ?_)
    · replace h := ifp h c3
      exact PW.pick [0, 1, 2, 3, 4] rfl (ok_j_X12_waysLeft_118 h hx)
    · replace h := ifn h c3
      refine PW.iload_n 1 1 dX12_waysLeft_24 rfl rfl ?_
      refine PW.iload 4 dX12_waysLeft_25 rfl ?_
      refine CW.callSi (st := []) [.int x1, .int x5] dX12_waysLeft_27 (p_X12_has rfl) MS_X12_has mL_X12_380 rfl rfl (Nat.le_of_ble_eq_true rfl) (by first | decide | omega) ?_
      refine PW.if_ne (tgt := 36) dX12_waysLeft_30 (by decide) (fun c5 => ?_) (fun c5 => ?_)
      · replace h := ifn h c5
        refine PW.lconst (v := 0) dX12_waysLeft_36 (by decide) ?_
        refine PW.lstore dX12_waysLeft_37 (Nat.le_of_ble_eq_true rfl) rfl ?_
        refine PW.iconst (v := 0) dX12_waysLeft_39 (by decide) ?_
        refine PW.istore dX12_waysLeft_40 (Nat.le_of_ble_eq_true rfl) rfl ?_
        exact PW.pick [2, 3, 4, 5, 6, 1, 0] rfl (ok_w_X12_waysLeft_42 h hx)
      · replace h := ifp h c5
        refine PW.goto (tgt := 118) dX12_waysLeft_33 (by decide) ?_
        exact PW.pick [0, 1, 2, 3, 4] rfl (ok_j_X12_waysLeft_118 h hx)
def w_X12_waysLeft_5 (N : Nat) (x1 : Int32) (x2 : Int32) (x3 : Int64) (x5 : Int32) (s : cS) : Option (Int64 × cS) := itr (fun (v : (Int64 × Int32) × cS) => b_X12_waysLeft_5 N x1 x2 v.1.1 v.1.2 v.2) N ((x3, x5), s)
theorem ok_w_X12_waysLeft_5 {g : pG} {l : Launch} {F : pF} {N : Nat} {x1 : Int32} {x2 : Int32} {x3 : Int64} {x5 : Int32} {s : cS} {x : (Int64 × cS)} (h : w_X12_waysLeft_5 N x1 x2 x3 x5 s = some x) (hx : (fun q => F = pE g (some (.long q.1)) (tS q.2) 0 0) x) : PW g l (pRoom 2 0 0) M_X12_waysLeft F 5 [(0, .ref 193), (1, .int x1), (2, .int x2), (3, .long x3), (5, .int x5)] [] (tS s) 0 0 :=
  okIter (P := (fun (v : (Int64 × Int32) × cS) => PW g l (pRoom 2 0 0) M_X12_waysLeft F 5 [(0, .ref 193), (1, .int x1), (2, .int x2), (3, .long v.1.1), (5, .int v.1.2)] [] (tS v.2) 0 0)) (K := (fun q => F = pE g (some (.long q.1)) (tS q.2) 0 0)) (fun v y hB hy => ok_b_X12_waysLeft_5 hB hy) N ((x3, x5), s) x h hx
def f_X12_waysLeft (N : Nat) (a0 : Int32) (a1 : Int32) (s : cS) : Option (Int64 × cS) :=
  w_X12_waysLeft_5 N a0 a1 (1 : Int64) (0 : Int32) s
set_option maxRecDepth 20000 in
set_option maxHeartbeats 4000000 in
theorem p_X12_waysLeft {g : pG} {l : Launch} {N : Nat} {a0 : Int32} {a1 : Int32} {s : cS} {q : Int64 × cS} (h : f_X12_waysLeft N a0 a1 s = some q) : PM g l 2 M_X12_waysLeft [.ref 193, .int a0, .int a1] (tS s) (some (.long q.1)) (tS q.2) 0 0 := by
  refine PM.of (by decide +kernel) (Nat.le_of_ble_eq_true rfl) ?_
  show PW g l (pRoom 2 0 0) M_X12_waysLeft _ 0 [(0, .ref 193), (1, .int a0), (2, .int a1)] [] (tS s) 0 0
  unfold f_X12_waysLeft at h
  generalize hF : pE g (some (.long q.1)) (tS q.2) 0 0 = F
  have hx := hF.symm
  refine PW.lconst (v := 1) dX12_waysLeft_0 (by decide) ?_
  refine PW.lstore_n dX12_waysLeft_1 rfl (Nat.le_of_ble_eq_true rfl) rfl ?_
  refine PW.iconst (v := 0) dX12_waysLeft_2 (by decide) ?_
  refine PW.istore dX12_waysLeft_3 (Nat.le_of_ble_eq_true rfl) rfl ?_
  exact PW.pick [2, 3, 4, 1, 0] rfl (ok_w_X12_waysLeft_5 h hx)
/-! X12_whole -/
def f_X12_whole (s : cS) : Int32 :=
  (((1 : Int32) <<< ((iG s 193 2) &&& 31)) - (1 : Int32))
set_option maxRecDepth 20000 in
set_option maxHeartbeats 4000000 in
theorem p_X12_whole {g : pG} {l : Launch} {s : cS} {q : Int32} (h : f_X12_whole s = q) : PM g l 1 M_X12_whole [.ref 193] (tS s) (some (.int q)) (tS s) 0 0 := by
  refine PM.of (by decide +kernel) (Nat.le_of_ble_eq_true rfl) ?_
  show PW g l (pRoom 1 0 0) M_X12_whole _ 0 [(0, .ref 193)] [] (tS s) 0 0
  unfold f_X12_whole at h
  generalize hF : pE g (some (.int q)) (tS s) 0 0 = F
  have hx := hF.symm
  refine PW.iconst (v := 1) dX12_whole_0 (by decide) ?_
  refine PW.aload_n 0 0 dX12_whole_1 rfl rfl rfl ?_
  refine CW.geti dX12_whole_2 fL_X12_161 LA_193 (Or.inl rfl) ?_
  refine PW.ishl dX12_whole_5 ?_
  refine PW.iconst (v := 1) dX12_whole_6 (by decide) ?_
  refine PW.isub dX12_whole_7 ?_
  cases h
  subst hx
  exact PW.iret (v := (((1 : Int32) <<< ((iG s 193 2) &&& 31)) - (1 : Int32))) dX12_whole_8 rfl rfl (Nat.le_refl 0) (Nat.le_refl 0)
/-! X12_first -/
def j_X12_first_185 (x1 : Int32) (x2 : Int64) (x4 : Int32) (s : cS) : Option (((Int64 × Int32) × cS) ⊕ (Int64 × cS)) :=
  some (.inl ((x2, (x4 + (1 : Int32))), s))
set_option maxRecDepth 20000 in
set_option maxHeartbeats 4000000 in
theorem ok_j_X12_first_185 {g : pG} {l : Launch} {F : pF} {x1 : Int32} {x2 : Int64} {x4 : Int32} {s : cS} {x : (((Int64 × Int32) × cS) ⊕ (Int64 × cS))} (h : j_X12_first_185 x1 x2 x4 s = some x) (hx : (KL (fun (v : (Int64 × Int32) × cS) => PW g l (pRoom 1 0 0) M_X12_first F 5 [(0, .ref 193), (1, .int x1), (2, .long v.1.1), (4, .int v.1.2)] [] (tS v.2) 0 0) (fun q => F = pE g (some (.long q.1)) (tS q.2) 0 0)) x) : PW g l (pRoom 1 0 0) M_X12_first F 185 [(0, .ref 193), (1, .int x1), (2, .long x2), (4, .int x4)] [] (tS s) 0 0 := by
  unfold j_X12_first_185 at h
  refine PW.iinc (v := (x4 + (1 : Int32))) 3 dX12_first_185 rfl (by first | rfl | decide) (Nat.le_of_ble_eq_true rfl) rfl ?_
  refine PW.goto (tgt := 5) dX12_first_188 (by decide) ?_
  cases h
  exact PW.pick [1, 2, 3, 0] rfl hx
def j_X12_first_174 (x1 : Int32) (x2 : Int64) (x4 : Int32) (x5 : Int32) (x6 : Int64) (x8 : Int32) (s : cS) : Option (((Int64 × Int32) × cS) ⊕ (((Int64 × Int32) × cS) ⊕ (Int64 × cS))) :=
  some (.inl ((x6, (x8 + (1 : Int32))), s))
set_option maxRecDepth 20000 in
set_option maxHeartbeats 4000000 in
theorem ok_j_X12_first_174 {g : pG} {l : Launch} {F : pF} {x1 : Int32} {x2 : Int64} {x4 : Int32} {x5 : Int32} {x6 : Int64} {x8 : Int32} {s : cS} {x : (((Int64 × Int32) × cS) ⊕ (((Int64 × Int32) × cS) ⊕ (Int64 × cS)))} (h : j_X12_first_174 x1 x2 x4 x5 x6 x8 s = some x) (hx : (KL (fun (v : (Int64 × Int32) × cS) => PW g l (pRoom 1 0 0) M_X12_first F 54 [(0, .ref 193), (1, .int x1), (2, .long x2), (4, .int x4), (5, .int x5), (6, .long v.1.1), (8, .int v.1.2)] [] (tS v.2) 0 0) (KL (fun (v : (Int64 × Int32) × cS) => PW g l (pRoom 1 0 0) M_X12_first F 5 [(0, .ref 193), (1, .int x1), (2, .long v.1.1), (4, .int v.1.2)] [] (tS v.2) 0 0) (fun q => F = pE g (some (.long q.1)) (tS q.2) 0 0))) x) : PW g l (pRoom 1 0 0) M_X12_first F 174 [(0, .ref 193), (1, .int x1), (2, .long x2), (4, .int x4), (5, .int x5), (6, .long x6), (8, .int x8)] [] (tS s) 0 0 := by
  unfold j_X12_first_174 at h
  refine PW.iinc (v := (x8 + (1 : Int32))) 6 dX12_first_174 rfl (by first | rfl | decide) (Nat.le_of_ble_eq_true rfl) rfl ?_
  refine PW.goto (tgt := 54) dX12_first_177 (by decide) ?_
  cases h
  exact PW.pick [1, 2, 3, 4, 5, 6, 0] rfl hx
def j_X12_first_158 (x1 : Int32) (x2 : Int64) (x4 : Int32) (x5 : Int32) (x6 : Int64) (x8 : Int32) (x11 : Int32) (y0 : Int64) (y1 : Int64) (s : cS) : Option (((Int64 × Int32) × cS) ⊕ (((Int64 × Int32) × cS) ⊕ (((Int64 × Int32) × cS) ⊕ (Int64 × cS)))) :=
  some (.inl (((y0 + y1), (x11 + (1 : Int32))), s))
set_option maxRecDepth 20000 in
set_option maxHeartbeats 4000000 in
theorem ok_j_X12_first_158 {g : pG} {l : Launch} {F : pF} {x1 : Int32} {x2 : Int64} {x4 : Int32} {x5 : Int32} {x6 : Int64} {x8 : Int32} {x11 : Int32} {y0 : Int64} {y1 : Int64} {s : cS} {x : (((Int64 × Int32) × cS) ⊕ (((Int64 × Int32) × cS) ⊕ (((Int64 × Int32) × cS) ⊕ (Int64 × cS))))} (h : j_X12_first_158 x1 x2 x4 x5 x6 x8 x11 y0 y1 s = some x) (hx : (KL (fun (v : (Int64 × Int32) × cS) => PW g l (pRoom 1 0 0) M_X12_first F 88 [(0, .ref 193), (1, .int x1), (2, .long x2), (4, .int x4), (5, .int x5), (6, .long x6), (8, .int x8), (9, .long v.1.1), (11, .int v.1.2)] [] (tS v.2) 0 0) (KL (fun (v : (Int64 × Int32) × cS) => PW g l (pRoom 1 0 0) M_X12_first F 54 [(0, .ref 193), (1, .int x1), (2, .long x2), (4, .int x4), (5, .int x5), (6, .long v.1.1), (8, .int v.1.2)] [] (tS v.2) 0 0) (KL (fun (v : (Int64 × Int32) × cS) => PW g l (pRoom 1 0 0) M_X12_first F 5 [(0, .ref 193), (1, .int x1), (2, .long v.1.1), (4, .int v.1.2)] [] (tS v.2) 0 0) (fun q => F = pE g (some (.long q.1)) (tS q.2) 0 0)))) x) : PW g l (pRoom 1 0 0) M_X12_first F 158 [(0, .ref 193), (1, .int x1), (2, .long x2), (4, .int x4), (5, .int x5), (6, .long x6), (8, .int x8), (11, .int x11)] [.long y1, .long y0] (tS s) 0 0 := by
  unfold j_X12_first_158 at h
  refine PW.ladd dX12_first_158 ?_
  refine PW.lstore dX12_first_159 (Nat.le_of_ble_eq_true rfl) rfl ?_
  refine PW.iinc (v := (x11 + (1 : Int32))) 8 dX12_first_161 rfl (by first | rfl | decide) (Nat.le_of_ble_eq_true rfl) rfl ?_
  refine PW.goto (tgt := 88) dX12_first_164 (by decide) ?_
  cases h
  exact PW.pick [2, 3, 4, 5, 6, 7, 8, 1, 0] rfl hx
def j_X12_first_141 (x1 : Int32) (x2 : Int64) (x4 : Int32) (x5 : Int32) (x6 : Int64) (x8 : Int32) (x11 : Int32) (y0 : Int64) (s : cS) : Option (((Int64 × Int32) × cS) ⊕ (((Int64 × Int32) × cS) ⊕ (((Int64 × Int32) × cS) ⊕ (Int64 × cS)))) :=
  if inb (((4 : Int32) * x8) + x11) 32 then
  j_X12_first_158 x1 x2 x4 x5 x6 x8 x11 y0 ((iG s 201 (((4 : Int32) * x8) + x11).toNatClampNeg).toInt64) s
  else none
set_option maxRecDepth 20000 in
set_option maxHeartbeats 4000000 in
theorem ok_j_X12_first_141 {g : pG} {l : Launch} {F : pF} {x1 : Int32} {x2 : Int64} {x4 : Int32} {x5 : Int32} {x6 : Int64} {x8 : Int32} {x11 : Int32} {y0 : Int64} {s : cS} {x : (((Int64 × Int32) × cS) ⊕ (((Int64 × Int32) × cS) ⊕ (((Int64 × Int32) × cS) ⊕ (Int64 × cS))))} (h : j_X12_first_141 x1 x2 x4 x5 x6 x8 x11 y0 s = some x) (hx : (KL (fun (v : (Int64 × Int32) × cS) => PW g l (pRoom 1 0 0) M_X12_first F 88 [(0, .ref 193), (1, .int x1), (2, .long x2), (4, .int x4), (5, .int x5), (6, .long x6), (8, .int x8), (9, .long v.1.1), (11, .int v.1.2)] [] (tS v.2) 0 0) (KL (fun (v : (Int64 × Int32) × cS) => PW g l (pRoom 1 0 0) M_X12_first F 54 [(0, .ref 193), (1, .int x1), (2, .long x2), (4, .int x4), (5, .int x5), (6, .long v.1.1), (8, .int v.1.2)] [] (tS v.2) 0 0) (KL (fun (v : (Int64 × Int32) × cS) => PW g l (pRoom 1 0 0) M_X12_first F 5 [(0, .ref 193), (1, .int x1), (2, .long v.1.1), (4, .int v.1.2)] [] (tS v.2) 0 0) (fun q => F = pE g (some (.long q.1)) (tS q.2) 0 0)))) x) : PW g l (pRoom 1 0 0) M_X12_first F 141 [(0, .ref 193), (1, .int x1), (2, .long x2), (4, .int x4), (5, .int x5), (6, .long x6), (8, .int x8), (11, .int x11)] [.long y0] (tS s) 0 0 := by
  unfold j_X12_first_141 at h
  refine PW.aload_n 0 0 dX12_first_141 rfl rfl rfl ?_
  refine CW.getr dX12_first_142 fL_X12_32 LA_193 (Or.inr ⟨_, rfl⟩) rfl ?_
  refine PW.iconst (v := 4) dX12_first_145 (by decide) ?_
  refine PW.iload 6 dX12_first_146 rfl ?_
  refine PW.imul dX12_first_148 ?_
  refine PW.iload 7 dX12_first_149 rfl ?_
  refine PW.iadd dX12_first_151 ?_
  by_cases c13 : inb (((4 : Int32) * x8) + x11) 32
  rotate_left
  · have h := ifn h c13; cases h
  replace h := ifp h c13
  refine CW.iald dX12_first_152 LA_201 c13 ?_
  refine PW.i2l dX12_first_153 ?_
  refine PW.goto (tgt := 158) dX12_first_154 (by decide) ?_
  exact PW.pick [0, 1, 2, 3, 4, 5, 6, 7] rfl (ok_j_X12_first_158 h hx)
def j_X12_first_157 (x1 : Int32) (x2 : Int64) (x4 : Int32) (x5 : Int32) (x6 : Int64) (x8 : Int32) (x11 : Int32) (y0 : Int64) (s : cS) : Option (((Int64 × Int32) × cS) ⊕ (((Int64 × Int32) × cS) ⊕ (((Int64 × Int32) × cS) ⊕ (Int64 × cS)))) :=
  j_X12_first_158 x1 x2 x4 x5 x6 x8 x11 y0 (0 : Int64) s
set_option maxRecDepth 20000 in
set_option maxHeartbeats 4000000 in
theorem ok_j_X12_first_157 {g : pG} {l : Launch} {F : pF} {x1 : Int32} {x2 : Int64} {x4 : Int32} {x5 : Int32} {x6 : Int64} {x8 : Int32} {x11 : Int32} {y0 : Int64} {s : cS} {x : (((Int64 × Int32) × cS) ⊕ (((Int64 × Int32) × cS) ⊕ (((Int64 × Int32) × cS) ⊕ (Int64 × cS))))} (h : j_X12_first_157 x1 x2 x4 x5 x6 x8 x11 y0 s = some x) (hx : (KL (fun (v : (Int64 × Int32) × cS) => PW g l (pRoom 1 0 0) M_X12_first F 88 [(0, .ref 193), (1, .int x1), (2, .long x2), (4, .int x4), (5, .int x5), (6, .long x6), (8, .int x8), (9, .long v.1.1), (11, .int v.1.2)] [] (tS v.2) 0 0) (KL (fun (v : (Int64 × Int32) × cS) => PW g l (pRoom 1 0 0) M_X12_first F 54 [(0, .ref 193), (1, .int x1), (2, .long x2), (4, .int x4), (5, .int x5), (6, .long v.1.1), (8, .int v.1.2)] [] (tS v.2) 0 0) (KL (fun (v : (Int64 × Int32) × cS) => PW g l (pRoom 1 0 0) M_X12_first F 5 [(0, .ref 193), (1, .int x1), (2, .long v.1.1), (4, .int v.1.2)] [] (tS v.2) 0 0) (fun q => F = pE g (some (.long q.1)) (tS q.2) 0 0)))) x) : PW g l (pRoom 1 0 0) M_X12_first F 157 [(0, .ref 193), (1, .int x1), (2, .long x2), (4, .int x4), (5, .int x5), (6, .long x6), (8, .int x8), (11, .int x11)] [.long y0] (tS s) 0 0 := by
  unfold j_X12_first_157 at h
  refine PW.lconst (v := 0) dX12_first_157 (by decide) ?_
  exact PW.pick [0, 1, 2, 3, 4, 5, 6, 7] rfl (ok_j_X12_first_158 h hx)
def b_X12_first_88 (x1 : Int32) (x2 : Int64) (x4 : Int32) (x5 : Int32) (x6 : Int64) (x8 : Int32) (x9 : Int64) (x11 : Int32) (s : cS) : Option (((Int64 × Int32) × cS) ⊕ (((Int64 × Int32) × cS) ⊕ (((Int64 × Int32) × cS) ⊕ (Int64 × cS)))) :=
  if inb x8 8 then
  if (iG s 199 x8.toNatClampNeg) ≤ x11 then
    oR (
      j_X12_first_174 x1 x2 x4 x5 (x6 * x9) x8 s)
  else
    if inb (((4 : Int32) * x8) + x11) 32 then
    if (iG s 223 (((4 : Int32) * x8) + x11).toNatClampNeg) = 0 then
      j_X12_first_141 x1 x2 x4 x5 x6 x8 x11 x9 s
    else
      if x5 < (iG s 223 (((4 : Int32) * x8) + x11).toNatClampNeg) then
        j_X12_first_141 x1 x2 x4 x5 x6 x8 x11 x9 s
      else
        if (iG s 223 (((4 : Int32) * x8) + x11).toNatClampNeg) = x5 then
          if x8 ≤ x1 then
            j_X12_first_157 x1 x2 x4 x5 x6 x8 x11 x9 s
          else
            j_X12_first_141 x1 x2 x4 x5 x6 x8 x11 x9 s
        else
          j_X12_first_157 x1 x2 x4 x5 x6 x8 x11 x9 s
    else none
  else none
set_option maxRecDepth 20000 in
set_option maxHeartbeats 4000000 in
theorem ok_b_X12_first_88 {g : pG} {l : Launch} {F : pF} {x1 : Int32} {x2 : Int64} {x4 : Int32} {x5 : Int32} {x6 : Int64} {x8 : Int32} {x9 : Int64} {x11 : Int32} {s : cS} {x : (((Int64 × Int32) × cS) ⊕ (((Int64 × Int32) × cS) ⊕ (((Int64 × Int32) × cS) ⊕ (Int64 × cS))))} (h : b_X12_first_88 x1 x2 x4 x5 x6 x8 x9 x11 s = some x) (hx : (KL (fun (v : (Int64 × Int32) × cS) => PW g l (pRoom 1 0 0) M_X12_first F 88 [(0, .ref 193), (1, .int x1), (2, .long x2), (4, .int x4), (5, .int x5), (6, .long x6), (8, .int x8), (9, .long v.1.1), (11, .int v.1.2)] [] (tS v.2) 0 0) (KL (fun (v : (Int64 × Int32) × cS) => PW g l (pRoom 1 0 0) M_X12_first F 54 [(0, .ref 193), (1, .int x1), (2, .long x2), (4, .int x4), (5, .int x5), (6, .long v.1.1), (8, .int v.1.2)] [] (tS v.2) 0 0) (KL (fun (v : (Int64 × Int32) × cS) => PW g l (pRoom 1 0 0) M_X12_first F 5 [(0, .ref 193), (1, .int x1), (2, .long v.1.1), (4, .int v.1.2)] [] (tS v.2) 0 0) (fun q => F = pE g (some (.long q.1)) (tS q.2) 0 0)))) x) : PW g l (pRoom 1 0 0) M_X12_first F 88 [(0, .ref 193), (1, .int x1), (2, .long x2), (4, .int x4), (5, .int x5), (6, .long x6), (8, .int x8), (9, .long x9), (11, .int x11)] [] (tS s) 0 0 := by
  unfold b_X12_first_88 at h
  refine PW.iload 8 dX12_first_88 rfl ?_
  refine PW.aload_n 0 0 dX12_first_90 rfl rfl rfl ?_
  refine CW.getr dX12_first_91 fL_X12_26 LA_193 (Or.inr ⟨_, rfl⟩) rfl ?_
  refine PW.iload 6 dX12_first_94 rfl ?_
  by_cases c9 : inb x8 8
  rotate_left
  · have h := ifn h c9; cases h
  replace h := ifp h c9
  refine CW.iald dX12_first_96 LA_199 c9 ?_
  refine PW.icmp_ge (tgt := 167) dX12_first_97 (by decide) (fun c10 => ?_) (fun c10 => ?_)
  · replace h := ifp h c10
    obtain ⟨xo, hy, hxo⟩ := oRb h
    clear h
    subst hxo
    replace hx := KLr hx
    have h := hy
    clear hy
    refine PW.lload 5 dX12_first_167 rfl ?_
    refine PW.lload 7 dX12_first_169 rfl ?_
    refine PW.lmul dX12_first_171 ?_
    refine PW.lstore dX12_first_172 (Nat.le_of_ble_eq_true rfl) rfl ?_
    exact PW.pick [1, 2, 3, 4, 5, 0, 6] rfl (ok_j_X12_first_174 h hx)
  · replace h := ifn h c10
    refine PW.aload_n 0 0 dX12_first_100 rfl rfl rfl ?_
    refine CW.getr dX12_first_101 fL_X12_99 LA_193 (Or.inr ⟨_, rfl⟩) rfl ?_
    refine PW.iconst (v := 4) dX12_first_104 (by decide) ?_
    refine PW.iload 6 dX12_first_105 rfl ?_
    refine PW.imul dX12_first_107 ?_
    refine PW.iload 8 dX12_first_108 rfl ?_
    refine PW.iadd dX12_first_110 ?_
    by_cases c11 : inb (((4 : Int32) * x8) + x11) 32
    rotate_left
    · have h := ifn h c11; cases h
    replace h := ifp h c11
    refine CW.iald dX12_first_111 LA_223 c11 ?_
    refine PW.istore dX12_first_112 (Nat.le_of_ble_eq_true rfl) rfl ?_
    refine PW.lload 8 dX12_first_114 rfl ?_
    refine PW.iload 0 dX12_first_116 rfl ?_
    refine PW.if_eq (tgt := 141) dX12_first_118 (by decide) (fun c12 => ?_) (fun c12 => ?_)
    · replace h := ifp h c12
      exact PW.pick [1, 2, 3, 4, 5, 6, 7, 9] rfl (ok_j_X12_first_141 h hx)
    · replace h := ifn h c12
      refine PW.iload 0 dX12_first_121 rfl ?_
      refine PW.iload 5 dX12_first_123 rfl ?_
      refine PW.icmp_gt (tgt := 141) dX12_first_125 (by decide) (fun c14 => ?_) (fun c14 => ?_)
      · replace h := ifp h c14
        exact PW.pick [1, 2, 3, 4, 5, 6, 7, 9] rfl (ok_j_X12_first_141 h hx)
      · replace h := ifn h c14
        refine PW.iload 0 dX12_first_128 rfl ?_
        refine PW.iload 5 dX12_first_130 rfl ?_
        refine PW.icmp_ne (tgt := 157) dX12_first_132 (by decide) (fun c15 => ?_) (fun c15 => ?_)
        · replace h := ifn h c15
          exact PW.pick [1, 2, 3, 4, 5, 6, 7, 9] rfl (ok_j_X12_first_157 h hx)
        · replace h := ifp h c15
          refine PW.iload 7 dX12_first_135 rfl ?_
          refine PW.iload_n 2 1 dX12_first_137 rfl rfl ?_
          refine PW.icmp_le (tgt := 157) dX12_first_138 (by decide) (fun c16 => ?_) (fun c16 => ?_)
          · replace h := ifp h c16
            exact PW.pick [1, 2, 3, 4, 5, 6, 7, 9] rfl (ok_j_X12_first_157 h hx)
          · replace h := ifn h c16
            exact PW.pick [1, 2, 3, 4, 5, 6, 7, 9] rfl (ok_j_X12_first_141 h hx)
def w_X12_first_88 (N : Nat) (x1 : Int32) (x2 : Int64) (x4 : Int32) (x5 : Int32) (x6 : Int64) (x8 : Int32) (x9 : Int64) (x11 : Int32) (s : cS) : Option (((Int64 × Int32) × cS) ⊕ (((Int64 × Int32) × cS) ⊕ (Int64 × cS))) := itr (fun (v : (Int64 × Int32) × cS) => b_X12_first_88 x1 x2 x4 x5 x6 x8 v.1.1 v.1.2 v.2) N ((x9, x11), s)
theorem ok_w_X12_first_88 {g : pG} {l : Launch} {F : pF} {N : Nat} {x1 : Int32} {x2 : Int64} {x4 : Int32} {x5 : Int32} {x6 : Int64} {x8 : Int32} {x9 : Int64} {x11 : Int32} {s : cS} {x : (((Int64 × Int32) × cS) ⊕ (((Int64 × Int32) × cS) ⊕ (Int64 × cS)))} (h : w_X12_first_88 N x1 x2 x4 x5 x6 x8 x9 x11 s = some x) (hx : (KL (fun (v : (Int64 × Int32) × cS) => PW g l (pRoom 1 0 0) M_X12_first F 54 [(0, .ref 193), (1, .int x1), (2, .long x2), (4, .int x4), (5, .int x5), (6, .long v.1.1), (8, .int v.1.2)] [] (tS v.2) 0 0) (KL (fun (v : (Int64 × Int32) × cS) => PW g l (pRoom 1 0 0) M_X12_first F 5 [(0, .ref 193), (1, .int x1), (2, .long v.1.1), (4, .int v.1.2)] [] (tS v.2) 0 0) (fun q => F = pE g (some (.long q.1)) (tS q.2) 0 0))) x) : PW g l (pRoom 1 0 0) M_X12_first F 88 [(0, .ref 193), (1, .int x1), (2, .long x2), (4, .int x4), (5, .int x5), (6, .long x6), (8, .int x8), (9, .long x9), (11, .int x11)] [] (tS s) 0 0 :=
  okIter (P := (fun (v : (Int64 × Int32) × cS) => PW g l (pRoom 1 0 0) M_X12_first F 88 [(0, .ref 193), (1, .int x1), (2, .long x2), (4, .int x4), (5, .int x5), (6, .long x6), (8, .int x8), (9, .long v.1.1), (11, .int v.1.2)] [] (tS v.2) 0 0)) (K := (KL (fun (v : (Int64 × Int32) × cS) => PW g l (pRoom 1 0 0) M_X12_first F 54 [(0, .ref 193), (1, .int x1), (2, .long x2), (4, .int x4), (5, .int x5), (6, .long v.1.1), (8, .int v.1.2)] [] (tS v.2) 0 0) (KL (fun (v : (Int64 × Int32) × cS) => PW g l (pRoom 1 0 0) M_X12_first F 5 [(0, .ref 193), (1, .int x1), (2, .long v.1.1), (4, .int v.1.2)] [] (tS v.2) 0 0) (fun q => F = pE g (some (.long q.1)) (tS q.2) 0 0)))) (fun v y hB hy => ok_b_X12_first_88 hB hy) N ((x9, x11), s) x h hx
def b_X12_first_54 (N : Nat) (x1 : Int32) (x2 : Int64) (x4 : Int32) (x5 : Int32) (x6 : Int64) (x8 : Int32) (s : cS) : Option (((Int64 × Int32) × cS) ⊕ (((Int64 × Int32) × cS) ⊕ (Int64 × cS))) :=
  if (iG s 193 2) ≤ x8 then
    oR (
      j_X12_first_185 x1 (x2 + x6) x4 s)
  else
    if x8 = x1 then
      j_X12_first_174 x1 x2 x4 x5 x6 x8 s
    else
      if inb x8 8 then
      if (iG s 199 x8.toNatClampNeg) = 0 then
        j_X12_first_174 x1 x2 x4 x5 x6 x8 s
      else
        w_X12_first_88 N x1 x2 x4 x5 x6 x8 (0 : Int64) (0 : Int32) s
      else none
set_option maxRecDepth 20000 in
set_option maxHeartbeats 4000000 in
theorem ok_b_X12_first_54 {g : pG} {l : Launch} {F : pF} {N : Nat} {x1 : Int32} {x2 : Int64} {x4 : Int32} {x5 : Int32} {x6 : Int64} {x8 : Int32} {s : cS} {x : (((Int64 × Int32) × cS) ⊕ (((Int64 × Int32) × cS) ⊕ (Int64 × cS)))} (h : b_X12_first_54 N x1 x2 x4 x5 x6 x8 s = some x) (hx : (KL (fun (v : (Int64 × Int32) × cS) => PW g l (pRoom 1 0 0) M_X12_first F 54 [(0, .ref 193), (1, .int x1), (2, .long x2), (4, .int x4), (5, .int x5), (6, .long v.1.1), (8, .int v.1.2)] [] (tS v.2) 0 0) (KL (fun (v : (Int64 × Int32) × cS) => PW g l (pRoom 1 0 0) M_X12_first F 5 [(0, .ref 193), (1, .int x1), (2, .long v.1.1), (4, .int v.1.2)] [] (tS v.2) 0 0) (fun q => F = pE g (some (.long q.1)) (tS q.2) 0 0))) x) : PW g l (pRoom 1 0 0) M_X12_first F 54 [(0, .ref 193), (1, .int x1), (2, .long x2), (4, .int x4), (5, .int x5), (6, .long x6), (8, .int x8)] [] (tS s) 0 0 := by
  unfold b_X12_first_54 at h
  refine PW.iload 6 dX12_first_54 rfl ?_
  refine PW.aload_n 0 0 dX12_first_56 rfl rfl rfl ?_
  refine CW.geti dX12_first_57 fL_X12_161 LA_193 (Or.inl rfl) ?_
  refine PW.icmp_ge (tgt := 180) dX12_first_60 (by decide) (fun c5 => ?_) (fun c5 => ?_)
  · replace h := ifp h c5
    obtain ⟨xo, hy, hxo⟩ := oRb h
    clear h
    subst hxo
    replace hx := KLr hx
    have h := hy
    clear hy
    refine PW.lload_n 2 2 dX12_first_180 rfl rfl ?_
    refine PW.lload 5 dX12_first_181 rfl ?_
    refine PW.ladd dX12_first_183 ?_
    refine PW.lstore_n dX12_first_184 rfl (Nat.le_of_ble_eq_true rfl) rfl ?_
    exact PW.pick [1, 2, 0, 3] rfl (ok_j_X12_first_185 h hx)
  · replace h := ifn h c5
    refine PW.iload 6 dX12_first_63 rfl ?_
    refine PW.iload_n 1 1 dX12_first_65 rfl rfl ?_
    refine PW.icmp_eq (tgt := 174) dX12_first_66 (by decide) (fun c6 => ?_) (fun c6 => ?_)
    · replace h := ifp h c6
      exact PW.pick [0, 1, 2, 3, 4, 5, 6] rfl (ok_j_X12_first_174 h hx)
    · replace h := ifn h c6
      refine PW.aload_n 0 0 dX12_first_69 rfl rfl rfl ?_
      refine CW.getr dX12_first_70 fL_X12_26 LA_193 (Or.inr ⟨_, rfl⟩) rfl ?_
      refine PW.iload 6 dX12_first_73 rfl ?_
      by_cases c7 : inb x8 8
      rotate_left
      · have h := ifn h c7; cases h
      replace h := ifp h c7
      refine CW.iald dX12_first_75 LA_199 c7 ?_
      refine PW.if_ne (tgt := 82) dX12_first_76 (by decide) (fun c8 => ?_) (fun c8 => ?_)
      · replace h := ifn h c8
        refine PW.lconst (v := 0) dX12_first_82 (by decide) ?_
        refine PW.lstore dX12_first_83 (Nat.le_of_ble_eq_true rfl) rfl ?_
        refine PW.iconst (v := 0) dX12_first_85 (by decide) ?_
        refine PW.istore dX12_first_86 (Nat.le_of_ble_eq_true rfl) rfl ?_
        exact PW.pick [2, 3, 4, 5, 6, 7, 8, 1, 0] rfl (ok_w_X12_first_88 h hx)
      · replace h := ifp h c8
        refine PW.goto (tgt := 174) dX12_first_79 (by decide) ?_
        exact PW.pick [0, 1, 2, 3, 4, 5, 6] rfl (ok_j_X12_first_174 h hx)
def w_X12_first_54 (N : Nat) (x1 : Int32) (x2 : Int64) (x4 : Int32) (x5 : Int32) (x6 : Int64) (x8 : Int32) (s : cS) : Option (((Int64 × Int32) × cS) ⊕ (Int64 × cS)) := itr (fun (v : (Int64 × Int32) × cS) => b_X12_first_54 N x1 x2 x4 x5 v.1.1 v.1.2 v.2) N ((x6, x8), s)
theorem ok_w_X12_first_54 {g : pG} {l : Launch} {F : pF} {N : Nat} {x1 : Int32} {x2 : Int64} {x4 : Int32} {x5 : Int32} {x6 : Int64} {x8 : Int32} {s : cS} {x : (((Int64 × Int32) × cS) ⊕ (Int64 × cS))} (h : w_X12_first_54 N x1 x2 x4 x5 x6 x8 s = some x) (hx : (KL (fun (v : (Int64 × Int32) × cS) => PW g l (pRoom 1 0 0) M_X12_first F 5 [(0, .ref 193), (1, .int x1), (2, .long v.1.1), (4, .int v.1.2)] [] (tS v.2) 0 0) (fun q => F = pE g (some (.long q.1)) (tS q.2) 0 0)) x) : PW g l (pRoom 1 0 0) M_X12_first F 54 [(0, .ref 193), (1, .int x1), (2, .long x2), (4, .int x4), (5, .int x5), (6, .long x6), (8, .int x8)] [] (tS s) 0 0 :=
  okIter (P := (fun (v : (Int64 × Int32) × cS) => PW g l (pRoom 1 0 0) M_X12_first F 54 [(0, .ref 193), (1, .int x1), (2, .long x2), (4, .int x4), (5, .int x5), (6, .long v.1.1), (8, .int v.1.2)] [] (tS v.2) 0 0)) (K := (KL (fun (v : (Int64 × Int32) × cS) => PW g l (pRoom 1 0 0) M_X12_first F 5 [(0, .ref 193), (1, .int x1), (2, .long v.1.1), (4, .int v.1.2)] [] (tS v.2) 0 0) (fun q => F = pE g (some (.long q.1)) (tS q.2) 0 0))) (fun v y hB hy => ok_b_X12_first_54 hB hy) N ((x6, x8), s) x h hx
def b_X12_first_5 (N : Nat) (x1 : Int32) (x2 : Int64) (x4 : Int32) (s : cS) : Option (((Int64 × Int32) × cS) ⊕ (Int64 × cS)) :=
  if inb x1 8 then
  if (iG s 199 x1.toNatClampNeg) ≤ x4 then
    oR (
      some ((x2, s)))
  else
    if inb (((4 : Int32) * x1) + x4) 32 then
    if (iG s 223 (((4 : Int32) * x1) + x4).toNatClampNeg) = 0 then
      j_X12_first_185 x1 x2 x4 s
    else
      w_X12_first_54 N x1 x2 x4 (iG s 223 (((4 : Int32) * x1) + x4).toNatClampNeg) ((iG s 201 (((4 : Int32) * x1) + x4).toNatClampNeg).toInt64) (0 : Int32) s
    else none
  else none
set_option maxRecDepth 20000 in
set_option maxHeartbeats 4000000 in
theorem ok_b_X12_first_5 {g : pG} {l : Launch} {F : pF} {N : Nat} {x1 : Int32} {x2 : Int64} {x4 : Int32} {s : cS} {x : (((Int64 × Int32) × cS) ⊕ (Int64 × cS))} (h : b_X12_first_5 N x1 x2 x4 s = some x) (hx : (KL (fun (v : (Int64 × Int32) × cS) => PW g l (pRoom 1 0 0) M_X12_first F 5 [(0, .ref 193), (1, .int x1), (2, .long v.1.1), (4, .int v.1.2)] [] (tS v.2) 0 0) (fun q => F = pE g (some (.long q.1)) (tS q.2) 0 0)) x) : PW g l (pRoom 1 0 0) M_X12_first F 5 [(0, .ref 193), (1, .int x1), (2, .long x2), (4, .int x4)] [] (tS s) 0 0 := by
  unfold b_X12_first_5 at h
  refine PW.iload 3 dX12_first_5 rfl ?_
  refine PW.aload_n 0 0 dX12_first_7 rfl rfl rfl ?_
  refine CW.getr dX12_first_8 fL_X12_26 LA_193 (Or.inr ⟨_, rfl⟩) rfl ?_
  refine PW.iload_n 1 1 dX12_first_11 rfl rfl ?_
  by_cases c1 : inb x1 8
  rotate_left
  · have h := ifn h c1; cases h
  replace h := ifp h c1
  refine CW.iald dX12_first_12 LA_199 c1 ?_
  refine PW.icmp_ge (tgt := 191) dX12_first_13 (by decide) (fun c2 => ?_) (fun c2 => ?_)
  · replace h := ifp h c2
    obtain ⟨xo, hy, hxo⟩ := oRb h
    clear h
    subst hxo
    replace hx := KLr hx
    have h := hy
    clear hy
    refine PW.lload_n 2 2 dX12_first_191 rfl rfl ?_
    cases h
    subst hx
    exact PW.lret dX12_first_192 rfl (Nat.le_refl 0) (Nat.le_refl 0)
  · replace h := ifn h c2
    refine PW.aload_n 0 0 dX12_first_16 rfl rfl rfl ?_
    refine CW.getr dX12_first_17 fL_X12_99 LA_193 (Or.inr ⟨_, rfl⟩) rfl ?_
    refine PW.iconst (v := 4) dX12_first_20 (by decide) ?_
    refine PW.iload_n 1 1 dX12_first_21 rfl rfl ?_
    refine PW.imul dX12_first_22 ?_
    refine PW.iload 3 dX12_first_23 rfl ?_
    refine PW.iadd dX12_first_25 ?_
    by_cases c3 : inb (((4 : Int32) * x1) + x4) 32
    rotate_left
    · have h := ifn h c3; cases h
    replace h := ifp h c3
    refine CW.iald dX12_first_26 LA_223 c3 ?_
    refine PW.istore dX12_first_27 (Nat.le_of_ble_eq_true rfl) rfl ?_
    refine PW.iload 0 dX12_first_29 rfl ?_
    refine PW.if_ne (tgt := 37) dX12_first_31 (by decide) (fun c4 => ?_) (fun c4 => ?_)
    · replace h := ifn h c4
      refine PW.aload_n 1 0 dX12_first_37 rfl rfl rfl ?_
      refine CW.getr dX12_first_38 fL_X12_32 LA_193 (Or.inr ⟨_, rfl⟩) rfl ?_
      refine PW.iconst (v := 4) dX12_first_41 (by decide) ?_
      refine PW.iload_n 2 1 dX12_first_42 rfl rfl ?_
      refine PW.imul dX12_first_43 ?_
      refine PW.iload 4 dX12_first_44 rfl ?_
      refine PW.iadd dX12_first_46 ?_
      refine CW.iald dX12_first_47 LA_201 c3 ?_
      refine PW.i2l dX12_first_48 ?_
      refine PW.lstore dX12_first_49 (Nat.le_of_ble_eq_true rfl) rfl ?_
      refine PW.iconst (v := 0) dX12_first_51 (by decide) ?_
      refine PW.istore dX12_first_52 (Nat.le_of_ble_eq_true rfl) rfl ?_
      exact PW.pick [3, 4, 5, 6, 2, 1, 0] rfl (ok_w_X12_first_54 h hx)
    · replace h := ifp h c4
      refine PW.goto (tgt := 185) dX12_first_34 (by decide) ?_
      exact PW.pick [1, 2, 3, 4] rfl (ok_j_X12_first_185 h hx)
def w_X12_first_5 (N : Nat) (x1 : Int32) (x2 : Int64) (x4 : Int32) (s : cS) : Option (Int64 × cS) := itr (fun (v : (Int64 × Int32) × cS) => b_X12_first_5 N x1 v.1.1 v.1.2 v.2) N ((x2, x4), s)
theorem ok_w_X12_first_5 {g : pG} {l : Launch} {F : pF} {N : Nat} {x1 : Int32} {x2 : Int64} {x4 : Int32} {s : cS} {x : (Int64 × cS)} (h : w_X12_first_5 N x1 x2 x4 s = some x) (hx : (fun q => F = pE g (some (.long q.1)) (tS q.2) 0 0) x) : PW g l (pRoom 1 0 0) M_X12_first F 5 [(0, .ref 193), (1, .int x1), (2, .long x2), (4, .int x4)] [] (tS s) 0 0 :=
  okIter (P := (fun (v : (Int64 × Int32) × cS) => PW g l (pRoom 1 0 0) M_X12_first F 5 [(0, .ref 193), (1, .int x1), (2, .long v.1.1), (4, .int v.1.2)] [] (tS v.2) 0 0)) (K := (fun q => F = pE g (some (.long q.1)) (tS q.2) 0 0)) (fun v y hB hy => ok_b_X12_first_5 hB hy) N ((x2, x4), s) x h hx
def f_X12_first (N : Nat) (a0 : Int32) (s : cS) : Option (Int64 × cS) :=
  w_X12_first_5 N a0 (0 : Int64) (0 : Int32) s
set_option maxRecDepth 20000 in
set_option maxHeartbeats 4000000 in
theorem p_X12_first {g : pG} {l : Launch} {N : Nat} {a0 : Int32} {s : cS} {q : Int64 × cS} (h : f_X12_first N a0 s = some q) : PM g l 1 M_X12_first [.ref 193, .int a0] (tS s) (some (.long q.1)) (tS q.2) 0 0 := by
  refine PM.of (by decide +kernel) (Nat.le_of_ble_eq_true rfl) ?_
  show PW g l (pRoom 1 0 0) M_X12_first _ 0 [(0, .ref 193), (1, .int a0)] [] (tS s) 0 0
  unfold f_X12_first at h
  generalize hF : pE g (some (.long q.1)) (tS q.2) 0 0 = F
  have hx := hF.symm
  refine PW.lconst (v := 0) dX12_first_0 (by decide) ?_
  refine PW.lstore_n dX12_first_1 rfl (Nat.le_of_ble_eq_true rfl) rfl ?_
  refine PW.iconst (v := 0) dX12_first_2 (by decide) ?_
  refine PW.istore dX12_first_3 (Nat.le_of_ble_eq_true rfl) rfl ?_
  exact PW.pick [2, 3, 1, 0] rfl (ok_w_X12_first_5 h hx)
/-! X12_canFly -/
def f_X12_canFly (a0 : Int32) (a1 : Int32) (a2 : Int32) (s : cS) : Option (Int32 × cS) :=
  if (f_X12_isProgram a0 s) = 0 then
    some (((0 : Int32), s))
  else
    if (f_X12_isPressure a1 s) = 0 then
      some (((0 : Int32), s))
    else
      if inb a0 16 then
      if (lIn a2.toInt64 (0 : Int64) (((2000 : Int32) - (iG s 220 a0.toNatClampNeg)).toInt64)) = 0 then
        some (((0 : Int32), s))
      else
        some (((1 : Int32), s))
      else none
set_option maxRecDepth 20000 in
set_option maxHeartbeats 4000000 in
theorem p_X12_canFly {g : pG} {l : Launch} {a0 : Int32} {a1 : Int32} {a2 : Int32} {s : cS} {q : Int32 × cS} (h : f_X12_canFly a0 a1 a2 s = some q) : PM g l 3 M_X12_canFly [.ref 193, .int a0, .int a1, .int a2] (tS s) (some (.int q.1)) (tS q.2) 0 0 := by
  refine PM.of (by decide +kernel) (Nat.le_of_ble_eq_true rfl) ?_
  show PW g l (pRoom 3 0 0) M_X12_canFly _ 0 [(0, .ref 193), (1, .int a0), (2, .int a1), (3, .int a2)] [] (tS s) 0 0
  unfold f_X12_canFly at h
  generalize hF : pE g (some (.int q.1)) (tS q.2) 0 0 = F
  have hx := hF.symm
  refine PW.iload_n 1 1 dX12_canFly_0 rfl rfl ?_
  refine CW.callSi (st := []) [.int a0] dX12_canFly_1 (p_X12_isProgram rfl) MS_X12_isProgram mL_X12_356 rfl rfl (Nat.le_of_ble_eq_true rfl) (by first | decide | omega) ?_
  refine PW.if_eq (tgt := 38) dX12_canFly_4 (by decide) (fun c2 => ?_) (fun c2 => ?_)
  · replace h := ifp h c2
    refine PW.iconst (v := 0) dX12_canFly_38 (by decide) ?_
    cases h
    subst hx
    exact PW.iret (v := (0 : Int32)) dX12_canFly_39 rfl (narZ (Or.inl rfl)) (Nat.le_refl 0) (Nat.le_refl 0)
  · replace h := ifn h c2
    refine PW.iload_n 2 2 dX12_canFly_7 rfl rfl ?_
    refine CW.callSi (st := []) [.int a1] dX12_canFly_8 (p_X12_isPressure rfl) MS_X12_isPressure mL_X12_345 rfl rfl (Nat.le_of_ble_eq_true rfl) (by first | decide | omega) ?_
    refine PW.if_eq (tgt := 38) dX12_canFly_11 (by decide) (fun c4 => ?_) (fun c4 => ?_)
    · replace h := ifp h c4
      refine PW.iconst (v := 0) dX12_canFly_38 (by decide) ?_
      cases h
      subst hx
      exact PW.iret (v := (0 : Int32)) dX12_canFly_39 rfl (narZ (Or.inl rfl)) (Nat.le_refl 0) (Nat.le_refl 0)
    · replace h := ifn h c4
      refine PW.iload_n 3 3 dX12_canFly_14 rfl rfl ?_
      refine PW.i2l dX12_canFly_15 ?_
      refine PW.lconst (v := 0) dX12_canFly_16 (by decide) ?_
      refine PW.sipush (v := 2000) dX12_canFly_17 (by decide) ?_
      refine PW.aload_n 0 0 dX12_canFly_20 rfl rfl rfl ?_
      refine CW.getr dX12_canFly_21 fL_X12_90 LA_193 (Or.inr ⟨_, rfl⟩) rfl ?_
      refine PW.iload_n 1 1 dX12_canFly_24 rfl rfl ?_
      by_cases c5 : inb a0 16
      rotate_left
      · have h := ifn h c5; cases h
      replace h := ifp h c5
      refine CW.iald dX12_canFly_25 LA_220 c5 ?_
      refine PW.isub dX12_canFly_26 ?_
      refine PW.i2l dX12_canFly_27 ?_
      refine CW.callSi (st := []) [.long a2.toInt64, .long (0 : Int64), .long ((2000 : Int32) - (iG s 220 a0.toNatClampNeg)).toInt64] dX12_canFly_28 (ps_isIn rfl) MS_X12_isIn mL_X12_164 rfl rfl (Nat.le_of_ble_eq_true rfl) (by first | decide | omega) ?_
      refine PW.if_eq (tgt := 38) dX12_canFly_31 (by decide) (fun c7 => ?_) (fun c7 => ?_)
      · replace h := ifp h c7
        refine PW.iconst (v := 0) dX12_canFly_38 (by decide) ?_
        cases h
        subst hx
        exact PW.iret (v := (0 : Int32)) dX12_canFly_39 rfl (narZ (Or.inl rfl)) (Nat.le_refl 0) (Nat.le_refl 0)
      · replace h := ifn h c7
        refine PW.iconst (v := 1) dX12_canFly_34 (by decide) ?_
        refine PW.goto (tgt := 39) dX12_canFly_35 (by decide) ?_
        cases h
        subst hx
        exact PW.iret (v := (1 : Int32)) dX12_canFly_39 rfl (narZ (Or.inr rfl)) (Nat.le_refl 0) (Nat.le_refl 0)
/-! X12_odds -/
def j_X12_odds_36 (N : Nat) (x1 : Int32) (x2 : Int32) (x3 : Int32) (x4 : Int32) (s : cS) : Option (Int64 × cS) :=
  ob (f_X12_all N (f_X12_whole s) x1 x2 x3 s) fun r7 s8 =>
  if x4 = (-1 : Int32) then
    ob (f_X12_waysOf N (f_X12_whole s8) s8) fun r24 s25 =>
    some ((r24, s25))
  else
    if x4 = (8 : Int32) then
      ob (f_X12_waysOf N (f_X12_whole s8) s8) fun r16 s17 =>
      ob (f_X12_waysLeft N (f_X12_whole s17) (2000 : Int32) s17) fun r20 s21 =>
      some (((r16 - r20), s21))
    else
      ob (f_X12_first N x4 s8) fun r12 s13 =>
      some ((r12, s13))
set_option maxRecDepth 20000 in
set_option maxHeartbeats 4000000 in
theorem ok_j_X12_odds_36 {g : pG} {l : Launch} {F : pF} {N : Nat} {x1 : Int32} {x2 : Int32} {x3 : Int32} {x4 : Int32} {s : cS} {x : (Int64 × cS)} (h : j_X12_odds_36 N x1 x2 x3 x4 s = some x) (hx : (fun q => F = pE g (some (.long q.1)) (tS q.2) 0 0) x) : PW g l (pRoom 8 0 0) M_X12_odds F 36 [(0, .ref 193), (1, .int x1), (2, .int x2), (3, .int x3), (4, .int x4)] [] (tS s) 0 0 := by
  unfold j_X12_odds_36 at h
  refine PW.aload_n 0 0 dX12_odds_36 rfl rfl rfl ?_
  refine PW.aload_n 0 0 dX12_odds_37 rfl rfl rfl ?_
  refine CW.callVi (ci := 12) (st := [.ref 193]) [] dX12_odds_38 (p_X12_whole rfl) MV_X12_whole mL_X12_390 (by decide) rfl LA_193 rfl rfl (Nat.le_of_ble_eq_true rfl) (by first | decide | omega) ?_
  refine PW.iload_n 1 1 dX12_odds_41 rfl rfl ?_
  refine PW.iload_n 2 2 dX12_odds_42 rfl rfl ?_
  refine PW.iload_n 3 3 dX12_odds_43 rfl rfl ?_
  obtain ⟨r7, s8, q9, h⟩ := obnd h
  refine CW.callVv (ci := 12) (st := []) [.int (f_X12_whole s), .int x1, .int x2, .int x3] dX12_odds_44 (p_X12_all q9) MV_X12_all mL_X12_393 (by decide) rfl LA_193 rfl rfl (Nat.le_of_ble_eq_true rfl) (by first | decide | omega) ?_
  refine PW.iload 4 dX12_odds_47 rfl ?_
  refine PW.iconst (v := (-1)) dX12_odds_49 (by decide) ?_
  refine PW.icmp_ne (tgt := 64) dX12_odds_50 (by decide) (fun c10 => ?_) (fun c10 => ?_)
  · replace h := ifn h c10
    refine PW.iload 4 dX12_odds_64 rfl ?_
    refine PW.bipush (v := 8) dX12_odds_66 (by decide) ?_
    refine PW.icmp_ne (tgt := 94) dX12_odds_68 (by decide) (fun c11 => ?_) (fun c11 => ?_)
    · replace h := ifn h c11
      refine PW.aload_n 0 0 dX12_odds_94 rfl rfl rfl ?_
      refine PW.iload 4 dX12_odds_95 rfl ?_
      obtain ⟨r12, s13, q14, h⟩ := obnd h
      refine CW.callVl (ci := 12) (st := []) [.int x4] dX12_odds_97 (p_X12_first q14) MV_X12_first mL_X12_405 (by decide) rfl LA_193 rfl rfl (Nat.le_of_ble_eq_true rfl) (by first | decide | omega) ?_
      cases h
      subst hx
      exact PW.lret dX12_odds_100 rfl (Nat.le_refl 0) (Nat.le_refl 0)
    · replace h := ifp h c11
      refine PW.aload_n 0 0 dX12_odds_71 rfl rfl rfl ?_
      refine PW.aload_n 0 0 dX12_odds_72 rfl rfl rfl ?_
      refine CW.callVi (ci := 12) (st := [.ref 193]) [] dX12_odds_73 (p_X12_whole rfl) MV_X12_whole mL_X12_390 (by decide) rfl LA_193 rfl rfl (Nat.le_of_ble_eq_true rfl) (by first | decide | omega) ?_
      obtain ⟨r16, s17, q18, h⟩ := obnd h
      refine CW.callVl (ci := 12) (st := []) [.int (f_X12_whole s8)] dX12_odds_76 (p_X12_waysOf q18) MV_X12_waysOf mL_X12_397 (by decide) rfl LA_193 rfl rfl (Nat.le_of_ble_eq_true rfl) (by first | decide | omega) ?_
      refine PW.aload_n 0 0 dX12_odds_79 rfl rfl rfl ?_
      refine PW.aload_n 0 0 dX12_odds_80 rfl rfl rfl ?_
      refine CW.callVi (ci := 12) (st := [.ref 193, .long r16]) [] dX12_odds_81 (p_X12_whole rfl) MV_X12_whole mL_X12_390 (by decide) rfl LA_193 rfl rfl (Nat.le_of_ble_eq_true rfl) (by first | decide | omega) ?_
      refine PW.sipush (v := 2000) dX12_odds_84 (by decide) ?_
      obtain ⟨r20, s21, q22, h⟩ := obnd h
      refine CW.callVl (ci := 12) (st := [.long r16]) [.int (f_X12_whole s17), .int (2000 : Int32)] dX12_odds_87 (p_X12_waysLeft q22) MV_X12_waysLeft mL_X12_401 (by decide) rfl LA_193 rfl rfl (Nat.le_of_ble_eq_true rfl) (by first | decide | omega) ?_
      refine PW.lsub dX12_odds_90 ?_
      refine PW.goto (tgt := 100) dX12_odds_91 (by decide) ?_
      cases h
      subst hx
      exact PW.lret dX12_odds_100 rfl (Nat.le_refl 0) (Nat.le_refl 0)
  · replace h := ifp h c10
    refine PW.aload_n 0 0 dX12_odds_53 rfl rfl rfl ?_
    refine PW.aload_n 0 0 dX12_odds_54 rfl rfl rfl ?_
    refine CW.callVi (ci := 12) (st := [.ref 193]) [] dX12_odds_55 (p_X12_whole rfl) MV_X12_whole mL_X12_390 (by decide) rfl LA_193 rfl rfl (Nat.le_of_ble_eq_true rfl) (by first | decide | omega) ?_
    obtain ⟨r24, s25, q26, h⟩ := obnd h
    refine CW.callVl (ci := 12) (st := []) [.int (f_X12_whole s8)] dX12_odds_58 (p_X12_waysOf q26) MV_X12_waysOf mL_X12_397 (by decide) rfl LA_193 rfl rfl (Nat.le_of_ble_eq_true rfl) (by first | decide | omega) ?_
    refine PW.goto (tgt := 100) dX12_odds_61 (by decide) ?_
    cases h
    subst hx
    exact PW.lret dX12_odds_100 rfl (Nat.le_refl 0) (Nat.le_refl 0)
def f_X12_odds (N : Nat) (a0 : Int32) (a1 : Int32) (a2 : Int32) (a3 : Int32) (s : cS) : Option (Int64 × cS) :=
  ob (f_X12_canFly a0 a1 a2 s) fun r1 s2 =>
  if r1 = 0 then
    some (((-1 : Int64), s2))
  else
    if a3 = (-1 : Int32) then
      j_X12_odds_36 N a0 a1 a2 a3 s2
    else
      if a3 = (8 : Int32) then
        j_X12_odds_36 N a0 a1 a2 a3 s2
      else
        if (f_X12_isCorner a3 s2) = 0 then
          some (((-1 : Int64), s2))
        else
          j_X12_odds_36 N a0 a1 a2 a3 s2
set_option maxRecDepth 20000 in
set_option maxHeartbeats 4000000 in
theorem p_X12_odds {g : pG} {l : Launch} {N : Nat} {a0 : Int32} {a1 : Int32} {a2 : Int32} {a3 : Int32} {s : cS} {q : Int64 × cS} (h : f_X12_odds N a0 a1 a2 a3 s = some q) : PM g l 8 M_X12_odds [.ref 193, .int a0, .int a1, .int a2, .int a3] (tS s) (some (.long q.1)) (tS q.2) 0 0 := by
  refine PM.of (by decide +kernel) (Nat.le_of_ble_eq_true rfl) ?_
  show PW g l (pRoom 8 0 0) M_X12_odds _ 0 [(0, .ref 193), (1, .int a0), (2, .int a1), (3, .int a2), (4, .int a3)] [] (tS s) 0 0
  unfold f_X12_odds at h
  generalize hF : pE g (some (.long q.1)) (tS q.2) 0 0 = F
  have hx := hF.symm
  refine PW.aload_n 0 0 dX12_odds_0 rfl rfl rfl ?_
  refine PW.iload_n 1 1 dX12_odds_1 rfl rfl ?_
  refine PW.iload_n 2 2 dX12_odds_2 rfl rfl ?_
  refine PW.iload_n 3 3 dX12_odds_3 rfl rfl ?_
  obtain ⟨r1, s2, q3, h⟩ := obnd h
  refine CW.callVi (ci := 12) (st := []) [.int a0, .int a1, .int a2] dX12_odds_4 (p_X12_canFly q3) MV_X12_canFly mL_X12_384 (by decide) rfl LA_193 rfl rfl (Nat.le_of_ble_eq_true rfl) (by first | decide | omega) ?_
  refine PW.if_eq (tgt := 32) dX12_odds_7 (by decide) (fun c4 => ?_) (fun c4 => ?_)
  · replace h := ifp h c4
    refine PW.ldc2_w dX12_odds_32 kL_X12_388 ?_
    cases h
    subst hx
    exact PW.lret dX12_odds_35 rfl (Nat.le_refl 0) (Nat.le_refl 0)
  · replace h := ifn h c4
    refine PW.iload 4 dX12_odds_10 rfl ?_
    refine PW.iconst (v := (-1)) dX12_odds_12 (by decide) ?_
    refine PW.icmp_eq (tgt := 36) dX12_odds_13 (by decide) (fun c5 => ?_) (fun c5 => ?_)
    · replace h := ifp h c5
      exact PW.pick [0, 1, 2, 3, 4] rfl (ok_j_X12_odds_36 h hx)
    · replace h := ifn h c5
      refine PW.iload 4 dX12_odds_16 rfl ?_
      refine PW.bipush (v := 8) dX12_odds_18 (by decide) ?_
      refine PW.icmp_eq (tgt := 36) dX12_odds_20 (by decide) (fun c27 => ?_) (fun c27 => ?_)
      · replace h := ifp h c27
        exact PW.pick [0, 1, 2, 3, 4] rfl (ok_j_X12_odds_36 h hx)
      · replace h := ifn h c27
        refine PW.aload_n 0 0 dX12_odds_23 rfl rfl rfl ?_
        refine PW.iload 4 dX12_odds_24 rfl ?_
        refine CW.callVi (ci := 12) (st := []) [.int a3] dX12_odds_26 (p_X12_isCorner rfl) MV_X12_isCorner mL_X12_177 (by decide) rfl LA_193 rfl rfl (Nat.le_of_ble_eq_true rfl) (by first | decide | omega) ?_
        refine PW.if_ne (tgt := 36) dX12_odds_29 (by decide) (fun c29 => ?_) (fun c29 => ?_)
        · replace h := ifn h c29
          exact PW.pick [0, 1, 2, 3, 4] rfl (ok_j_X12_odds_36 h hx)
        · replace h := ifp h c29
          refine PW.ldc2_w dX12_odds_32 kL_X12_388 ?_
          cases h
          subst hx
          exact PW.lret dX12_odds_35 rfl (Nat.le_refl 0) (Nat.le_refl 0)
/-! X12_divisor -/
def b_X12_divisor_6 (x4 : Int64) (x6 : Int64) (s : cS) : Option (((Int64 × Int64) × cS) ⊕ (Int64 × cS)) :=
  if (lg_cmp x6 (0 : Int64)) = 0 then
    oR (
      some ((x4, s)))
  else
    if x6 = 0 then none else
    some (.inl ((x6, (x4 - x4 / x6 * x6)), s))
set_option maxRecDepth 20000 in
set_option maxHeartbeats 4000000 in
theorem ok_b_X12_divisor_6 {g : pG} {l : Launch} {F : pF} {x4 : Int64} {x6 : Int64} {s : cS} {x : (((Int64 × Int64) × cS) ⊕ (Int64 × cS))} (h : b_X12_divisor_6 x4 x6 s = some x) (hx : (KL (fun (v : (Int64 × Int64) × cS) => PW g l (pRoom 1 0 0) M_X12_divisor F 6 [(4, .long v.1.1), (6, .long v.1.2)] [] (tS v.2) 0 0) (fun q => F = pE g (some (.long q.1)) (tS q.2) 0 0)) x) : PW g l (pRoom 1 0 0) M_X12_divisor F 6 [(4, .long x4), (6, .long x6)] [] (tS s) 0 0 := by
  unfold b_X12_divisor_6 at h
  refine PW.lload 1 dX12_divisor_6 rfl ?_
  refine PW.lconst (v := 0) dX12_divisor_8 (by decide) ?_
  refine PW.lcmp dX12_divisor_9 ?_
  refine PW.if_eq (tgt := 31) dX12_divisor_10 (by decide) (fun c1 => ?_) (fun c1 => ?_)
  · replace h := ifp h c1
    obtain ⟨xo, hy, hxo⟩ := oRb h
    clear h
    subst hxo
    replace hx := KLr hx
    have h := hy
    clear hy
    refine PW.lload 0 dX12_divisor_31 rfl ?_
    cases h
    subst hx
    exact PW.lret dX12_divisor_33 rfl (Nat.le_refl 0) (Nat.le_refl 0)
  · replace h := ifn h c1
    refine PW.lload 0 dX12_divisor_13 rfl ?_
    refine PW.lload 1 dX12_divisor_15 rfl ?_
    by_cases c2 : x6 = 0
    · have h := ifp h c2; cases h
    replace h := ifn h c2
    refine PW.lrem dX12_divisor_17 c2 ?_
    refine PW.lstore dX12_divisor_18 (Nat.le_of_ble_eq_true rfl) rfl ?_
    refine PW.lload 2 dX12_divisor_20 rfl ?_
    refine PW.lstore dX12_divisor_22 (Nat.le_of_ble_eq_true rfl) rfl ?_
    refine PW.lload 1 dX12_divisor_24 rfl ?_
    refine PW.lstore dX12_divisor_26 (Nat.le_of_ble_eq_true rfl) rfl ?_
    refine PW.goto (tgt := 6) dX12_divisor_28 (by decide) ?_
    cases h
    exact PW.pick [1, 0] rfl hx
def w_X12_divisor_6 (N : Nat) (x4 : Int64) (x6 : Int64) (s : cS) : Option (Int64 × cS) := itr (fun (v : (Int64 × Int64) × cS) => b_X12_divisor_6 v.1.1 v.1.2 v.2) N ((x4, x6), s)
theorem ok_w_X12_divisor_6 {g : pG} {l : Launch} {F : pF} {N : Nat} {x4 : Int64} {x6 : Int64} {s : cS} {x : (Int64 × cS)} (h : w_X12_divisor_6 N x4 x6 s = some x) (hx : (fun q => F = pE g (some (.long q.1)) (tS q.2) 0 0) x) : PW g l (pRoom 1 0 0) M_X12_divisor F 6 [(4, .long x4), (6, .long x6)] [] (tS s) 0 0 :=
  okIter (P := (fun (v : (Int64 × Int64) × cS) => PW g l (pRoom 1 0 0) M_X12_divisor F 6 [(4, .long v.1.1), (6, .long v.1.2)] [] (tS v.2) 0 0)) (K := (fun q => F = pE g (some (.long q.1)) (tS q.2) 0 0)) (fun v y hB hy => ok_b_X12_divisor_6 hB hy) N ((x4, x6), s) x h hx
def f_X12_divisor (N : Nat) (a0 : Int64) (a1 : Int64) (s : cS) : Option (Int64 × cS) :=
  w_X12_divisor_6 N a0 a1 s
set_option maxRecDepth 20000 in
set_option maxHeartbeats 4000000 in
theorem p_X12_divisor {g : pG} {l : Launch} {N : Nat} {a0 : Int64} {a1 : Int64} {s : cS} {q : Int64 × cS} (h : f_X12_divisor N a0 a1 s = some q) : PM g l 1 M_X12_divisor [.long a0, .long a1] (tS s) (some (.long q.1)) (tS q.2) 0 0 := by
  refine PM.of (by decide +kernel) (Nat.le_of_ble_eq_true rfl) ?_
  show PW g l (pRoom 1 0 0) M_X12_divisor _ 0 [(0, .long a0), (2, .long a1)] [] (tS s) 0 0
  unfold f_X12_divisor at h
  generalize hF : pE g (some (.long q.1)) (tS q.2) 0 0 = F
  have hx := hF.symm
  refine PW.lload_n 0 0 dX12_divisor_0 rfl rfl ?_
  refine PW.lstore dX12_divisor_1 (Nat.le_of_ble_eq_true rfl) rfl ?_
  refine PW.lload_n 2 2 dX12_divisor_3 rfl rfl ?_
  refine PW.lstore dX12_divisor_4 (Nat.le_of_ble_eq_true rfl) rfl ?_
  exact PW.pick [1, 0] rfl (ok_w_X12_divisor_6 h hx)
/-! X12_left -/
def f_X12_left (N : Nat) (a0 : Int32) (a1 : Int32) (a2 : Int32) (a3 : Int32) (s : cS) : Option (Int64 × cS) :=
  ob (f_X12_canFly a0 a1 a2 s) fun r1 s2 =>
  if r1 = 0 then
    some (((-1 : Int64), s2))
  else
    if (lIn a3.toInt64 (0 : Int64) (1 : Int64)) = 0 then
      some (((-1 : Int64), s2))
    else
      ob (f_X12_all N (f_X12_whole s2) a0 a1 a2 s2) fun r8 s9 =>
      if inb a0 16 then
      ob (f_X12_waysLeft N (f_X12_whole s9) (iG s9 220 a0.toNatClampNeg) s9) fun r13 s14 =>
      if (lg_cmp r13 (0 : Int64)) = 0 then
        some (((-2 : Int64), s14))
      else
        ob (f_X12_waysLeft N (f_X12_whole s14) (2000 : Int32) s14) fun r18 s19 =>
        ob (f_X12_divisor N (r13 - r18) r13 s19) fun r21 s22 =>
        if a3 = 0 then
          if r21 = 0 then none else
          some ((((r13 - r18) / r21), s22))
        else
          if r21 = 0 then none else
          some (((r13 / r21), s22))
      else none
set_option maxRecDepth 20000 in
set_option maxHeartbeats 4000000 in
theorem p_X12_left {g : pG} {l : Launch} {N : Nat} {a0 : Int32} {a1 : Int32} {a2 : Int32} {a3 : Int32} {s : cS} {q : Int64 × cS} (h : f_X12_left N a0 a1 a2 a3 s = some q) : PM g l 8 M_X12_left [.ref 193, .int a0, .int a1, .int a2, .int a3] (tS s) (some (.long q.1)) (tS q.2) 0 0 := by
  refine PM.of (by decide +kernel) (Nat.le_of_ble_eq_true rfl) ?_
  show PW g l (pRoom 8 0 0) M_X12_left _ 0 [(0, .ref 193), (1, .int a0), (2, .int a1), (3, .int a2), (4, .int a3)] [] (tS s) 0 0
  unfold f_X12_left at h
  generalize hF : pE g (some (.long q.1)) (tS q.2) 0 0 = F
  have hx := hF.symm
  refine PW.aload_n 0 0 dX12_left_0 rfl rfl rfl ?_
  refine PW.iload_n 1 1 dX12_left_1 rfl rfl ?_
  refine PW.iload_n 2 2 dX12_left_2 rfl rfl ?_
  refine PW.iload_n 3 3 dX12_left_3 rfl rfl ?_
  obtain ⟨r1, s2, q3, h⟩ := obnd h
  refine CW.callVi (ci := 12) (st := []) [.int a0, .int a1, .int a2] dX12_left_4 (p_X12_canFly q3) MV_X12_canFly mL_X12_384 (by decide) rfl LA_193 rfl rfl (Nat.le_of_ble_eq_true rfl) (by first | decide | omega) ?_
  refine PW.if_eq (tgt := 21) dX12_left_7 (by decide) (fun c4 => ?_) (fun c4 => ?_)
  · replace h := ifp h c4
    refine PW.ldc2_w dX12_left_21 kL_X12_388 ?_
    cases h
    subst hx
    exact PW.lret dX12_left_24 rfl (Nat.le_refl 0) (Nat.le_refl 0)
  · replace h := ifn h c4
    refine PW.iload 4 dX12_left_10 rfl ?_
    refine PW.i2l dX12_left_12 ?_
    refine PW.lconst (v := 0) dX12_left_13 (by decide) ?_
    refine PW.lconst (v := 1) dX12_left_14 (by decide) ?_
    refine CW.callSi (st := []) [.long a3.toInt64, .long (0 : Int64), .long (1 : Int64)] dX12_left_15 (ps_isIn rfl) MS_X12_isIn mL_X12_164 rfl rfl (Nat.le_of_ble_eq_true rfl) (by first | decide | omega) ?_
    refine PW.if_ne (tgt := 25) dX12_left_18 (by decide) (fun c6 => ?_) (fun c6 => ?_)
    · replace h := ifn h c6
      refine PW.aload_n 0 0 dX12_left_25 rfl rfl rfl ?_
      refine PW.aload_n 0 0 dX12_left_26 rfl rfl rfl ?_
      refine CW.callVi (ci := 12) (st := [.ref 193]) [] dX12_left_27 (p_X12_whole rfl) MV_X12_whole mL_X12_390 (by decide) rfl LA_193 rfl rfl (Nat.le_of_ble_eq_true rfl) (by first | decide | omega) ?_
      refine PW.iload_n 1 1 dX12_left_30 rfl rfl ?_
      refine PW.iload_n 2 2 dX12_left_31 rfl rfl ?_
      refine PW.iload_n 3 3 dX12_left_32 rfl rfl ?_
      obtain ⟨r8, s9, q10, h⟩ := obnd h
      refine CW.callVv (ci := 12) (st := []) [.int (f_X12_whole s2), .int a0, .int a1, .int a2] dX12_left_33 (p_X12_all q10) MV_X12_all mL_X12_393 (by decide) rfl LA_193 rfl rfl (Nat.le_of_ble_eq_true rfl) (by first | decide | omega) ?_
      refine PW.aload_n 0 0 dX12_left_36 rfl rfl rfl ?_
      refine PW.aload_n 0 0 dX12_left_37 rfl rfl rfl ?_
      refine CW.callVi (ci := 12) (st := [.ref 193]) [] dX12_left_38 (p_X12_whole rfl) MV_X12_whole mL_X12_390 (by decide) rfl LA_193 rfl rfl (Nat.le_of_ble_eq_true rfl) (by first | decide | omega) ?_
      refine PW.aload_n 0 0 dX12_left_41 rfl rfl rfl ?_
      refine CW.getr dX12_left_42 fL_X12_90 LA_193 (Or.inr ⟨_, rfl⟩) rfl ?_
      refine PW.iload_n 1 1 dX12_left_45 rfl rfl ?_
      by_cases c12 : inb a0 16
      rotate_left
      · have h := ifn h c12; cases h
      replace h := ifp h c12
      refine CW.iald dX12_left_46 LA_220 c12 ?_
      obtain ⟨r13, s14, q15, h⟩ := obnd h
      refine CW.callVl (ci := 12) (st := []) [.int (f_X12_whole s9), .int (iG s9 220 a0.toNatClampNeg)] dX12_left_47 (p_X12_waysLeft q15) MV_X12_waysLeft mL_X12_401 (by decide) rfl LA_193 rfl rfl (Nat.le_of_ble_eq_true rfl) (by first | decide | omega) ?_
      refine PW.lstore dX12_left_50 (Nat.le_of_ble_eq_true rfl) rfl ?_
      refine PW.lload 0 dX12_left_52 rfl ?_
      refine PW.lconst (v := 0) dX12_left_54 (by decide) ?_
      refine PW.lcmp dX12_left_55 ?_
      refine PW.if_ne (tgt := 63) dX12_left_56 (by decide) (fun c16 => ?_) (fun c16 => ?_)
      · replace h := ifn h c16
        refine PW.lload 0 dX12_left_63 rfl ?_
        refine PW.aload_n 1 0 dX12_left_65 rfl rfl rfl ?_
        refine PW.aload_n 1 0 dX12_left_66 rfl rfl rfl ?_
        refine CW.callVi (ci := 12) (st := [.ref 193, .long r13]) [] dX12_left_67 (p_X12_whole rfl) MV_X12_whole mL_X12_390 (by decide) rfl LA_193 rfl rfl (Nat.le_of_ble_eq_true rfl) (by first | decide | omega) ?_
        refine PW.sipush (v := 2000) dX12_left_70 (by decide) ?_
        obtain ⟨r18, s19, q20, h⟩ := obnd h
        refine CW.callVl (ci := 12) (st := [.long r13]) [.int (f_X12_whole s14), .int (2000 : Int32)] dX12_left_73 (p_X12_waysLeft q20) MV_X12_waysLeft mL_X12_401 (by decide) rfl LA_193 rfl rfl (Nat.le_of_ble_eq_true rfl) (by first | decide | omega) ?_
        refine PW.lsub dX12_left_76 ?_
        refine PW.lstore dX12_left_77 (Nat.le_of_ble_eq_true rfl) rfl ?_
        refine PW.lload 0 dX12_left_79 rfl ?_
        refine PW.lload 1 dX12_left_81 rfl ?_
        obtain ⟨r21, s22, q23, h⟩ := obnd h
        refine CW.callSl (st := []) [.long (r13 - r18), .long r13] dX12_left_83 (p_X12_divisor q23) MS_X12_divisor mL_X12_410 rfl rfl (Nat.le_of_ble_eq_true rfl) (by first | decide | omega) ?_
        refine PW.lstore dX12_left_86 (Nat.le_of_ble_eq_true rfl) rfl ?_
        refine PW.iload 7 dX12_left_88 rfl ?_
        refine PW.if_ne (tgt := 101) dX12_left_90 (by decide) (fun c24 => ?_) (fun c24 => ?_)
        · replace h := ifn h c24
          refine PW.lload 2 dX12_left_101 rfl ?_
          refine PW.lload 0 dX12_left_103 rfl ?_
          by_cases c25 : r21 = 0
          · have h := ifp h c25; cases h
          replace h := ifn h c25
          refine PW.ldiv dX12_left_105 c25 ?_
          cases h
          subst hx
          exact PW.lret dX12_left_106 rfl (Nat.le_refl 0) (Nat.le_refl 0)
        · replace h := ifp h c24
          refine PW.lload 1 dX12_left_93 rfl ?_
          refine PW.lload 0 dX12_left_95 rfl ?_
          by_cases c26 : r21 = 0
          · have h := ifp h c26; cases h
          replace h := ifn h c26
          refine PW.ldiv dX12_left_97 c26 ?_
          refine PW.goto (tgt := 106) dX12_left_98 (by decide) ?_
          cases h
          subst hx
          exact PW.lret dX12_left_106 rfl (Nat.le_refl 0) (Nat.le_refl 0)
      · replace h := ifp h c16
        refine PW.ldc2_w dX12_left_59 kL_X12_408 ?_
        cases h
        subst hx
        exact PW.lret dX12_left_62 rfl (Nat.le_refl 0) (Nat.le_refl 0)
    · replace h := ifp h c6
      refine PW.ldc2_w dX12_left_21 kL_X12_388 ?_
      cases h
      subst hx
      exact PW.lret dX12_left_24 rfl (Nat.le_refl 0) (Nat.le_refl 0)
/-! X12_isPiece -/
def f_X12_isPiece (a0 : Int32) (s : cS) : Int32 :=
  (lIn a0.toInt64 (1 : Int64) ((f_X12_whole s).toInt64))
set_option maxRecDepth 20000 in
set_option maxHeartbeats 4000000 in
theorem p_X12_isPiece {g : pG} {l : Launch} {a0 : Int32} {s : cS} {q : Int32} (h : f_X12_isPiece a0 s = q) : PM g l 2 M_X12_isPiece [.ref 193, .int a0] (tS s) (some (.int q)) (tS s) 0 0 := by
  refine PM.of (by decide +kernel) (Nat.le_of_ble_eq_true rfl) ?_
  show PW g l (pRoom 2 0 0) M_X12_isPiece _ 0 [(0, .ref 193), (1, .int a0)] [] (tS s) 0 0
  unfold f_X12_isPiece at h
  generalize hF : pE g (some (.int q)) (tS s) 0 0 = F
  have hx := hF.symm
  refine PW.iload_n 1 1 dX12_isPiece_0 rfl rfl ?_
  refine PW.i2l dX12_isPiece_1 ?_
  refine PW.lconst (v := 1) dX12_isPiece_2 (by decide) ?_
  refine PW.aload_n 0 0 dX12_isPiece_3 rfl rfl rfl ?_
  refine CW.callVi (ci := 12) (st := [.long (1 : Int64), .long a0.toInt64]) [] dX12_isPiece_4 (p_X12_whole rfl) MV_X12_whole mL_X12_390 (by decide) rfl LA_193 rfl rfl (Nat.le_of_ble_eq_true rfl) (by first | decide | omega) ?_
  refine PW.i2l dX12_isPiece_7 ?_
  refine CW.callSi (st := []) [.long a0.toInt64, .long (1 : Int64), .long (f_X12_whole s).toInt64] dX12_isPiece_8 (ps_isIn rfl) MS_X12_isIn mL_X12_164 rfl rfl (Nat.le_of_ble_eq_true rfl) (by first | decide | omega) ?_
  cases h
  subst hx
  exact PW.iret (v := (lIn a0.toInt64 (1 : Int64) ((f_X12_whole s).toInt64))) dX12_isPiece_11 rfl (narZ (lIn_bool _ _ _)) (Nat.le_refl 0) (Nat.le_refl 0)
theorem f_X12_isPiece_bool {a0 : Int32} {s : cS} : f_X12_isPiece a0 s = 0 ∨ f_X12_isPiece a0 s = 1 := by
  unfold f_X12_isPiece
  repeat' split
  all_goals first | exact Or.inl rfl | exact Or.inr rfl | exact lIn_bool _ _ _
/-! X12_likelyOf -/
def b_X12_likelyOf_42 (N : Nat) (x1 : Int32) (x4 : Int32) (x5 : Int32) (x6 : Int64) (x8 : Int32) (s : cS) : Option ((Int32 × cS) ⊕ (Int32 × cS)) :=
  if ((2000 : Int32) - x5) < x8 then
    oR (
      some (((-2 : Int32), s)))
  else
    ob (f_X12_waysLeft N x1 (x5 + x8) s) fun r12 s13 =>
    if (lg_cmp ((x6 - r12) * (1000 : Int64)) (x4.toInt64 * x6)) < 0 then
      some (.inl ((x8 + (1 : Int32)), s13))
    else
      oR (
        some ((x8, s13)))
set_option maxRecDepth 20000 in
set_option maxHeartbeats 4000000 in
theorem ok_b_X12_likelyOf_42 {g : pG} {l : Launch} {F : pF} {N : Nat} {x1 : Int32} {x4 : Int32} {x5 : Int32} {x6 : Int64} {x8 : Int32} {s : cS} {x : ((Int32 × cS) ⊕ (Int32 × cS))} (h : b_X12_likelyOf_42 N x1 x4 x5 x6 x8 s = some x) (hx : (KL (fun (v : Int32 × cS) => PW g l (pRoom 8 0 0) M_X12_likelyOf F 42 [(0, .ref 193), (1, .int x1), (4, .int x4), (5, .int x5), (6, .long x6), (8, .int v.1)] [] (tS v.2) 0 0) (fun q => F = pE g (some (.int q.1)) (tS q.2) 0 0)) x) : PW g l (pRoom 8 0 0) M_X12_likelyOf F 42 [(0, .ref 193), (1, .int x1), (4, .int x4), (5, .int x5), (6, .long x6), (8, .int x8)] [] (tS s) 0 0 := by
  unfold b_X12_likelyOf_42 at h
  refine PW.iload 5 dX12_likelyOf_42 rfl ?_
  refine PW.sipush (v := 2000) dX12_likelyOf_44 (by decide) ?_
  refine PW.iload 3 dX12_likelyOf_47 rfl ?_
  refine PW.isub dX12_likelyOf_49 ?_
  refine PW.icmp_gt (tgt := 89) dX12_likelyOf_50 (by decide) (fun c11 => ?_) (fun c11 => ?_)
  · replace h := ifp h c11
    obtain ⟨xo, hy, hxo⟩ := oRb h
    clear h
    subst hxo
    replace hx := KLr hx
    have h := hy
    clear hy
    refine PW.bipush (v := (-2)) dX12_likelyOf_89 (by decide) ?_
    cases h
    subst hx
    exact PW.iret (v := (-2 : Int32)) dX12_likelyOf_91 rfl rfl (Nat.le_refl 0) (Nat.le_refl 0)
  · replace h := ifn h c11
    refine PW.lload 4 dX12_likelyOf_53 rfl ?_
    refine PW.aload_n 0 0 dX12_likelyOf_55 rfl rfl rfl ?_
    refine PW.iload_n 1 1 dX12_likelyOf_56 rfl rfl ?_
    refine PW.iload 3 dX12_likelyOf_57 rfl ?_
    refine PW.iload 5 dX12_likelyOf_59 rfl ?_
    refine PW.iadd dX12_likelyOf_61 ?_
    obtain ⟨r12, s13, q14, h⟩ := obnd h
    refine CW.callVl (ci := 12) (st := [.long x6]) [.int x1, .int (x5 + x8)] dX12_likelyOf_62 (p_X12_waysLeft q14) MV_X12_waysLeft mL_X12_401 (by decide) rfl LA_193 rfl rfl (Nat.le_of_ble_eq_true rfl) (by first | decide | omega) ?_
    refine PW.lsub dX12_likelyOf_65 ?_
    refine PW.ldc2_w dX12_likelyOf_66 kL_X12_417 ?_
    refine PW.lmul dX12_likelyOf_69 ?_
    refine PW.iload 2 dX12_likelyOf_70 rfl ?_
    refine PW.i2l dX12_likelyOf_72 ?_
    refine PW.lload 4 dX12_likelyOf_73 rfl ?_
    refine PW.lmul dX12_likelyOf_75 ?_
    refine PW.lcmp dX12_likelyOf_76 ?_
    refine PW.if_lt (tgt := 83) dX12_likelyOf_77 (by decide) (fun c15 => ?_) (fun c15 => ?_)
    · replace h := ifp h c15
      refine PW.iinc (v := (x8 + (1 : Int32))) 5 dX12_likelyOf_83 rfl (by first | rfl | decide) (Nat.le_of_ble_eq_true rfl) rfl ?_
      refine PW.goto (tgt := 42) dX12_likelyOf_86 (by decide) ?_
      cases h
      exact PW.pick [1, 2, 3, 4, 5, 0] rfl hx
    · replace h := ifn h c15
      obtain ⟨xo, hy, hxo⟩ := oRb h
      clear h
      subst hxo
      replace hx := KLr hx
      have h := hy
      clear hy
      refine PW.iload 5 dX12_likelyOf_80 rfl ?_
      cases h
      subst hx
      exact PW.iret (v := x8) dX12_likelyOf_82 rfl rfl (Nat.le_refl 0) (Nat.le_refl 0)
def w_X12_likelyOf_42 (N : Nat) (x1 : Int32) (x4 : Int32) (x5 : Int32) (x6 : Int64) (x8 : Int32) (s : cS) : Option (Int32 × cS) := itr (fun (v : Int32 × cS) => b_X12_likelyOf_42 N x1 x4 x5 x6 v.1 v.2) N (x8, s)
theorem ok_w_X12_likelyOf_42 {g : pG} {l : Launch} {F : pF} {N : Nat} {x1 : Int32} {x4 : Int32} {x5 : Int32} {x6 : Int64} {x8 : Int32} {s : cS} {x : (Int32 × cS)} (h : w_X12_likelyOf_42 N x1 x4 x5 x6 x8 s = some x) (hx : (fun q => F = pE g (some (.int q.1)) (tS q.2) 0 0) x) : PW g l (pRoom 8 0 0) M_X12_likelyOf F 42 [(0, .ref 193), (1, .int x1), (4, .int x4), (5, .int x5), (6, .long x6), (8, .int x8)] [] (tS s) 0 0 :=
  okIter (P := (fun (v : Int32 × cS) => PW g l (pRoom 8 0 0) M_X12_likelyOf F 42 [(0, .ref 193), (1, .int x1), (4, .int x4), (5, .int x5), (6, .long x6), (8, .int v.1)] [] (tS v.2) 0 0)) (K := (fun q => F = pE g (some (.int q.1)) (tS q.2) 0 0)) (fun v y hB hy => ok_b_X12_likelyOf_42 hB hy) N (x8, s) x h hx
def f_X12_likelyOf (N : Nat) (a0 : Int32) (a1 : Int32) (a2 : Int32) (a3 : Int32) (s : cS) : Option (Int32 × cS) :=
  ob (f_X12_pullsIn a1 s) fun r1 s2 =>
  ob (f_X12_all N a0 a1 a2 ((2000 : Int32) - r1) s2) fun r4 s5 =>
  ob (f_X12_waysLeft N a0 r1 s5) fun r7 s8 =>
  if (lg_cmp r7 (0 : Int64)) = 0 then
    some (((-2 : Int32), s8))
  else
    w_X12_likelyOf_42 N a0 a3 r1 r7 (0 : Int32) s8
set_option maxRecDepth 20000 in
set_option maxHeartbeats 4000000 in
theorem p_X12_likelyOf {g : pG} {l : Launch} {N : Nat} {a0 : Int32} {a1 : Int32} {a2 : Int32} {a3 : Int32} {s : cS} {q : Int32 × cS} (h : f_X12_likelyOf N a0 a1 a2 a3 s = some q) : PM g l 8 M_X12_likelyOf [.ref 193, .int a0, .int a1, .int a2, .int a3] (tS s) (some (.int q.1)) (tS q.2) 0 0 := by
  refine PM.of (by decide +kernel) (Nat.le_of_ble_eq_true rfl) ?_
  show PW g l (pRoom 8 0 0) M_X12_likelyOf _ 0 [(0, .ref 193), (1, .int a0), (2, .int a1), (3, .int a2), (4, .int a3)] [] (tS s) 0 0
  unfold f_X12_likelyOf at h
  generalize hF : pE g (some (.int q.1)) (tS q.2) 0 0 = F
  have hx := hF.symm
  refine PW.aload_n 0 0 dX12_likelyOf_0 rfl rfl rfl ?_
  refine PW.iload_n 2 2 dX12_likelyOf_1 rfl rfl ?_
  obtain ⟨r1, s2, q3, h⟩ := obnd h
  refine CW.callVi (ci := 12) (st := []) [.int a1] dX12_likelyOf_2 (p_X12_pullsIn q3) MV_X12_pullsIn mL_X12_414 (by decide) rfl LA_193 rfl rfl (Nat.le_of_ble_eq_true rfl) (by first | decide | omega) ?_
  refine PW.istore dX12_likelyOf_5 (Nat.le_of_ble_eq_true rfl) rfl ?_
  refine PW.aload_n 1 0 dX12_likelyOf_7 rfl rfl rfl ?_
  refine PW.iload_n 2 1 dX12_likelyOf_8 rfl rfl ?_
  refine PW.iload_n 3 2 dX12_likelyOf_9 rfl rfl ?_
  refine PW.iload_n 4 3 dX12_likelyOf_10 rfl rfl ?_
  refine PW.sipush (v := 2000) dX12_likelyOf_11 (by decide) ?_
  refine PW.iload 0 dX12_likelyOf_14 rfl ?_
  refine PW.isub dX12_likelyOf_16 ?_
  obtain ⟨r4, s5, q6, h⟩ := obnd h
  refine CW.callVv (ci := 12) (st := []) [.int a0, .int a1, .int a2, .int ((2000 : Int32) - r1)] dX12_likelyOf_17 (p_X12_all q6) MV_X12_all mL_X12_393 (by decide) rfl LA_193 rfl rfl (Nat.le_of_ble_eq_true rfl) (by first | decide | omega) ?_
  refine PW.aload_n 1 0 dX12_likelyOf_20 rfl rfl rfl ?_
  refine PW.iload_n 2 1 dX12_likelyOf_21 rfl rfl ?_
  refine PW.iload 0 dX12_likelyOf_22 rfl ?_
  obtain ⟨r7, s8, q9, h⟩ := obnd h
  refine CW.callVl (ci := 12) (st := []) [.int a0, .int r1] dX12_likelyOf_24 (p_X12_waysLeft q9) MV_X12_waysLeft mL_X12_401 (by decide) rfl LA_193 rfl rfl (Nat.le_of_ble_eq_true rfl) (by first | decide | omega) ?_
  refine PW.lstore dX12_likelyOf_27 (Nat.le_of_ble_eq_true rfl) rfl ?_
  refine PW.lload 0 dX12_likelyOf_29 rfl ?_
  refine PW.lconst (v := 0) dX12_likelyOf_31 (by decide) ?_
  refine PW.lcmp dX12_likelyOf_32 ?_
  refine PW.if_ne (tgt := 39) dX12_likelyOf_33 (by decide) (fun c10 => ?_) (fun c10 => ?_)
  · replace h := ifn h c10
    refine PW.iconst (v := 0) dX12_likelyOf_39 (by decide) ?_
    refine PW.istore dX12_likelyOf_40 (Nat.le_of_ble_eq_true rfl) rfl ?_
    exact PW.pick [3, 4, 7, 2, 1, 0] rfl (ok_w_X12_likelyOf_42 h hx)
  · replace h := ifp h c10
    refine PW.bipush (v := (-2)) dX12_likelyOf_36 (by decide) ?_
    cases h
    subst hx
    exact PW.iret (v := (-2 : Int32)) dX12_likelyOf_38 rfl rfl (Nat.le_refl 0) (Nat.le_refl 0)
/-! X12_likely -/
def f_X12_likely (N : Nat) (a0 : Int32) (a1 : Int32) (a2 : Int32) (a3 : Int32) (s : cS) : Option (Int32 × cS) :=
  if (f_X12_isPiece a0 s) = 0 then
    some (((-1 : Int32), s))
  else
    if (f_X12_isProgram a1 s) = 0 then
      some (((-1 : Int32), s))
    else
      if (f_X12_isPressure a2 s) = 0 then
        some (((-1 : Int32), s))
      else
        if (lIn a3.toInt64 (1 : Int64) (1000 : Int64)) = 0 then
          some (((-1 : Int32), s))
        else
          ob (f_X12_likelyOf N a0 a1 a2 a3 s) fun r9 s10 =>
          some ((r9, s10))
set_option maxRecDepth 20000 in
set_option maxHeartbeats 4000000 in
theorem p_X12_likely {g : pG} {l : Launch} {N : Nat} {a0 : Int32} {a1 : Int32} {a2 : Int32} {a3 : Int32} {s : cS} {q : Int32 × cS} (h : f_X12_likely N a0 a1 a2 a3 s = some q) : PM g l 9 M_X12_likely [.ref 193, .int a0, .int a1, .int a2, .int a3] (tS s) (some (.int q.1)) (tS q.2) 0 0 := by
  refine PM.of (by decide +kernel) (Nat.le_of_ble_eq_true rfl) ?_
  show PW g l (pRoom 9 0 0) M_X12_likely _ 0 [(0, .ref 193), (1, .int a0), (2, .int a1), (3, .int a2), (4, .int a3)] [] (tS s) 0 0
  unfold f_X12_likely at h
  generalize hF : pE g (some (.int q.1)) (tS q.2) 0 0 = F
  have hx := hF.symm
  refine PW.aload_n 0 0 dX12_likely_0 rfl rfl rfl ?_
  refine PW.iload_n 1 1 dX12_likely_1 rfl rfl ?_
  refine CW.callVi (ci := 12) (st := []) [.int a0] dX12_likely_2 (p_X12_isPiece rfl) MV_X12_isPiece mL_X12_419 (by decide) rfl LA_193 rfl rfl (Nat.le_of_ble_eq_true rfl) (by first | decide | omega) ?_
  refine PW.if_eq (tgt := 35) dX12_likely_5 (by decide) (fun c2 => ?_) (fun c2 => ?_)
  · replace h := ifp h c2
    refine PW.iconst (v := (-1)) dX12_likely_35 (by decide) ?_
    cases h
    subst hx
    exact PW.iret (v := (-1 : Int32)) dX12_likely_36 rfl rfl (Nat.le_refl 0) (Nat.le_refl 0)
  · replace h := ifn h c2
    refine PW.iload_n 2 2 dX12_likely_8 rfl rfl ?_
    refine CW.callSi (st := []) [.int a1] dX12_likely_9 (p_X12_isProgram rfl) MS_X12_isProgram mL_X12_356 rfl rfl (Nat.le_of_ble_eq_true rfl) (by first | decide | omega) ?_
    refine PW.if_eq (tgt := 35) dX12_likely_12 (by decide) (fun c4 => ?_) (fun c4 => ?_)
    · replace h := ifp h c4
      refine PW.iconst (v := (-1)) dX12_likely_35 (by decide) ?_
      cases h
      subst hx
      exact PW.iret (v := (-1 : Int32)) dX12_likely_36 rfl rfl (Nat.le_refl 0) (Nat.le_refl 0)
    · replace h := ifn h c4
      refine PW.iload_n 3 3 dX12_likely_15 rfl rfl ?_
      refine CW.callSi (st := []) [.int a2] dX12_likely_16 (p_X12_isPressure rfl) MS_X12_isPressure mL_X12_345 rfl rfl (Nat.le_of_ble_eq_true rfl) (by first | decide | omega) ?_
      refine PW.if_eq (tgt := 35) dX12_likely_19 (by decide) (fun c6 => ?_) (fun c6 => ?_)
      · replace h := ifp h c6
        refine PW.iconst (v := (-1)) dX12_likely_35 (by decide) ?_
        cases h
        subst hx
        exact PW.iret (v := (-1 : Int32)) dX12_likely_36 rfl rfl (Nat.le_refl 0) (Nat.le_refl 0)
      · replace h := ifn h c6
        refine PW.iload 4 dX12_likely_22 rfl ?_
        refine PW.i2l dX12_likely_24 ?_
        refine PW.lconst (v := 1) dX12_likely_25 (by decide) ?_
        refine PW.ldc2_w dX12_likely_26 kL_X12_417 ?_
        refine CW.callSi (st := []) [.long a3.toInt64, .long (1 : Int64), .long (1000 : Int64)] dX12_likely_29 (ps_isIn rfl) MS_X12_isIn mL_X12_164 rfl rfl (Nat.le_of_ble_eq_true rfl) (by first | decide | omega) ?_
        refine PW.if_ne (tgt := 37) dX12_likely_32 (by decide) (fun c8 => ?_) (fun c8 => ?_)
        · replace h := ifn h c8
          refine PW.aload_n 0 0 dX12_likely_37 rfl rfl rfl ?_
          refine PW.iload_n 1 1 dX12_likely_38 rfl rfl ?_
          refine PW.iload_n 2 2 dX12_likely_39 rfl rfl ?_
          refine PW.iload_n 3 3 dX12_likely_40 rfl rfl ?_
          refine PW.iload 4 dX12_likely_41 rfl ?_
          obtain ⟨r9, s10, q11, h⟩ := obnd h
          refine CW.callVi (ci := 12) (st := []) [.int a0, .int a1, .int a2, .int a3] dX12_likely_43 (p_X12_likelyOf q11) MV_X12_likelyOf mL_X12_422 (by decide) rfl LA_193 rfl rfl (Nat.le_of_ble_eq_true rfl) (by first | decide | omega) ?_
          cases h
          subst hx
          exact PW.iret (v := r9) dX12_likely_46 rfl rfl (Nat.le_refl 0) (Nat.le_refl 0)
        · replace h := ifp h c8
          refine PW.iconst (v := (-1)) dX12_likely_35 (by decide) ?_
          cases h
          subst hx
          exact PW.iret (v := (-1 : Int32)) dX12_likely_36 rfl rfl (Nat.le_refl 0) (Nat.le_refl 0)
/-! X12_off -/
def f_X12_off (N : Nat) (a0 : Int32) (a1 : Int32) (a2 : Int32) (s : cS) : Option (Int32 × cS) :=
  if (f_X12_isPiece a0 s) = 0 then
    some (((-100000 : Int32), s))
  else
    if (f_X12_isProgram a1 s) = 0 then
      some (((-100000 : Int32), s))
    else
      if (f_X12_isPressure a2 s) = 0 then
        some (((-100000 : Int32), s))
      else
        ob (f_X12_likelyOf N a0 a1 a2 (500 : Int32) s) fun r7 s8 =>
        ob (f_X12_likelyOf N (f_X12_whole s8) (-1 : Int32) a2 (500 : Int32) s8) fun r11 s12 =>
        if r7 < 0 then
          some (((-100000 : Int32), s12))
        else
          if 0 ≤ r11 then
            some (((r7 - r11), s12))
          else
            some (((-100000 : Int32), s12))
set_option maxRecDepth 20000 in
set_option maxHeartbeats 4000000 in
theorem p_X12_off {g : pG} {l : Launch} {N : Nat} {a0 : Int32} {a1 : Int32} {a2 : Int32} {s : cS} {q : Int32 × cS} (h : f_X12_off N a0 a1 a2 s = some q) : PM g l 9 M_X12_off [.ref 193, .int a0, .int a1, .int a2] (tS s) (some (.int q.1)) (tS q.2) 0 0 := by
  refine PM.of (by decide +kernel) (Nat.le_of_ble_eq_true rfl) ?_
  show PW g l (pRoom 9 0 0) M_X12_off _ 0 [(0, .ref 193), (1, .int a0), (2, .int a1), (3, .int a2)] [] (tS s) 0 0
  unfold f_X12_off at h
  generalize hF : pE g (some (.int q.1)) (tS q.2) 0 0 = F
  have hx := hF.symm
  refine PW.aload_n 0 0 dX12_off_0 rfl rfl rfl ?_
  refine PW.iload_n 1 1 dX12_off_1 rfl rfl ?_
  refine CW.callVi (ci := 12) (st := []) [.int a0] dX12_off_2 (p_X12_isPiece rfl) MV_X12_isPiece mL_X12_419 (by decide) rfl LA_193 rfl rfl (Nat.le_of_ble_eq_true rfl) (by first | decide | omega) ?_
  refine PW.if_eq (tgt := 22) dX12_off_5 (by decide) (fun c2 => ?_) (fun c2 => ?_)
  · replace h := ifp h c2
    refine PW.ldc_w dX12_off_22 kL_X12_426 ?_
    cases h
    subst hx
    exact PW.iret (v := (-100000 : Int32)) dX12_off_25 rfl rfl (Nat.le_refl 0) (Nat.le_refl 0)
  · replace h := ifn h c2
    refine PW.iload_n 2 2 dX12_off_8 rfl rfl ?_
    refine CW.callSi (st := []) [.int a1] dX12_off_9 (p_X12_isProgram rfl) MS_X12_isProgram mL_X12_356 rfl rfl (Nat.le_of_ble_eq_true rfl) (by first | decide | omega) ?_
    refine PW.if_eq (tgt := 22) dX12_off_12 (by decide) (fun c4 => ?_) (fun c4 => ?_)
    · replace h := ifp h c4
      refine PW.ldc_w dX12_off_22 kL_X12_426 ?_
      cases h
      subst hx
      exact PW.iret (v := (-100000 : Int32)) dX12_off_25 rfl rfl (Nat.le_refl 0) (Nat.le_refl 0)
    · replace h := ifn h c4
      refine PW.iload_n 3 3 dX12_off_15 rfl rfl ?_
      refine CW.callSi (st := []) [.int a2] dX12_off_16 (p_X12_isPressure rfl) MS_X12_isPressure mL_X12_345 rfl rfl (Nat.le_of_ble_eq_true rfl) (by first | decide | omega) ?_
      refine PW.if_ne (tgt := 26) dX12_off_19 (by decide) (fun c6 => ?_) (fun c6 => ?_)
      · replace h := ifn h c6
        refine PW.aload_n 0 0 dX12_off_26 rfl rfl rfl ?_
        refine PW.iload_n 1 1 dX12_off_27 rfl rfl ?_
        refine PW.iload_n 2 2 dX12_off_28 rfl rfl ?_
        refine PW.iload_n 3 3 dX12_off_29 rfl rfl ?_
        refine PW.sipush (v := 500) dX12_off_30 (by decide) ?_
        obtain ⟨r7, s8, q9, h⟩ := obnd h
        refine CW.callVi (ci := 12) (st := []) [.int a0, .int a1, .int a2, .int (500 : Int32)] dX12_off_33 (p_X12_likelyOf q9) MV_X12_likelyOf mL_X12_422 (by decide) rfl LA_193 rfl rfl (Nat.le_of_ble_eq_true rfl) (by first | decide | omega) ?_
        refine PW.istore dX12_off_36 (Nat.le_of_ble_eq_true rfl) rfl ?_
        refine PW.aload_n 1 0 dX12_off_38 rfl rfl rfl ?_
        refine PW.aload_n 1 0 dX12_off_39 rfl rfl rfl ?_
        refine CW.callVi (ci := 12) (st := [.ref 193]) [] dX12_off_40 (p_X12_whole rfl) MV_X12_whole mL_X12_390 (by decide) rfl LA_193 rfl rfl (Nat.le_of_ble_eq_true rfl) (by first | decide | omega) ?_
        refine PW.iconst (v := (-1)) dX12_off_43 (by decide) ?_
        refine PW.iload_n 4 3 dX12_off_44 rfl rfl ?_
        refine PW.sipush (v := 500) dX12_off_45 (by decide) ?_
        obtain ⟨r11, s12, q13, h⟩ := obnd h
        refine CW.callVi (ci := 12) (st := []) [.int (f_X12_whole s8), .int (-1 : Int32), .int a2, .int (500 : Int32)] dX12_off_48 (p_X12_likelyOf q13) MV_X12_likelyOf mL_X12_422 (by decide) rfl LA_193 rfl rfl (Nat.le_of_ble_eq_true rfl) (by first | decide | omega) ?_
        refine PW.istore dX12_off_51 (Nat.le_of_ble_eq_true rfl) rfl ?_
        refine PW.iload 1 dX12_off_53 rfl ?_
        refine PW.if_lt (tgt := 63) dX12_off_55 (by decide) (fun c14 => ?_) (fun c14 => ?_)
        · replace h := ifp h c14
          refine PW.ldc_w dX12_off_63 kL_X12_426 ?_
          refine PW.goto (tgt := 74) dX12_off_66 (by decide) ?_
          cases h
          subst hx
          exact PW.iret (v := (-100000 : Int32)) dX12_off_74 rfl rfl (Nat.le_refl 0) (Nat.le_refl 0)
        · replace h := ifn h c14
          refine PW.iload 0 dX12_off_58 rfl ?_
          refine PW.if_ge (tgt := 69) dX12_off_60 (by decide) (fun c15 => ?_) (fun c15 => ?_)
          · replace h := ifp h c15
            refine PW.iload 1 dX12_off_69 rfl ?_
            refine PW.iload 0 dX12_off_71 rfl ?_
            refine PW.isub dX12_off_73 ?_
            cases h
            subst hx
            exact PW.iret (v := (r7 - r11)) dX12_off_74 rfl rfl (Nat.le_refl 0) (Nat.le_refl 0)
          · replace h := ifn h c15
            refine PW.ldc_w dX12_off_63 kL_X12_426 ?_
            refine PW.goto (tgt := 74) dX12_off_66 (by decide) ?_
            cases h
            subst hx
            exact PW.iret (v := (-100000 : Int32)) dX12_off_74 rfl rfl (Nat.le_refl 0) (Nat.le_refl 0)
      · replace h := ifp h c6
        refine PW.ldc_w dX12_off_22 kL_X12_426 ?_
        cases h
        subst hx
        exact PW.iret (v := (-100000 : Int32)) dX12_off_25 rfl rfl (Nat.le_refl 0) (Nat.le_refl 0)
/-! X12_trial -/
def b_X12_trial_55 (x1 : Int32) (x2 : Int32) (x3 : Int32) (x4 : Int32) (x5 : Int32) (x6 : Int32) (x7 : Int32) (s : cS) : Option ((Int32 × cS) ⊕ (Int32 × cS)) :=
  if (8 : Int32) ≤ x7 then
    oR (
      if inb x2 16 then
      if inb x6 16 then
      sb (iS s 217 x6.toNatClampNeg (iG s 217 x2.toNatClampNeg)) fun s13 =>
      sb (iS s13 220 x6.toNatClampNeg (iG s13 220 x2.toNatClampNeg)) fun s14 =>
      if inb (iG s14 193 4) 8 then
      sb (iS s14 224 (iG s14 193 4).toNatClampNeg x1) fun s16 =>
      if inb (iG s16 193 4) 8 then
      sb (iS s16 225 (iG s16 193 4).toNatClampNeg x3) fun s18 =>
      if inb (iG s18 193 4) 8 then
      sb (iS s18 226 (iG s18 193 4).toNatClampNeg x4) fun s20 =>
      if inb (iG s20 193 4) 8 then
      sb (iS s20 227 (iG s20 193 4).toNatClampNeg x5) fun s22 =>
      sb (iS s22 193 4 ((iG s22 193 4) + (1 : Int32))) fun s23 =>
      some ((((iG s23 193 4) - (1 : Int32)), s23))
      else none
      else none
      else none
      else none
      else none
      else none)
  else
    if inb (((8 : Int32) * x2) + x7) 128 then
    if inb (((8 : Int32) * x6) + x7) 128 then
    sb (iS s 218 (((8 : Int32) * x6) + x7).toNatClampNeg (iG s 218 (((8 : Int32) * x2) + x7).toNatClampNeg)) fun s26 =>
    sb (iS s26 219 (((8 : Int32) * x6) + x7).toNatClampNeg (iG s26 219 (((8 : Int32) * x2) + x7).toNatClampNeg)) fun s27 =>
    some (.inl ((x7 + (1 : Int32)), s27))
    else none
    else none
set_option maxRecDepth 20000 in
set_option maxHeartbeats 4000000 in
theorem ok_b_X12_trial_55 {g : pG} {l : Launch} {F : pF} {x1 : Int32} {x2 : Int32} {x3 : Int32} {x4 : Int32} {x5 : Int32} {x6 : Int32} {x7 : Int32} {s : cS} {x : ((Int32 × cS) ⊕ (Int32 × cS))} (h : b_X12_trial_55 x1 x2 x3 x4 x5 x6 x7 s = some x) (hx : (KL (fun (v : Int32 × cS) => PW g l (pRoom 4 0 0) M_X12_trial F 55 [(0, .ref 193), (1, .int x1), (2, .int x2), (3, .int x3), (4, .int x4), (5, .int x5), (6, .int x6), (7, .int v.1)] [] (tS v.2) 0 0) (fun q => F = pE g (some (.int q.1)) (tS q.2) 0 0)) x) : PW g l (pRoom 4 0 0) M_X12_trial F 55 [(0, .ref 193), (1, .int x1), (2, .int x2), (3, .int x3), (4, .int x4), (5, .int x5), (6, .int x6), (7, .int x7)] [] (tS s) 0 0 := by
  unfold b_X12_trial_55 at h
  refine PW.iload 7 dX12_trial_55 rfl ?_
  refine PW.bipush (v := 8) dX12_trial_57 (by decide) ?_
  refine PW.icmp_ge (tgt := 118) dX12_trial_59 (by decide) (fun c10 => ?_) (fun c10 => ?_)
  · replace h := ifp h c10
    obtain ⟨xo, hy, hxo⟩ := oRb h
    clear h
    subst hxo
    replace hx := KLr hx
    have h := hy
    clear hy
    refine PW.aload_n 0 0 dX12_trial_118 rfl rfl rfl ?_
    refine CW.getr dX12_trial_119 fL_X12_81 LA_193 (Or.inr ⟨_, rfl⟩) rfl ?_
    refine PW.iload 6 dX12_trial_122 rfl ?_
    refine PW.aload_n 0 0 dX12_trial_124 rfl rfl rfl ?_
    refine CW.getr dX12_trial_125 fL_X12_81 LA_193 (Or.inr ⟨_, rfl⟩) rfl ?_
    refine PW.iload_n 2 2 dX12_trial_128 rfl rfl ?_
    by_cases c11 : inb x2 16
    rotate_left
    · have h := ifn h c11; cases h
    replace h := ifp h c11
    refine CW.iald dX12_trial_129 LA_217 c11 ?_
    by_cases c12 : inb x6 16
    rotate_left
    · have h := ifn h c12; cases h
    replace h := ifp h c12
    refine CW.iast dX12_trial_130 LA_217 c12 ?_
    obtain ⟨s13, es13, h⟩ := sbnd h
    refine PW.sbe es13 ?_
    clear es13
    refine PW.aload_n 0 0 dX12_trial_131 rfl rfl rfl ?_
    refine CW.getr dX12_trial_132 fL_X12_90 LA_193 (Or.inr ⟨_, rfl⟩) rfl ?_
    refine PW.iload 6 dX12_trial_135 rfl ?_
    refine PW.aload_n 0 0 dX12_trial_137 rfl rfl rfl ?_
    refine CW.getr dX12_trial_138 fL_X12_90 LA_193 (Or.inr ⟨_, rfl⟩) rfl ?_
    refine PW.iload_n 2 2 dX12_trial_141 rfl rfl ?_
    refine CW.iald dX12_trial_142 LA_220 c11 ?_
    refine CW.iast dX12_trial_143 LA_220 c12 ?_
    obtain ⟨s14, es14, h⟩ := sbnd h
    refine PW.sbe es14 ?_
    clear es14
    refine PW.aload_n 0 0 dX12_trial_144 rfl rfl rfl ?_
    refine CW.getr dX12_trial_145 fL_X12_102 LA_193 (Or.inr ⟨_, rfl⟩) rfl ?_
    refine PW.aload_n 0 0 dX12_trial_148 rfl rfl rfl ?_
    refine CW.geti dX12_trial_149 fL_X12_427 LA_193 (Or.inl rfl) ?_
    refine PW.iload_n 1 1 dX12_trial_152 rfl rfl ?_
    by_cases c15 : inb (iG s14 193 4) 8
    rotate_left
    · have h := ifn h c15; cases h
    replace h := ifp h c15
    refine CW.iast dX12_trial_153 LA_224 c15 ?_
    obtain ⟨s16, es16, h⟩ := sbnd h
    refine PW.sbe es16 ?_
    clear es16
    refine PW.aload_n 0 0 dX12_trial_154 rfl rfl rfl ?_
    refine CW.getr dX12_trial_155 fL_X12_105 LA_193 (Or.inr ⟨_, rfl⟩) rfl ?_
    refine PW.aload_n 0 0 dX12_trial_158 rfl rfl rfl ?_
    refine CW.geti dX12_trial_159 fL_X12_427 LA_193 (Or.inl rfl) ?_
    refine PW.iload_n 3 3 dX12_trial_162 rfl rfl ?_
    by_cases c17 : inb (iG s16 193 4) 8
    rotate_left
    · have h := ifn h c17; cases h
    replace h := ifp h c17
    refine CW.iast dX12_trial_163 LA_225 c17 ?_
    obtain ⟨s18, es18, h⟩ := sbnd h
    refine PW.sbe es18 ?_
    clear es18
    refine PW.aload_n 0 0 dX12_trial_164 rfl rfl rfl ?_
    refine CW.getr dX12_trial_165 fL_X12_108 LA_193 (Or.inr ⟨_, rfl⟩) rfl ?_
    refine PW.aload_n 0 0 dX12_trial_168 rfl rfl rfl ?_
    refine CW.geti dX12_trial_169 fL_X12_427 LA_193 (Or.inl rfl) ?_
    refine PW.iload 4 dX12_trial_172 rfl ?_
    by_cases c19 : inb (iG s18 193 4) 8
    rotate_left
    · have h := ifn h c19; cases h
    replace h := ifp h c19
    refine CW.iast dX12_trial_174 LA_226 c19 ?_
    obtain ⟨s20, es20, h⟩ := sbnd h
    refine PW.sbe es20 ?_
    clear es20
    refine PW.aload_n 0 0 dX12_trial_175 rfl rfl rfl ?_
    refine CW.getr dX12_trial_176 fL_X12_111 LA_193 (Or.inr ⟨_, rfl⟩) rfl ?_
    refine PW.aload_n 0 0 dX12_trial_179 rfl rfl rfl ?_
    refine CW.geti dX12_trial_180 fL_X12_427 LA_193 (Or.inl rfl) ?_
    refine PW.iload 5 dX12_trial_183 rfl ?_
    by_cases c21 : inb (iG s20 193 4) 8
    rotate_left
    · have h := ifn h c21; cases h
    replace h := ifp h c21
    refine CW.iast dX12_trial_185 LA_227 c21 ?_
    obtain ⟨s22, es22, h⟩ := sbnd h
    refine PW.sbe es22 ?_
    clear es22
    refine PW.aload_n 0 0 dX12_trial_186 rfl rfl rfl ?_
    refine PW.dup dX12_trial_187 rfl ?_
    refine CW.geti dX12_trial_188 fL_X12_427 LA_193 (Or.inl rfl) ?_
    refine PW.iconst (v := 1) dX12_trial_191 (by decide) ?_
    refine PW.iadd dX12_trial_192 ?_
    refine CW.puti dX12_trial_193 fL_X12_427 rfl LA_193 rfl ?_
    obtain ⟨s23, es23, h⟩ := sbnd h
    refine PW.sbe es23 ?_
    clear es23
    refine PW.aload_n 0 0 dX12_trial_196 rfl rfl rfl ?_
    refine CW.geti dX12_trial_197 fL_X12_427 LA_193 (Or.inl rfl) ?_
    refine PW.iconst (v := 1) dX12_trial_200 (by decide) ?_
    refine PW.isub dX12_trial_201 ?_
    cases h
    subst hx
    exact PW.iret (v := ((iG s23 193 4) - (1 : Int32))) dX12_trial_202 rfl rfl (Nat.le_refl 0) (Nat.le_refl 0)
  · replace h := ifn h c10
    refine PW.aload_n 0 0 dX12_trial_62 rfl rfl rfl ?_
    refine CW.getr dX12_trial_63 fL_X12_84 LA_193 (Or.inr ⟨_, rfl⟩) rfl ?_
    refine PW.bipush (v := 8) dX12_trial_66 (by decide) ?_
    refine PW.iload 6 dX12_trial_68 rfl ?_
    refine PW.imul dX12_trial_70 ?_
    refine PW.iload 7 dX12_trial_71 rfl ?_
    refine PW.iadd dX12_trial_73 ?_
    refine PW.aload_n 0 0 dX12_trial_74 rfl rfl rfl ?_
    refine CW.getr dX12_trial_75 fL_X12_84 LA_193 (Or.inr ⟨_, rfl⟩) rfl ?_
    refine PW.bipush (v := 8) dX12_trial_78 (by decide) ?_
    refine PW.iload_n 2 2 dX12_trial_80 rfl rfl ?_
    refine PW.imul dX12_trial_81 ?_
    refine PW.iload 7 dX12_trial_82 rfl ?_
    refine PW.iadd dX12_trial_84 ?_
    by_cases c24 : inb (((8 : Int32) * x2) + x7) 128
    rotate_left
    · have h := ifn h c24; cases h
    replace h := ifp h c24
    refine CW.iald dX12_trial_85 LA_218 c24 ?_
    by_cases c25 : inb (((8 : Int32) * x6) + x7) 128
    rotate_left
    · have h := ifn h c25; cases h
    replace h := ifp h c25
    refine CW.iast dX12_trial_86 LA_218 c25 ?_
    obtain ⟨s26, es26, h⟩ := sbnd h
    refine PW.sbe es26 ?_
    clear es26
    refine PW.aload_n 0 0 dX12_trial_87 rfl rfl rfl ?_
    refine CW.getr dX12_trial_88 fL_X12_87 LA_193 (Or.inr ⟨_, rfl⟩) rfl ?_
    refine PW.bipush (v := 8) dX12_trial_91 (by decide) ?_
    refine PW.iload 6 dX12_trial_93 rfl ?_
    refine PW.imul dX12_trial_95 ?_
    refine PW.iload 7 dX12_trial_96 rfl ?_
    refine PW.iadd dX12_trial_98 ?_
    refine PW.aload_n 0 0 dX12_trial_99 rfl rfl rfl ?_
    refine CW.getr dX12_trial_100 fL_X12_87 LA_193 (Or.inr ⟨_, rfl⟩) rfl ?_
    refine PW.bipush (v := 8) dX12_trial_103 (by decide) ?_
    refine PW.iload_n 2 2 dX12_trial_105 rfl rfl ?_
    refine PW.imul dX12_trial_106 ?_
    refine PW.iload 7 dX12_trial_107 rfl ?_
    refine PW.iadd dX12_trial_109 ?_
    refine CW.iald dX12_trial_110 LA_219 c24 ?_
    refine CW.iast dX12_trial_111 LA_219 c25 ?_
    obtain ⟨s27, es27, h⟩ := sbnd h
    refine PW.sbe es27 ?_
    clear es27
    refine PW.iinc (v := (x7 + (1 : Int32))) 7 dX12_trial_112 rfl (by first | rfl | decide) (Nat.le_of_ble_eq_true rfl) rfl ?_
    refine PW.goto (tgt := 55) dX12_trial_115 (by decide) ?_
    cases h
    exact PW.pick [1, 2, 3, 4, 5, 6, 7, 0] rfl hx
def w_X12_trial_55 (N : Nat) (x1 : Int32) (x2 : Int32) (x3 : Int32) (x4 : Int32) (x5 : Int32) (x6 : Int32) (x7 : Int32) (s : cS) : Option (Int32 × cS) := itr (fun (v : Int32 × cS) => b_X12_trial_55 x1 x2 x3 x4 x5 x6 v.1 v.2) N (x7, s)
theorem ok_w_X12_trial_55 {g : pG} {l : Launch} {F : pF} {N : Nat} {x1 : Int32} {x2 : Int32} {x3 : Int32} {x4 : Int32} {x5 : Int32} {x6 : Int32} {x7 : Int32} {s : cS} {x : (Int32 × cS)} (h : w_X12_trial_55 N x1 x2 x3 x4 x5 x6 x7 s = some x) (hx : (fun q => F = pE g (some (.int q.1)) (tS q.2) 0 0) x) : PW g l (pRoom 4 0 0) M_X12_trial F 55 [(0, .ref 193), (1, .int x1), (2, .int x2), (3, .int x3), (4, .int x4), (5, .int x5), (6, .int x6), (7, .int x7)] [] (tS s) 0 0 :=
  okIter (P := (fun (v : Int32 × cS) => PW g l (pRoom 4 0 0) M_X12_trial F 55 [(0, .ref 193), (1, .int x1), (2, .int x2), (3, .int x3), (4, .int x4), (5, .int x5), (6, .int x6), (7, .int v.1)] [] (tS v.2) 0 0)) (K := (fun q => F = pE g (some (.int q.1)) (tS q.2) 0 0)) (fun v y hB hy => ok_b_X12_trial_55 hB hy) N (x7, s) x h hx
def f_X12_trial (N : Nat) (a0 : Int32) (a1 : Int32) (a2 : Int32) (a3 : Int32) (a4 : Int32) (s : cS) : Option (Int32 × cS) :=
  if (iG s 193 4) = (8 : Int32) then
    some (((-1 : Int32), s))
  else
    if (f_X12_isPiece a0 s) = 0 then
      some (((-1 : Int32), s))
    else
      ob (f_X12_canFly a1 a2 a3 s) fun r4 s5 =>
      if r4 = 0 then
        some (((-1 : Int32), s5))
      else
        if (lIn a4.toInt64 (1 : Int64) (10000 : Int64)) = 0 then
          some (((-1 : Int32), s5))
        else
          w_X12_trial_55 N a0 a1 a2 a3 a4 ((8 : Int32) + (iG s5 193 4)) (0 : Int32) s5
set_option maxRecDepth 20000 in
set_option maxHeartbeats 4000000 in
theorem p_X12_trial {g : pG} {l : Launch} {N : Nat} {a0 : Int32} {a1 : Int32} {a2 : Int32} {a3 : Int32} {a4 : Int32} {s : cS} {q : Int32 × cS} (h : f_X12_trial N a0 a1 a2 a3 a4 s = some q) : PM g l 4 M_X12_trial [.ref 193, .int a0, .int a1, .int a2, .int a3, .int a4] (tS s) (some (.int q.1)) (tS q.2) 0 0 := by
  refine PM.of (by decide +kernel) (Nat.le_of_ble_eq_true rfl) ?_
  show PW g l (pRoom 4 0 0) M_X12_trial _ 0 [(0, .ref 193), (1, .int a0), (2, .int a1), (3, .int a2), (4, .int a3), (5, .int a4)] [] (tS s) 0 0
  unfold f_X12_trial at h
  generalize hF : pE g (some (.int q.1)) (tS q.2) 0 0 = F
  have hx := hF.symm
  refine PW.aload_n 0 0 dX12_trial_0 rfl rfl rfl ?_
  refine CW.geti dX12_trial_1 fL_X12_427 LA_193 (Or.inl rfl) ?_
  refine PW.bipush (v := 8) dX12_trial_4 (by decide) ?_
  refine PW.icmp_eq (tgt := 41) dX12_trial_6 (by decide) (fun c1 => ?_) (fun c1 => ?_)
  · replace h := ifp h c1
    refine PW.iconst (v := (-1)) dX12_trial_41 (by decide) ?_
    cases h
    subst hx
    exact PW.iret (v := (-1 : Int32)) dX12_trial_42 rfl rfl (Nat.le_refl 0) (Nat.le_refl 0)
  · replace h := ifn h c1
    refine PW.aload_n 0 0 dX12_trial_9 rfl rfl rfl ?_
    refine PW.iload_n 1 1 dX12_trial_10 rfl rfl ?_
    refine CW.callVi (ci := 12) (st := []) [.int a0] dX12_trial_11 (p_X12_isPiece rfl) MV_X12_isPiece mL_X12_419 (by decide) rfl LA_193 rfl rfl (Nat.le_of_ble_eq_true rfl) (by first | decide | omega) ?_
    refine PW.if_eq (tgt := 41) dX12_trial_14 (by decide) (fun c3 => ?_) (fun c3 => ?_)
    · replace h := ifp h c3
      refine PW.iconst (v := (-1)) dX12_trial_41 (by decide) ?_
      cases h
      subst hx
      exact PW.iret (v := (-1 : Int32)) dX12_trial_42 rfl rfl (Nat.le_refl 0) (Nat.le_refl 0)
    · replace h := ifn h c3
      refine PW.aload_n 0 0 dX12_trial_17 rfl rfl rfl ?_
      refine PW.iload_n 2 2 dX12_trial_18 rfl rfl ?_
      refine PW.iload_n 3 3 dX12_trial_19 rfl rfl ?_
      refine PW.iload 4 dX12_trial_20 rfl ?_
      obtain ⟨r4, s5, q6, h⟩ := obnd h
      refine CW.callVi (ci := 12) (st := []) [.int a1, .int a2, .int a3] dX12_trial_22 (p_X12_canFly q6) MV_X12_canFly mL_X12_384 (by decide) rfl LA_193 rfl rfl (Nat.le_of_ble_eq_true rfl) (by first | decide | omega) ?_
      refine PW.if_eq (tgt := 41) dX12_trial_25 (by decide) (fun c7 => ?_) (fun c7 => ?_)
      · replace h := ifp h c7
        refine PW.iconst (v := (-1)) dX12_trial_41 (by decide) ?_
        cases h
        subst hx
        exact PW.iret (v := (-1 : Int32)) dX12_trial_42 rfl rfl (Nat.le_refl 0) (Nat.le_refl 0)
      · replace h := ifn h c7
        refine PW.iload 5 dX12_trial_28 rfl ?_
        refine PW.i2l dX12_trial_30 ?_
        refine PW.lconst (v := 1) dX12_trial_31 (by decide) ?_
        refine PW.ldc2_w dX12_trial_32 kL_X12_175 ?_
        refine CW.callSi (st := []) [.long a4.toInt64, .long (1 : Int64), .long (10000 : Int64)] dX12_trial_35 (ps_isIn rfl) MS_X12_isIn mL_X12_164 rfl rfl (Nat.le_of_ble_eq_true rfl) (by first | decide | omega) ?_
        refine PW.if_ne (tgt := 43) dX12_trial_38 (by decide) (fun c9 => ?_) (fun c9 => ?_)
        · replace h := ifn h c9
          refine PW.bipush (v := 8) dX12_trial_43 (by decide) ?_
          refine PW.aload_n 0 0 dX12_trial_45 rfl rfl rfl ?_
          refine CW.geti dX12_trial_46 fL_X12_427 LA_193 (Or.inl rfl) ?_
          refine PW.iadd dX12_trial_49 ?_
          refine PW.istore dX12_trial_50 (Nat.le_of_ble_eq_true rfl) rfl ?_
          refine PW.iconst (v := 0) dX12_trial_52 (by decide) ?_
          refine PW.istore dX12_trial_53 (Nat.le_of_ble_eq_true rfl) rfl ?_
          exact PW.pick [2, 3, 4, 5, 6, 7, 1, 0] rfl (ok_w_X12_trial_55 h hx)
        · replace h := ifp h c9
          refine PW.iconst (v := (-1)) dX12_trial_41 (by decide) ?_
          cases h
          subst hx
          exact PW.iret (v := (-1 : Int32)) dX12_trial_42 rfl rfl (Nat.le_refl 0) (Nat.le_refl 0)
/-! X12_lostBy -/
def f_X12_lostBy (N : Nat) (a0 : Int32) (s : cS) : Option (Int64 × cS) :=
  if inb a0 8 then
  ob (f_X12_all N (iG s 224 a0.toNatClampNeg) ((8 : Int32) + a0) (iG s 225 a0.toNatClampNeg) (iG s 226 a0.toNatClampNeg) s) fun r2 s3 =>
  ob (f_X12_waysOf N (iG s3 224 a0.toNatClampNeg) s3) fun r5 s6 =>
  ob (f_X12_waysLeft N (iG s6 224 a0.toNatClampNeg) (2000 : Int32) s6) fun r8 s9 =>
  some (((r5 - r8), s9))
  else none
set_option maxRecDepth 20000 in
set_option maxHeartbeats 4000000 in
theorem p_X12_lostBy {g : pG} {l : Launch} {N : Nat} {a0 : Int32} {s : cS} {q : Int64 × cS} (h : f_X12_lostBy N a0 s = some q) : PM g l 8 M_X12_lostBy [.ref 193, .int a0] (tS s) (some (.long q.1)) (tS q.2) 0 0 := by
  refine PM.of (by decide +kernel) (Nat.le_of_ble_eq_true rfl) ?_
  show PW g l (pRoom 8 0 0) M_X12_lostBy _ 0 [(0, .ref 193), (1, .int a0)] [] (tS s) 0 0
  unfold f_X12_lostBy at h
  generalize hF : pE g (some (.long q.1)) (tS q.2) 0 0 = F
  have hx := hF.symm
  refine PW.aload_n 0 0 dX12_lostBy_0 rfl rfl rfl ?_
  refine PW.aload_n 0 0 dX12_lostBy_1 rfl rfl rfl ?_
  refine CW.getr dX12_lostBy_2 fL_X12_102 LA_193 (Or.inr ⟨_, rfl⟩) rfl ?_
  refine PW.iload_n 1 1 dX12_lostBy_5 rfl rfl ?_
  by_cases c1 : inb a0 8
  rotate_left
  · have h := ifn h c1; cases h
  replace h := ifp h c1
  refine CW.iald dX12_lostBy_6 LA_224 c1 ?_
  refine PW.bipush (v := 8) dX12_lostBy_7 (by decide) ?_
  refine PW.iload_n 1 1 dX12_lostBy_9 rfl rfl ?_
  refine PW.iadd dX12_lostBy_10 ?_
  refine PW.aload_n 0 0 dX12_lostBy_11 rfl rfl rfl ?_
  refine CW.getr dX12_lostBy_12 fL_X12_105 LA_193 (Or.inr ⟨_, rfl⟩) rfl ?_
  refine PW.iload_n 1 1 dX12_lostBy_15 rfl rfl ?_
  refine CW.iald dX12_lostBy_16 LA_225 c1 ?_
  refine PW.aload_n 0 0 dX12_lostBy_17 rfl rfl rfl ?_
  refine CW.getr dX12_lostBy_18 fL_X12_108 LA_193 (Or.inr ⟨_, rfl⟩) rfl ?_
  refine PW.iload_n 1 1 dX12_lostBy_21 rfl rfl ?_
  refine CW.iald dX12_lostBy_22 LA_226 c1 ?_
  obtain ⟨r2, s3, q4, h⟩ := obnd h
  refine CW.callVv (ci := 12) (st := []) [.int (iG s 224 a0.toNatClampNeg), .int ((8 : Int32) + a0), .int (iG s 225 a0.toNatClampNeg), .int (iG s 226 a0.toNatClampNeg)] dX12_lostBy_23 (p_X12_all q4) MV_X12_all mL_X12_393 (by decide) rfl LA_193 rfl rfl (Nat.le_of_ble_eq_true rfl) (by first | decide | omega) ?_
  refine PW.aload_n 0 0 dX12_lostBy_26 rfl rfl rfl ?_
  refine PW.aload_n 0 0 dX12_lostBy_27 rfl rfl rfl ?_
  refine CW.getr dX12_lostBy_28 fL_X12_102 LA_193 (Or.inr ⟨_, rfl⟩) rfl ?_
  refine PW.iload_n 1 1 dX12_lostBy_31 rfl rfl ?_
  refine CW.iald dX12_lostBy_32 LA_224 c1 ?_
  obtain ⟨r5, s6, q7, h⟩ := obnd h
  refine CW.callVl (ci := 12) (st := []) [.int (iG s3 224 a0.toNatClampNeg)] dX12_lostBy_33 (p_X12_waysOf q7) MV_X12_waysOf mL_X12_397 (by decide) rfl LA_193 rfl rfl (Nat.le_of_ble_eq_true rfl) (by first | decide | omega) ?_
  refine PW.aload_n 0 0 dX12_lostBy_36 rfl rfl rfl ?_
  refine PW.aload_n 0 0 dX12_lostBy_37 rfl rfl rfl ?_
  refine CW.getr dX12_lostBy_38 fL_X12_102 LA_193 (Or.inr ⟨_, rfl⟩) rfl ?_
  refine PW.iload_n 1 1 dX12_lostBy_41 rfl rfl ?_
  refine CW.iald dX12_lostBy_42 LA_224 c1 ?_
  refine PW.sipush (v := 2000) dX12_lostBy_43 (by decide) ?_
  obtain ⟨r8, s9, q10, h⟩ := obnd h
  refine CW.callVl (ci := 12) (st := [.long r5]) [.int (iG s6 224 a0.toNatClampNeg), .int (2000 : Int32)] dX12_lostBy_46 (p_X12_waysLeft q10) MV_X12_waysLeft mL_X12_401 (by decide) rfl LA_193 rfl rfl (Nat.le_of_ble_eq_true rfl) (by first | decide | omega) ?_
  refine PW.lsub dX12_lostBy_49 ?_
  cases h
  subst hx
  exact PW.lret dX12_lostBy_50 rfl (Nat.le_refl 0) (Nat.le_refl 0)
/-! X12_says -/
def f_X12_says (N : Nat) (a0 : Int32) (a1 : Int32) (s : cS) : Option (Int64 × cS) :=
  if (lIn a0.toInt64 (0 : Int64) (((iG s 193 4) - (1 : Int32)).toInt64)) = 0 then
    some (((-1 : Int64), s))
  else
    if (lIn a1.toInt64 (0 : Int64) (1 : Int64)) = 0 then
      some (((-1 : Int64), s))
    else
      ob (f_X12_lostBy N a0 s) fun r5 s6 =>
      if inb a0 8 then
      ob (f_X12_waysOf N (iG s6 224 a0.toNatClampNeg) s6) fun r9 s10 =>
      ob (f_X12_divisor N r5 r9 s10) fun r12 s13 =>
      if a1 = 0 then
        if r12 = 0 then none else
        some (((r5 / r12), s13))
      else
        if r12 = 0 then none else
        some (((r9 / r12), s13))
      else none
set_option maxRecDepth 20000 in
set_option maxHeartbeats 4000000 in
theorem p_X12_says {g : pG} {l : Launch} {N : Nat} {a0 : Int32} {a1 : Int32} {s : cS} {q : Int64 × cS} (h : f_X12_says N a0 a1 s = some q) : PM g l 9 M_X12_says [.ref 193, .int a0, .int a1] (tS s) (some (.long q.1)) (tS q.2) 0 0 := by
  refine PM.of (by decide +kernel) (Nat.le_of_ble_eq_true rfl) ?_
  show PW g l (pRoom 9 0 0) M_X12_says _ 0 [(0, .ref 193), (1, .int a0), (2, .int a1)] [] (tS s) 0 0
  unfold f_X12_says at h
  generalize hF : pE g (some (.long q.1)) (tS q.2) 0 0 = F
  have hx := hF.symm
  refine PW.iload_n 1 1 dX12_says_0 rfl rfl ?_
  refine PW.i2l dX12_says_1 ?_
  refine PW.lconst (v := 0) dX12_says_2 (by decide) ?_
  refine PW.aload_n 0 0 dX12_says_3 rfl rfl rfl ?_
  refine CW.geti dX12_says_4 fL_X12_427 LA_193 (Or.inl rfl) ?_
  refine PW.iconst (v := 1) dX12_says_7 (by decide) ?_
  refine PW.isub dX12_says_8 ?_
  refine PW.i2l dX12_says_9 ?_
  refine CW.callSi (st := []) [.long a0.toInt64, .long (0 : Int64), .long ((iG s 193 4) - (1 : Int32)).toInt64] dX12_says_10 (ps_isIn rfl) MS_X12_isIn mL_X12_164 rfl rfl (Nat.le_of_ble_eq_true rfl) (by first | decide | omega) ?_
  refine PW.if_eq (tgt := 26) dX12_says_13 (by decide) (fun c2 => ?_) (fun c2 => ?_)
  · replace h := ifp h c2
    refine PW.ldc2_w dX12_says_26 kL_X12_388 ?_
    cases h
    subst hx
    exact PW.lret dX12_says_29 rfl (Nat.le_refl 0) (Nat.le_refl 0)
  · replace h := ifn h c2
    refine PW.iload_n 2 2 dX12_says_16 rfl rfl ?_
    refine PW.i2l dX12_says_17 ?_
    refine PW.lconst (v := 0) dX12_says_18 (by decide) ?_
    refine PW.lconst (v := 1) dX12_says_19 (by decide) ?_
    refine CW.callSi (st := []) [.long a1.toInt64, .long (0 : Int64), .long (1 : Int64)] dX12_says_20 (ps_isIn rfl) MS_X12_isIn mL_X12_164 rfl rfl (Nat.le_of_ble_eq_true rfl) (by first | decide | omega) ?_
    refine PW.if_ne (tgt := 30) dX12_says_23 (by decide) (fun c4 => ?_) (fun c4 => ?_)
    · replace h := ifn h c4
      refine PW.aload_n 0 0 dX12_says_30 rfl rfl rfl ?_
      refine PW.iload_n 1 1 dX12_says_31 rfl rfl ?_
      obtain ⟨r5, s6, q7, h⟩ := obnd h
      refine CW.callVl (ci := 12) (st := []) [.int a0] dX12_says_32 (p_X12_lostBy q7) MV_X12_lostBy mL_X12_430 (by decide) rfl LA_193 rfl rfl (Nat.le_of_ble_eq_true rfl) (by first | decide | omega) ?_
      refine PW.lstore_n dX12_says_35 rfl (Nat.le_of_ble_eq_true rfl) rfl ?_
      refine PW.aload_n 1 0 dX12_says_36 rfl rfl rfl ?_
      refine PW.aload_n 1 0 dX12_says_37 rfl rfl rfl ?_
      refine CW.getr dX12_says_38 fL_X12_102 LA_193 (Or.inr ⟨_, rfl⟩) rfl ?_
      refine PW.iload_n 2 1 dX12_says_41 rfl rfl ?_
      by_cases c8 : inb a0 8
      rotate_left
      · have h := ifn h c8; cases h
      replace h := ifp h c8
      refine CW.iald dX12_says_42 LA_224 c8 ?_
      obtain ⟨r9, s10, q11, h⟩ := obnd h
      refine CW.callVl (ci := 12) (st := []) [.int (iG s6 224 a0.toNatClampNeg)] dX12_says_43 (p_X12_waysOf q11) MV_X12_waysOf mL_X12_397 (by decide) rfl LA_193 rfl rfl (Nat.le_of_ble_eq_true rfl) (by first | decide | omega) ?_
      refine PW.lstore dX12_says_46 (Nat.le_of_ble_eq_true rfl) rfl ?_
      refine PW.lload_n 1 3 dX12_says_48 rfl rfl ?_
      refine PW.lload 0 dX12_says_49 rfl ?_
      obtain ⟨r12, s13, q14, h⟩ := obnd h
      refine CW.callSl (st := []) [.long r5, .long r9] dX12_says_51 (p_X12_divisor q14) MS_X12_divisor mL_X12_410 rfl rfl (Nat.le_of_ble_eq_true rfl) (by first | decide | omega) ?_
      refine PW.lstore dX12_says_54 (Nat.le_of_ble_eq_true rfl) rfl ?_
      refine PW.iload_n 5 2 dX12_says_56 rfl rfl ?_
      refine PW.if_ne (tgt := 67) dX12_says_57 (by decide) (fun c15 => ?_) (fun c15 => ?_)
      · replace h := ifn h c15
        refine PW.lload 1 dX12_says_67 rfl ?_
        refine PW.lload 0 dX12_says_69 rfl ?_
        by_cases c16 : r12 = 0
        · have h := ifp h c16; cases h
        replace h := ifn h c16
        refine PW.ldiv dX12_says_71 c16 ?_
        cases h
        subst hx
        exact PW.lret dX12_says_72 rfl (Nat.le_refl 0) (Nat.le_refl 0)
      · replace h := ifp h c15
        refine PW.lload_n 2 3 dX12_says_60 rfl rfl ?_
        refine PW.lload 0 dX12_says_61 rfl ?_
        by_cases c17 : r12 = 0
        · have h := ifp h c17; cases h
        replace h := ifn h c17
        refine PW.ldiv dX12_says_63 c17 ?_
        refine PW.goto (tgt := 72) dX12_says_64 (by decide) ?_
        cases h
        subst hx
        exact PW.lret dX12_says_72 rfl (Nat.le_refl 0) (Nat.le_refl 0)
    · replace h := ifp h c4
      refine PW.ldc2_w dX12_says_26 kL_X12_388 ?_
      cases h
      subst hx
      exact PW.lret dX12_says_29 rfl (Nat.le_refl 0) (Nat.le_refl 0)
/-! X12_cheapest -/
def j_X12_cheapest_74 (x1 : Int32) (x2 : Int32) (x3 : Int32) (s : cS) : Option (((Int32 × Int32) × cS) ⊕ (Int32 × cS)) :=
  some (.inl ((x2, (x3 + (1 : Int32))), s))
set_option maxRecDepth 20000 in
set_option maxHeartbeats 4000000 in
theorem ok_j_X12_cheapest_74 {g : pG} {l : Launch} {F : pF} {x1 : Int32} {x2 : Int32} {x3 : Int32} {s : cS} {x : (((Int32 × Int32) × cS) ⊕ (Int32 × cS))} (h : j_X12_cheapest_74 x1 x2 x3 s = some x) (hx : (KL (fun (v : (Int32 × Int32) × cS) => PW g l (pRoom 9 0 0) M_X12_cheapest F 18 [(0, .ref 193), (1, .int x1), (2, .int v.1.1), (3, .int v.1.2)] [] (tS v.2) 0 0) (fun q => F = pE g (some (.int q.1)) (tS q.2) 0 0)) x) : PW g l (pRoom 9 0 0) M_X12_cheapest F 74 [(0, .ref 193), (1, .int x1), (2, .int x2), (3, .int x3)] [] (tS s) 0 0 := by
  unfold j_X12_cheapest_74 at h
  refine PW.iinc (v := (x3 + (1 : Int32))) 3 dX12_cheapest_74 rfl (by first | rfl | decide) (Nat.le_of_ble_eq_true rfl) rfl ?_
  refine PW.goto (tgt := 18) dX12_cheapest_77 (by decide) ?_
  cases h
  exact PW.pick [1, 2, 3, 0] rfl hx
def j_X12_cheapest_46 (N : Nat) (x1 : Int32) (x2 : Int32) (x3 : Int32) (s : cS) : Option (((Int32 × Int32) × cS) ⊕ (Int32 × cS)) :=
  ob (f_X12_lostBy N x3 s) fun r5 s6 =>
  if inb x3 8 then
  ob (f_X12_waysOf N (iG s6 224 x3.toNatClampNeg) s6) fun r9 s10 =>
  if (lg_cmp (r5 * (1000 : Int64)) (x1.toInt64 * r9)) < 0 then
    j_X12_cheapest_74 x1 x2 x3 s10
  else
    j_X12_cheapest_74 x1 x3 x3 s10
  else none
set_option maxRecDepth 20000 in
set_option maxHeartbeats 4000000 in
theorem ok_j_X12_cheapest_46 {g : pG} {l : Launch} {F : pF} {N : Nat} {x1 : Int32} {x2 : Int32} {x3 : Int32} {s : cS} {x : (((Int32 × Int32) × cS) ⊕ (Int32 × cS))} (h : j_X12_cheapest_46 N x1 x2 x3 s = some x) (hx : (KL (fun (v : (Int32 × Int32) × cS) => PW g l (pRoom 9 0 0) M_X12_cheapest F 18 [(0, .ref 193), (1, .int x1), (2, .int v.1.1), (3, .int v.1.2)] [] (tS v.2) 0 0) (fun q => F = pE g (some (.int q.1)) (tS q.2) 0 0)) x) : PW g l (pRoom 9 0 0) M_X12_cheapest F 46 [(0, .ref 193), (1, .int x1), (2, .int x2), (3, .int x3)] [] (tS s) 0 0 := by
  unfold j_X12_cheapest_46 at h
  refine PW.aload_n 0 0 dX12_cheapest_46 rfl rfl rfl ?_
  refine PW.iload_n 3 3 dX12_cheapest_47 rfl rfl ?_
  obtain ⟨r5, s6, q7, h⟩ := obnd h
  refine CW.callVl (ci := 12) (st := []) [.int x3] dX12_cheapest_48 (p_X12_lostBy q7) MV_X12_lostBy mL_X12_430 (by decide) rfl LA_193 rfl rfl (Nat.le_of_ble_eq_true rfl) (by first | decide | omega) ?_
  refine PW.ldc2_w dX12_cheapest_51 kL_X12_417 ?_
  refine PW.lmul dX12_cheapest_54 ?_
  refine PW.iload_n 1 1 dX12_cheapest_55 rfl rfl ?_
  refine PW.i2l dX12_cheapest_56 ?_
  refine PW.aload_n 0 0 dX12_cheapest_57 rfl rfl rfl ?_
  refine PW.aload_n 0 0 dX12_cheapest_58 rfl rfl rfl ?_
  refine CW.getr dX12_cheapest_59 fL_X12_102 LA_193 (Or.inr ⟨_, rfl⟩) rfl ?_
  refine PW.iload_n 3 3 dX12_cheapest_62 rfl rfl ?_
  by_cases c8 : inb x3 8
  rotate_left
  · have h := ifn h c8; cases h
  replace h := ifp h c8
  refine CW.iald dX12_cheapest_63 LA_224 c8 ?_
  obtain ⟨r9, s10, q11, h⟩ := obnd h
  refine CW.callVl (ci := 12) (st := [.long x1.toInt64, .long (r5 * (1000 : Int64))]) [.int (iG s6 224 x3.toNatClampNeg)] dX12_cheapest_64 (p_X12_waysOf q11) MV_X12_waysOf mL_X12_397 (by decide) rfl LA_193 rfl rfl (Nat.le_of_ble_eq_true rfl) (by first | decide | omega) ?_
  refine PW.lmul dX12_cheapest_67 ?_
  refine PW.lcmp dX12_cheapest_68 ?_
  refine PW.if_lt (tgt := 74) dX12_cheapest_69 (by decide) (fun c12 => ?_) (fun c12 => ?_)
  · replace h := ifp h c12
    exact PW.pick [0, 1, 2, 3] rfl (ok_j_X12_cheapest_74 h hx)
  · replace h := ifn h c12
    refine PW.iload_n 3 3 dX12_cheapest_72 rfl rfl ?_
    refine PW.istore_n dX12_cheapest_73 rfl (Nat.le_of_ble_eq_true rfl) rfl ?_
    exact PW.pick [1, 2, 0, 3] rfl (ok_j_X12_cheapest_74 h hx)
def b_X12_cheapest_18 (N : Nat) (x1 : Int32) (x2 : Int32) (x3 : Int32) (s : cS) : Option (((Int32 × Int32) × cS) ⊕ (Int32 × cS)) :=
  if (iG s 193 4) ≤ x3 then
    oR (
      some ((x2, s)))
  else
    if x2 = (-1 : Int32) then
      j_X12_cheapest_46 N x1 x2 x3 s
    else
      if inb x3 8 then
      if inb x2 8 then
      if (iG s 227 x2.toNatClampNeg) ≤ (iG s 227 x3.toNatClampNeg) then
        j_X12_cheapest_74 x1 x2 x3 s
      else
        j_X12_cheapest_46 N x1 x2 x3 s
      else none
      else none
set_option maxRecDepth 20000 in
set_option maxHeartbeats 4000000 in
theorem ok_b_X12_cheapest_18 {g : pG} {l : Launch} {F : pF} {N : Nat} {x1 : Int32} {x2 : Int32} {x3 : Int32} {s : cS} {x : (((Int32 × Int32) × cS) ⊕ (Int32 × cS))} (h : b_X12_cheapest_18 N x1 x2 x3 s = some x) (hx : (KL (fun (v : (Int32 × Int32) × cS) => PW g l (pRoom 9 0 0) M_X12_cheapest F 18 [(0, .ref 193), (1, .int x1), (2, .int v.1.1), (3, .int v.1.2)] [] (tS v.2) 0 0) (fun q => F = pE g (some (.int q.1)) (tS q.2) 0 0)) x) : PW g l (pRoom 9 0 0) M_X12_cheapest F 18 [(0, .ref 193), (1, .int x1), (2, .int x2), (3, .int x3)] [] (tS s) 0 0 := by
  unfold b_X12_cheapest_18 at h
  refine PW.iload_n 3 3 dX12_cheapest_18 rfl rfl ?_
  refine PW.aload_n 0 0 dX12_cheapest_19 rfl rfl rfl ?_
  refine CW.geti dX12_cheapest_20 fL_X12_427 LA_193 (Or.inl rfl) ?_
  refine PW.icmp_ge (tgt := 80) dX12_cheapest_23 (by decide) (fun c3 => ?_) (fun c3 => ?_)
  · replace h := ifp h c3
    obtain ⟨xo, hy, hxo⟩ := oRb h
    clear h
    subst hxo
    replace hx := KLr hx
    have h := hy
    clear hy
    refine PW.iload_n 2 2 dX12_cheapest_80 rfl rfl ?_
    cases h
    subst hx
    exact PW.iret (v := x2) dX12_cheapest_81 rfl rfl (Nat.le_refl 0) (Nat.le_refl 0)
  · replace h := ifn h c3
    refine PW.iload_n 2 2 dX12_cheapest_26 rfl rfl ?_
    refine PW.iconst (v := (-1)) dX12_cheapest_27 (by decide) ?_
    refine PW.icmp_eq (tgt := 46) dX12_cheapest_28 (by decide) (fun c4 => ?_) (fun c4 => ?_)
    · replace h := ifp h c4
      exact PW.pick [0, 1, 2, 3] rfl (ok_j_X12_cheapest_46 h hx)
    · replace h := ifn h c4
      refine PW.aload_n 0 0 dX12_cheapest_31 rfl rfl rfl ?_
      refine CW.getr dX12_cheapest_32 fL_X12_111 LA_193 (Or.inr ⟨_, rfl⟩) rfl ?_
      refine PW.iload_n 3 3 dX12_cheapest_35 rfl rfl ?_
      by_cases c13 : inb x3 8
      rotate_left
      · have h := ifn h c13; cases h
      replace h := ifp h c13
      refine CW.iald dX12_cheapest_36 LA_227 c13 ?_
      refine PW.aload_n 0 0 dX12_cheapest_37 rfl rfl rfl ?_
      refine CW.getr dX12_cheapest_38 fL_X12_111 LA_193 (Or.inr ⟨_, rfl⟩) rfl ?_
      refine PW.iload_n 2 2 dX12_cheapest_41 rfl rfl ?_
      by_cases c14 : inb x2 8
      rotate_left
      · have h := ifn h c14; cases h
      replace h := ifp h c14
      refine CW.iald dX12_cheapest_42 LA_227 c14 ?_
      refine PW.icmp_ge (tgt := 74) dX12_cheapest_43 (by decide) (fun c15 => ?_) (fun c15 => ?_)
      · replace h := ifp h c15
        exact PW.pick [0, 1, 2, 3] rfl (ok_j_X12_cheapest_74 h hx)
      · replace h := ifn h c15
        exact PW.pick [0, 1, 2, 3] rfl (ok_j_X12_cheapest_46 h hx)
def w_X12_cheapest_18 (N : Nat) (x1 : Int32) (x2 : Int32) (x3 : Int32) (s : cS) : Option (Int32 × cS) := itr (fun (v : (Int32 × Int32) × cS) => b_X12_cheapest_18 N x1 v.1.1 v.1.2 v.2) N ((x2, x3), s)
theorem ok_w_X12_cheapest_18 {g : pG} {l : Launch} {F : pF} {N : Nat} {x1 : Int32} {x2 : Int32} {x3 : Int32} {s : cS} {x : (Int32 × cS)} (h : w_X12_cheapest_18 N x1 x2 x3 s = some x) (hx : (fun q => F = pE g (some (.int q.1)) (tS q.2) 0 0) x) : PW g l (pRoom 9 0 0) M_X12_cheapest F 18 [(0, .ref 193), (1, .int x1), (2, .int x2), (3, .int x3)] [] (tS s) 0 0 :=
  okIter (P := (fun (v : (Int32 × Int32) × cS) => PW g l (pRoom 9 0 0) M_X12_cheapest F 18 [(0, .ref 193), (1, .int x1), (2, .int v.1.1), (3, .int v.1.2)] [] (tS v.2) 0 0)) (K := (fun q => F = pE g (some (.int q.1)) (tS q.2) 0 0)) (fun v y hB hy => ok_b_X12_cheapest_18 hB hy) N ((x2, x3), s) x h hx
def f_X12_cheapest (N : Nat) (a0 : Int32) (s : cS) : Option (Int32 × cS) :=
  if (lIn a0.toInt64 (1 : Int64) (1000 : Int64)) = 0 then
    some (((-1 : Int32), s))
  else
    w_X12_cheapest_18 N a0 (-1 : Int32) (0 : Int32) s
set_option maxRecDepth 20000 in
set_option maxHeartbeats 4000000 in
theorem p_X12_cheapest {g : pG} {l : Launch} {N : Nat} {a0 : Int32} {s : cS} {q : Int32 × cS} (h : f_X12_cheapest N a0 s = some q) : PM g l 9 M_X12_cheapest [.ref 193, .int a0] (tS s) (some (.int q.1)) (tS q.2) 0 0 := by
  refine PM.of (by decide +kernel) (Nat.le_of_ble_eq_true rfl) ?_
  show PW g l (pRoom 9 0 0) M_X12_cheapest _ 0 [(0, .ref 193), (1, .int a0)] [] (tS s) 0 0
  unfold f_X12_cheapest at h
  generalize hF : pE g (some (.int q.1)) (tS q.2) 0 0 = F
  have hx := hF.symm
  refine PW.iload_n 1 1 dX12_cheapest_0 rfl rfl ?_
  refine PW.i2l dX12_cheapest_1 ?_
  refine PW.lconst (v := 1) dX12_cheapest_2 (by decide) ?_
  refine PW.ldc2_w dX12_cheapest_3 kL_X12_417 ?_
  refine CW.callSi (st := []) [.long a0.toInt64, .long (1 : Int64), .long (1000 : Int64)] dX12_cheapest_6 (ps_isIn rfl) MS_X12_isIn mL_X12_164 rfl rfl (Nat.le_of_ble_eq_true rfl) (by first | decide | omega) ?_
  refine PW.if_ne (tgt := 14) dX12_cheapest_9 (by decide) (fun c2 => ?_) (fun c2 => ?_)
  · replace h := ifn h c2
    refine PW.iconst (v := (-1)) dX12_cheapest_14 (by decide) ?_
    refine PW.istore_n dX12_cheapest_15 rfl (Nat.le_of_ble_eq_true rfl) rfl ?_
    refine PW.iconst (v := 0) dX12_cheapest_16 (by decide) ?_
    refine PW.istore_n dX12_cheapest_17 rfl (Nat.le_of_ble_eq_true rfl) rfl ?_
    exact PW.pick [2, 3, 1, 0] rfl (ok_w_X12_cheapest_18 h hx)
  · replace h := ifp h c2
    refine PW.iconst (v := (-1)) dX12_cheapest_12 (by decide) ?_
    cases h
    subst hx
    exact PW.iret (v := (-1 : Int32)) dX12_cheapest_13 rfl rfl (Nat.le_refl 0) (Nat.le_refl 0)
