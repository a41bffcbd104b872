/-! X12_fly -/
def j_X12_fly_165 (x3 : Int32) (x4 : Int32) (x5 : Int32) (x6 : Int32) (x7 : Int64) (x9 : Int32) (x10 : Int64) (x12 : Int32) (s : cS) : Option (((Int32 × Int64 × Int32) × cS) ⊕ (Int32 × cS)) :=
  some (.inl ((x9, x10, (x12 + (1 : Int32))), s))
set_option maxRecDepth 20000 in
set_option maxHeartbeats 4000000 in
theorem ok_j_X12_fly_165 {g : pG} {l : Launch} {F : pF} {x3 : Int32} {x4 : Int32} {x5 : Int32} {x6 : Int32} {x7 : Int64} {x9 : Int32} {x10 : Int64} {x12 : Int32} {s : cS} {x : (((Int32 × Int64 × Int32) × cS) ⊕ (Int32 × cS))} (h : j_X12_fly_165 x3 x4 x5 x6 x7 x9 x10 x12 s = some x) (hx : (KL (fun (v : (Int32 × Int64 × Int32) × cS) => PW g l (pRoom 8 0 0) M_X12_fly F 100 [(0, .ref 193), (3, .int x3), (4, .int x4), (5, .int x5), (6, .int x6), (7, .long x7), (9, .int v.1.1), (10, .long v.1.2.1), (12, .int v.1.2.2)] [] (tS v.2) 0 0) (fun q => F = pE g (some (.int q.1)) (tS q.2) 0 0)) x) : PW g l (pRoom 8 0 0) M_X12_fly F 165 [(0, .ref 193), (3, .int x3), (4, .int x4), (5, .int x5), (6, .int x6), (7, .long x7), (9, .int x9), (10, .long x10), (12, .int x12)] [] (tS s) 0 0 := by
  unfold j_X12_fly_165 at h
  refine PW.iinc (v := (x12 + (1 : Int32))) 8 dX12_fly_165 rfl (by first | rfl | decide) (Nat.le_of_ble_eq_true rfl) rfl ?_
  refine PW.goto (tgt := 100) dX12_fly_168 (by decide) ?_
  cases h
  exact PW.pick [1, 2, 3, 4, 5, 6, 7, 8, 0] rfl hx
def j_X12_fly_157 (x3 : Int32) (x4 : Int32) (x5 : Int32) (x6 : Int32) (x7 : Int64) (x12 : Int32) (x13 : Int64) (s : cS) : Option (((Int32 × Int64 × Int32) × cS) ⊕ (Int32 × cS)) :=
  j_X12_fly_165 x3 x4 x5 x6 x7 x12 x13 x12 s
set_option maxRecDepth 20000 in
set_option maxHeartbeats 4000000 in
theorem ok_j_X12_fly_157 {g : pG} {l : Launch} {F : pF} {x3 : Int32} {x4 : Int32} {x5 : Int32} {x6 : Int32} {x7 : Int64} {x12 : Int32} {x13 : Int64} {s : cS} {x : (((Int32 × Int64 × Int32) × cS) ⊕ (Int32 × cS))} (h : j_X12_fly_157 x3 x4 x5 x6 x7 x12 x13 s = some x) (hx : (KL (fun (v : (Int32 × Int64 × Int32) × cS) => PW g l (pRoom 8 0 0) M_X12_fly F 100 [(0, .ref 193), (3, .int x3), (4, .int x4), (5, .int x5), (6, .int x6), (7, .long x7), (9, .int v.1.1), (10, .long v.1.2.1), (12, .int v.1.2.2)] [] (tS v.2) 0 0) (fun q => F = pE g (some (.int q.1)) (tS q.2) 0 0)) x) : PW g l (pRoom 8 0 0) M_X12_fly F 157 [(0, .ref 193), (3, .int x3), (4, .int x4), (5, .int x5), (6, .int x6), (7, .long x7), (12, .int x12), (13, .long x13)] [] (tS s) 0 0 := by
  unfold j_X12_fly_157 at h
  refine PW.iload 6 dX12_fly_157 rfl ?_
  refine PW.istore dX12_fly_159 (Nat.le_of_ble_eq_true rfl) rfl ?_
  refine PW.lload 8 dX12_fly_161 rfl ?_
  refine PW.lstore dX12_fly_163 (Nat.le_of_ble_eq_true rfl) rfl ?_
  exact PW.pick [2, 3, 4, 5, 6, 7, 1, 0, 8] rfl (ok_j_X12_fly_165 h hx)
def b_X12_fly_100 (N : Nat) (x3 : Int32) (x4 : Int32) (x5 : Int32) (x6 : Int32) (x7 : Int64) (x9 : Int32) (x10 : Int64) (x12 : Int32) (s : cS) : Option (((Int32 × Int64 × Int32) × cS) ⊕ (Int32 × cS)) :=
  if x3 < x12 then
    oR (
      some ((x9, s)))
  else
    ob (f_X12_waysLeft N (f_X12_whole s) (x6 + x12) s) fun r23 s24 =>
    if x12 ≤ 0 then
      j_X12_fly_157 x3 x4 x5 x6 x7 x12 ((x4.toInt64 * (x7 - r23)) + ((x5.toInt64 * (x3 - x12).toInt64) * x7)) s24
    else
      if (lg_cmp ((x4.toInt64 * (x7 - r23)) + ((x5.toInt64 * (x3 - x12).toInt64) * x7)) x10) < 0 then
        j_X12_fly_157 x3 x4 x5 x6 x7 x12 ((x4.toInt64 * (x7 - r23)) + ((x5.toInt64 * (x3 - x12).toInt64) * x7)) s24
      else
        j_X12_fly_165 x3 x4 x5 x6 x7 x9 x10 x12 s24
set_option maxRecDepth 20000 in
set_option maxHeartbeats 4000000 in
theorem ok_b_X12_fly_100 {g : pG} {l : Launch} {F : pF} {N : Nat} {x3 : Int32} {x4 : Int32} {x5 : Int32} {x6 : Int32} {x7 : Int64} {x9 : Int32} {x10 : Int64} {x12 : Int32} {s : cS} {x : (((Int32 × Int64 × Int32) × cS) ⊕ (Int32 × cS))} (h : b_X12_fly_100 N x3 x4 x5 x6 x7 x9 x10 x12 s = some x) (hx : (KL (fun (v : (Int32 × Int64 × Int32) × cS) => PW g l (pRoom 8 0 0) M_X12_fly F 100 [(0, .ref 193), (3, .int x3), (4, .int x4), (5, .int x5), (6, .int x6), (7, .long x7), (9, .int v.1.1), (10, .long v.1.2.1), (12, .int v.1.2.2)] [] (tS v.2) 0 0) (fun q => F = pE g (some (.int q.1)) (tS q.2) 0 0)) x) : PW g l (pRoom 8 0 0) M_X12_fly F 100 [(0, .ref 193), (3, .int x3), (4, .int x4), (5, .int x5), (6, .int x6), (7, .long x7), (9, .int x9), (10, .long x10), (12, .int x12)] [] (tS s) 0 0 := by
  unfold b_X12_fly_100 at h
  refine PW.iload 8 dX12_fly_100 rfl ?_
  refine PW.iload_n 1 3 dX12_fly_102 rfl rfl ?_
  refine PW.icmp_gt (tgt := 171) dX12_fly_103 (by decide) (fun c21 => ?_) (fun c21 => ?_)
  · replace h := ifp h c21
    obtain ⟨xo, hy, hxo⟩ := oRb h
    clear h
    subst hxo
    replace hx := KLr hx
    have h := hy
    clear hy
    refine PW.iload 6 dX12_fly_171 rfl ?_
    cases h
    subst hx
    exact PW.iret (v := x9) dX12_fly_173 rfl rfl (Nat.le_refl 0) (Nat.le_refl 0)
  · replace h := ifn h c21
    refine PW.iload 2 dX12_fly_106 rfl ?_
    refine PW.i2l dX12_fly_108 ?_
    refine PW.lload 5 dX12_fly_109 rfl ?_
    refine PW.aload_n 0 0 dX12_fly_111 rfl rfl rfl ?_
    refine PW.aload_n 0 0 dX12_fly_112 rfl rfl rfl ?_
    refine CW.callVi (ci := 12) (st := [.ref 193, .long x7, .long x4.toInt64]) [] dX12_fly_113 (p_X12_whole rfl) MV_X12_whole mL_X12_390 (by decide) rfl LA_193 rfl rfl (Nat.le_of_ble_eq_true rfl) (by first | decide | omega) ?_
    refine PW.iload 4 dX12_fly_116 rfl ?_
    refine PW.iload 8 dX12_fly_118 rfl ?_
    refine PW.iadd dX12_fly_120 ?_
    obtain ⟨r23, s24, q25, h⟩ := obnd h
    refine CW.callVl (ci := 12) (st := [.long x7, .long x4.toInt64]) [.int (f_X12_whole s), .int (x6 + x12)] dX12_fly_121 (p_X12_waysLeft q25) MV_X12_waysLeft mL_X12_401 (by decide) rfl LA_193 rfl rfl (Nat.le_of_ble_eq_true rfl) (by first | decide | omega) ?_
    refine PW.lsub dX12_fly_124 ?_
    refine PW.lmul dX12_fly_125 ?_
    refine PW.iload 3 dX12_fly_126 rfl ?_
    refine PW.i2l dX12_fly_128 ?_
    refine PW.iload_n 1 3 dX12_fly_129 rfl rfl ?_
    refine PW.iload 8 dX12_fly_130 rfl ?_
    refine PW.isub dX12_fly_132 ?_
    refine PW.i2l dX12_fly_133 ?_
    refine PW.lmul dX12_fly_134 ?_
    refine PW.lload 5 dX12_fly_135 rfl ?_
    refine PW.lmul dX12_fly_137 ?_
    refine PW.ladd dX12_fly_138 ?_
    refine PW.lstore dX12_fly_139 (Nat.le_of_ble_eq_true rfl) rfl ?_
    refine PW.iload 9 dX12_fly_141 rfl ?_
    refine PW.if_le (tgt := 157) dX12_fly_143 (by decide) (fun c26 => ?_) (fun c26 => ?_)
    · replace h := ifp h c26
      exact PW.pick [1, 2, 3, 4, 5, 6, 9, 0] rfl (ok_j_X12_fly_157 h hx)
    · replace h := ifn h c26
      refine PW.lload 0 dX12_fly_146 rfl ?_
      refine PW.lload 8 dX12_fly_148 rfl ?_
      refine PW.lcmp dX12_fly_150 ?_
      refine PW.if_lt (tgt := 157) dX12_fly_151 (by decide) (fun c27 => ?_) (fun c27 => ?_)
      · replace h := ifp h c27
        exact PW.pick [1, 2, 3, 4, 5, 6, 9, 0] rfl (ok_j_X12_fly_157 h hx)
      · replace h := ifn h c27
        refine PW.goto (tgt := 165) dX12_fly_154 (by decide) ?_
        exact PW.pick [1, 2, 3, 4, 5, 6, 7, 8, 9] rfl (ok_j_X12_fly_165 h hx)
def w_X12_fly_100 (N : Nat) (x3 : Int32) (x4 : Int32) (x5 : Int32) (x6 : Int32) (x7 : Int64) (x9 : Int32) (x10 : Int64) (x12 : Int32) (s : cS) : Option (Int32 × cS) := itr (fun (v : (Int32 × Int64 × Int32) × cS) => b_X12_fly_100 N x3 x4 x5 x6 x7 v.1.1 v.1.2.1 v.1.2.2 v.2) N ((x9, x10, x12), s)
theorem ok_w_X12_fly_100 {g : pG} {l : Launch} {F : pF} {N : Nat} {x3 : Int32} {x4 : Int32} {x5 : Int32} {x6 : Int32} {x7 : Int64} {x9 : Int32} {x10 : Int64} {x12 : Int32} {s : cS} {x : (Int32 × cS)} (h : w_X12_fly_100 N x3 x4 x5 x6 x7 x9 x10 x12 s = some x) (hx : (fun q => F = pE g (some (.int q.1)) (tS q.2) 0 0) x) : PW g l (pRoom 8 0 0) M_X12_fly F 100 [(0, .ref 193), (3, .int x3), (4, .int x4), (5, .int x5), (6, .int x6), (7, .long x7), (9, .int x9), (10, .long x10), (12, .int x12)] [] (tS s) 0 0 :=
  okIter (P := (fun (v : (Int32 × Int64 × Int32) × cS) => PW g l (pRoom 8 0 0) M_X12_fly F 100 [(0, .ref 193), (3, .int x3), (4, .int x4), (5, .int x5), (6, .int x6), (7, .long x7), (9, .int v.1.1), (10, .long v.1.2.1), (12, .int v.1.2.2)] [] (tS v.2) 0 0)) (K := (fun q => F = pE g (some (.int q.1)) (tS q.2) 0 0)) (fun v y hB hy => ok_b_X12_fly_100 hB hy) N ((x9, x10, x12), s) x h hx
def f_X12_fly (N : Nat) (a0 : Int32) (a1 : Int32) (a2 : Int32) (a3 : Int32) (a4 : Int32) (s : cS) : Option (Int32 × cS) :=
  if (lIn a2.toInt64 (0 : Int64) (200 : Int64)) = 0 then
    some (((-1 : Int32), s))
  else
    ob (f_X12_canFly a0 a1 a2 s) fun r3 s4 =>
    if r3 = 0 then
      some (((-1 : Int32), s4))
    else
      if (lIn a3.toInt64 (0 : Int64) (1000000 : Int64)) = 0 then
        some (((-1 : Int32), s4))
      else
        if (lIn a4.toInt64 (0 : Int64) (1000 : Int64)) = 0 then
          some (((-1 : Int32), s4))
        else
          ob (f_X12_all N (f_X12_whole s4) a0 a1 a2 s4) fun r12 s13 =>
          if inb a0 16 then
          ob (f_X12_waysLeft N (f_X12_whole s13) (iG s13 220 a0.toNatClampNeg) s13) fun r17 s18 =>
          if (lg_cmp r17 (0 : Int64)) = 0 then
            some (((-2 : Int32), s18))
          else
            w_X12_fly_100 N a2 a3 a4 (iG s13 220 a0.toNatClampNeg) r17 (0 : Int32) (0 : Int64) (0 : Int32) s18
          else none
set_option maxRecDepth 20000 in
set_option maxHeartbeats 4000000 in
theorem p_X12_fly {g : pG} {l : Launch} {N : Nat} {a0 : Int32} {a1 : Int32} {a2 : Int32} {a3 : Int32} {a4 : Int32} {s : cS} {q : Int32 × cS} (h : f_X12_fly N a0 a1 a2 a3 a4 s = some q) : PM g l 8 M_X12_fly [.ref 193, .int a0, .int a1, .int a2, .int a3, .int a4] (tS s) (some (.int q.1)) (tS q.2) 0 0 := by
  refine PM.of (by decide +kernel) (Nat.le_of_ble_eq_true rfl) ?_
  show PW g l (pRoom 8 0 0) M_X12_fly _ 0 [(0, .ref 193), (1, .int a0), (2, .int a1), (3, .int a2), (4, .int a3), (5, .int a4)] [] (tS s) 0 0
  unfold f_X12_fly at h
  generalize hF : pE g (some (.int q.1)) (tS q.2) 0 0 = F
  have hx := hF.symm
  refine PW.iload_n 3 3 dX12_fly_0 rfl rfl ?_
  refine PW.i2l dX12_fly_1 ?_
  refine PW.lconst (v := 0) dX12_fly_2 (by decide) ?_
  refine PW.ldc2_w dX12_fly_3 kL_X12_433 ?_
  refine CW.callSi (st := []) [.long a2.toInt64, .long (0 : Int64), .long (200 : Int64)] dX12_fly_6 (ps_isIn rfl) MS_X12_isIn mL_X12_164 rfl rfl (Nat.le_of_ble_eq_true rfl) (by first | decide | omega) ?_
  refine PW.if_eq (tgt := 48) dX12_fly_9 (by decide) (fun c2 => ?_) (fun c2 => ?_)
  · replace h := ifp h c2
    refine PW.iconst (v := (-1)) dX12_fly_48 (by decide) ?_
    cases h
    subst hx
    exact PW.iret (v := (-1 : Int32)) dX12_fly_49 rfl rfl (Nat.le_refl 0) (Nat.le_refl 0)
  · replace h := ifn h c2
    refine PW.aload_n 0 0 dX12_fly_12 rfl rfl rfl ?_
    refine PW.iload_n 1 1 dX12_fly_13 rfl rfl ?_
    refine PW.iload_n 2 2 dX12_fly_14 rfl rfl ?_
    refine PW.iload_n 3 3 dX12_fly_15 rfl rfl ?_
    obtain ⟨r3, s4, q5, h⟩ := obnd h
    refine CW.callVi (ci := 12) (st := []) [.int a0, .int a1, .int a2] dX12_fly_16 (p_X12_canFly q5) MV_X12_canFly mL_X12_384 (by decide) rfl LA_193 rfl rfl (Nat.le_of_ble_eq_true rfl) (by first | decide | omega) ?_
    refine PW.if_eq (tgt := 48) dX12_fly_19 (by decide) (fun c6 => ?_) (fun c6 => ?_)
    · replace h := ifp h c6
      refine PW.iconst (v := (-1)) dX12_fly_48 (by decide) ?_
      cases h
      subst hx
      exact PW.iret (v := (-1 : Int32)) dX12_fly_49 rfl rfl (Nat.le_refl 0) (Nat.le_refl 0)
    · replace h := ifn h c6
      refine PW.iload 4 dX12_fly_22 rfl ?_
      refine PW.i2l dX12_fly_24 ?_
      refine PW.lconst (v := 0) dX12_fly_25 (by decide) ?_
      refine PW.ldc2_w dX12_fly_26 kL_X12_181 ?_
      refine CW.callSi (st := []) [.long a3.toInt64, .long (0 : Int64), .long (1000000 : Int64)] dX12_fly_29 (ps_isIn rfl) MS_X12_isIn mL_X12_164 rfl rfl (Nat.le_of_ble_eq_true rfl) (by first | decide | omega) ?_
      refine PW.if_eq (tgt := 48) dX12_fly_32 (by decide) (fun c8 => ?_) (fun c8 => ?_)
      · replace h := ifp h c8
        refine PW.iconst (v := (-1)) dX12_fly_48 (by decide) ?_
        cases h
        subst hx
        exact PW.iret (v := (-1 : Int32)) dX12_fly_49 rfl rfl (Nat.le_refl 0) (Nat.le_refl 0)
      · replace h := ifn h c8
        refine PW.iload 5 dX12_fly_35 rfl ?_
        refine PW.i2l dX12_fly_37 ?_
        refine PW.lconst (v := 0) dX12_fly_38 (by decide) ?_
        refine PW.ldc2_w dX12_fly_39 kL_X12_417 ?_
        refine CW.callSi (st := []) [.long a4.toInt64, .long (0 : Int64), .long (1000 : Int64)] dX12_fly_42 (ps_isIn rfl) MS_X12_isIn mL_X12_164 rfl rfl (Nat.le_of_ble_eq_true rfl) (by first | decide | omega) ?_
        refine PW.if_ne (tgt := 50) dX12_fly_45 (by decide) (fun c10 => ?_) (fun c10 => ?_)
        · replace h := ifn h c10
          refine PW.aload_n 0 0 dX12_fly_50 rfl rfl rfl ?_
          refine PW.aload_n 0 0 dX12_fly_51 rfl rfl rfl ?_
          refine CW.callVi (ci := 12) (st := [.ref 193]) [] dX12_fly_52 (p_X12_whole rfl) MV_X12_whole mL_X12_390 (by decide) rfl LA_193 rfl rfl (Nat.le_of_ble_eq_true rfl) (by first | decide | omega) ?_
          refine PW.iload_n 1 1 dX12_fly_55 rfl rfl ?_
          refine PW.iload_n 2 2 dX12_fly_56 rfl rfl ?_
          refine PW.iload_n 3 3 dX12_fly_57 rfl rfl ?_
          obtain ⟨r12, s13, q14, h⟩ := obnd h
          refine CW.callVv (ci := 12) (st := []) [.int (f_X12_whole s4), .int a0, .int a1, .int a2] dX12_fly_58 (p_X12_all q14) MV_X12_all mL_X12_393 (by decide) rfl LA_193 rfl rfl (Nat.le_of_ble_eq_true rfl) (by first | decide | omega) ?_
          refine PW.aload_n 0 0 dX12_fly_61 rfl rfl rfl ?_
          refine CW.getr dX12_fly_62 fL_X12_90 LA_193 (Or.inr ⟨_, rfl⟩) rfl ?_
          refine PW.iload_n 1 1 dX12_fly_65 rfl rfl ?_
          by_cases c15 : inb a0 16
          rotate_left
          · have h := ifn h c15; cases h
          replace h := ifp h c15
          refine CW.iald dX12_fly_66 LA_220 c15 ?_
          refine PW.istore dX12_fly_67 (Nat.le_of_ble_eq_true rfl) rfl ?_
          refine PW.aload_n 1 0 dX12_fly_69 rfl rfl rfl ?_
          refine PW.aload_n 1 0 dX12_fly_70 rfl rfl rfl ?_
          refine CW.callVi (ci := 12) (st := [.ref 193]) [] dX12_fly_71 (p_X12_whole rfl) MV_X12_whole mL_X12_390 (by decide) rfl LA_193 rfl rfl (Nat.le_of_ble_eq_true rfl) (by first | decide | omega) ?_
          refine PW.iload 0 dX12_fly_74 rfl ?_
          obtain ⟨r17, s18, q19, h⟩ := obnd h
          refine CW.callVl (ci := 12) (st := []) [.int (f_X12_whole s13), .int (iG s13 220 a0.toNatClampNeg)] dX12_fly_76 (p_X12_waysLeft q19) MV_X12_waysLeft mL_X12_401 (by decide) rfl LA_193 rfl rfl (Nat.le_of_ble_eq_true rfl) (by first | decide | omega) ?_
          refine PW.lstore dX12_fly_79 (Nat.le_of_ble_eq_true rfl) rfl ?_
          refine PW.lload 0 dX12_fly_81 rfl ?_
          refine PW.lconst (v := 0) dX12_fly_83 (by decide) ?_
          refine PW.lcmp dX12_fly_84 ?_
          refine PW.if_ne (tgt := 91) dX12_fly_85 (by decide) (fun c20 => ?_) (fun c20 => ?_)
          · replace h := ifn h c20
            refine PW.iconst (v := 0) dX12_fly_91 (by decide) ?_
            refine PW.istore dX12_fly_92 (Nat.le_of_ble_eq_true rfl) rfl ?_
            refine PW.lconst (v := 0) dX12_fly_94 (by decide) ?_
            refine PW.lstore dX12_fly_95 (Nat.le_of_ble_eq_true rfl) rfl ?_
            refine PW.iconst (v := 0) dX12_fly_97 (by decide) ?_
            refine PW.istore dX12_fly_98 (Nat.le_of_ble_eq_true rfl) rfl ?_
            exact PW.pick [5, 8, 9, 10, 4, 3, 2, 1, 0] rfl (ok_w_X12_fly_100 h hx)
          · replace h := ifp h c20
            refine PW.bipush (v := (-2)) dX12_fly_88 (by decide) ?_
            cases h
            subst hx
            exact PW.iret (v := (-2 : Int32)) dX12_fly_90 rfl rfl (Nat.le_refl 0) (Nat.le_refl 0)
        · replace h := ifp h c10
          refine PW.iconst (v := (-1)) dX12_fly_48 (by decide) ?_
          cases h
          subst hx
          exact PW.iret (v := (-1 : Int32)) dX12_fly_49 rfl rfl (Nat.le_refl 0) (Nat.le_refl 0)
/-! X12_isHull -/
def f_X12_isHull (a0 : Int32) (s : cS) : Int32 :=
  (lIn a0.toInt64 (0 : Int64) (((iG s 193 3) - (1 : Int32)).toInt64))
set_option maxRecDepth 20000 in
set_option maxHeartbeats 4000000 in
theorem p_X12_isHull {g : pG} {l : Launch} {a0 : Int32} {s : cS} {q : Int32} (h : f_X12_isHull a0 s = q) : PM g l 2 M_X12_isHull [.ref 193, .int a0] (tS s) (some (.int q)) (tS s) 0 0 := by
  refine PM.of (by decide +kernel) (Nat.le_of_ble_eq_true rfl) ?_
  show PW g l (pRoom 2 0 0) M_X12_isHull _ 0 [(0, .ref 193), (1, .int a0)] [] (tS s) 0 0
  unfold f_X12_isHull at h
  generalize hF : pE g (some (.int q)) (tS s) 0 0 = F
  have hx := hF.symm
  refine PW.iload_n 1 1 dX12_isHull_0 rfl rfl ?_
  refine PW.i2l dX12_isHull_1 ?_
  refine PW.lconst (v := 0) dX12_isHull_2 (by decide) ?_
  refine PW.aload_n 0 0 dX12_isHull_3 rfl rfl rfl ?_
  refine CW.geti dX12_isHull_4 fL_X12_168 LA_193 (Or.inl rfl) ?_
  refine PW.iconst (v := 1) dX12_isHull_7 (by decide) ?_
  refine PW.isub dX12_isHull_8 ?_
  refine PW.i2l dX12_isHull_9 ?_
  refine CW.callSi (st := []) [.long a0.toInt64, .long (0 : Int64), .long ((iG s 193 3) - (1 : Int32)).toInt64] dX12_isHull_10 (ps_isIn rfl) MS_X12_isIn mL_X12_164 rfl rfl (Nat.le_of_ble_eq_true rfl) (by first | decide | omega) ?_
  cases h
  subst hx
  exact PW.iret (v := (lIn a0.toInt64 (0 : Int64) (((iG s 193 3) - (1 : Int32)).toInt64))) dX12_isHull_13 rfl (narZ (lIn_bool _ _ _)) (Nat.le_refl 0) (Nat.le_refl 0)
theorem f_X12_isHull_bool {a0 : Int32} {s : cS} : f_X12_isHull a0 s = 0 ∨ f_X12_isHull a0 s = 1 := by
  unfold f_X12_isHull
  repeat' split
  all_goals first | exact Or.inl rfl | exact Or.inr rfl | exact lIn_bool _ _ _
/-! X12_hull -/
def j_X12_hull_108 (x1 : Int32) (x2 : Int32) (y1 : Int32) (y2 : Int32) (s : cS) : Option ((Int32 × cS) ⊕ (Int32 × cS)) :=
  if inb y1 80 then
  sb (iS s 230 y1.toNatClampNeg y2) fun s17 =>
  if inb (((8 : Int32) * (iG s17 193 3)) + x2) 80 then
  sb (iS s17 231 (((8 : Int32) * (iG s17 193 3)) + x2).toNatClampNeg (0 : Int32)) fun s19 =>
  if inb (((8 : Int32) * (iG s19 193 3)) + x2) 80 then
  sb (iS s19 232 (((8 : Int32) * (iG s19 193 3)) + x2).toNatClampNeg (0 : Int32)) fun s21 =>
  if inb (((8 : Int32) * (iG s21 193 3)) + x2) 80 then
  sb (iS s21 233 (((8 : Int32) * (iG s21 193 3)) + x2).toNatClampNeg (0 : Int32)) fun s23 =>
  some (.inl ((x2 + (1 : Int32)), s23))
  else none
  else none
  else none
  else none
set_option maxRecDepth 20000 in
set_option maxHeartbeats 4000000 in
theorem ok_j_X12_hull_108 {g : pG} {l : Launch} {F : pF} {x1 : Int32} {x2 : Int32} {y1 : Int32} {y2 : Int32} {s : cS} {x : ((Int32 × cS) ⊕ (Int32 × cS))} (h : j_X12_hull_108 x1 x2 y1 y2 s = some x) (hx : (KL (fun (v : Int32 × cS) => PW g l (pRoom 2 0 0) M_X12_hull F 40 [(0, .ref 193), (1, .int x1), (2, .int v.1)] [] (tS v.2) 0 0) (fun q => F = pE g (some (.int q.1)) (tS q.2) 0 0)) x) : PW g l (pRoom 2 0 0) M_X12_hull F 108 [(0, .ref 193), (1, .int x1), (2, .int x2)] [.int y2, .int y1, .ref 230] (tS s) 0 0 := by
  unfold j_X12_hull_108 at h
  by_cases c16 : inb y1 80
  rotate_left
  · have h := ifn h c16; cases h
  replace h := ifp h c16
  refine CW.iast dX12_hull_108 LA_230 c16 ?_
  obtain ⟨s17, es17, h⟩ := sbnd h
  refine PW.sbe es17 ?_
  clear es17
  refine PW.aload_n 0 0 dX12_hull_109 rfl rfl rfl ?_
  refine CW.getr dX12_hull_110 fL_X12_123 LA_193 (Or.inr ⟨_, rfl⟩) rfl ?_
  refine PW.bipush (v := 8) dX12_hull_113 (by decide) ?_
  refine PW.aload_n 0 0 dX12_hull_115 rfl rfl rfl ?_
  refine CW.geti dX12_hull_116 fL_X12_168 LA_193 (Or.inl rfl) ?_
  refine PW.imul dX12_hull_119 ?_
  refine PW.iload_n 2 2 dX12_hull_120 rfl rfl ?_
  refine PW.iadd dX12_hull_121 ?_
  refine PW.iconst (v := 0) dX12_hull_122 (by decide) ?_
  by_cases c18 : inb (((8 : Int32) * (iG s17 193 3)) + x2) 80
  rotate_left
  · have h := ifn h c18; cases h
  replace h := ifp h c18
  refine CW.iast dX12_hull_123 LA_231 c18 ?_
  obtain ⟨s19, es19, h⟩ := sbnd h
  refine PW.sbe es19 ?_
  clear es19
  refine PW.aload_n 0 0 dX12_hull_124 rfl rfl rfl ?_
  refine CW.getr dX12_hull_125 fL_X12_126 LA_193 (Or.inr ⟨_, rfl⟩) rfl ?_
  refine PW.bipush (v := 8) dX12_hull_128 (by decide) ?_
  refine PW.aload_n 0 0 dX12_hull_130 rfl rfl rfl ?_
  refine CW.geti dX12_hull_131 fL_X12_168 LA_193 (Or.inl rfl) ?_
  refine PW.imul dX12_hull_134 ?_
  refine PW.iload_n 2 2 dX12_hull_135 rfl rfl ?_
  refine PW.iadd dX12_hull_136 ?_
  refine PW.iconst (v := 0) dX12_hull_137 (by decide) ?_
  by_cases c20 : inb (((8 : Int32) * (iG s19 193 3)) + x2) 80
  rotate_left
  · have h := ifn h c20; cases h
  replace h := ifp h c20
  refine CW.iast dX12_hull_138 LA_232 c20 ?_
  obtain ⟨s21, es21, h⟩ := sbnd h
  refine PW.sbe es21 ?_
  clear es21
  refine PW.aload_n 0 0 dX12_hull_139 rfl rfl rfl ?_
  refine CW.getr dX12_hull_140 fL_X12_129 LA_193 (Or.inr ⟨_, rfl⟩) rfl ?_
  refine PW.bipush (v := 8) dX12_hull_143 (by decide) ?_
  refine PW.aload_n 0 0 dX12_hull_145 rfl rfl rfl ?_
  refine CW.geti dX12_hull_146 fL_X12_168 LA_193 (Or.inl rfl) ?_
  refine PW.imul dX12_hull_149 ?_
  refine PW.iload_n 2 2 dX12_hull_150 rfl rfl ?_
  refine PW.iadd dX12_hull_151 ?_
  refine PW.iconst (v := 0) dX12_hull_152 (by decide) ?_
  by_cases c22 : inb (((8 : Int32) * (iG s21 193 3)) + x2) 80
  rotate_left
  · have h := ifn h c22; cases h
  replace h := ifp h c22
  refine CW.iast dX12_hull_153 LA_233 c22 ?_
  obtain ⟨s23, es23, h⟩ := sbnd h
  refine PW.sbe es23 ?_
  clear es23
  refine PW.iinc (v := (x2 + (1 : Int32))) 2 dX12_hull_154 rfl (by first | rfl | decide) (Nat.le_of_ble_eq_true rfl) rfl ?_
  refine PW.goto (tgt := 40) dX12_hull_157 (by decide) ?_
  cases h
  exact PW.pick [1, 2, 0] rfl hx
def j_X12_hull_72 (x1 : Int32) (x2 : Int32) (x3 : Int32) (s : cS) : Option ((Int32 × cS) ⊕ (Int32 × cS)) :=
  if inb x2 8 then
  if (iG s 199 x2.toNatClampNeg) = 0 then
    j_X12_hull_108 x1 x2 (((8 : Int32) * (iG s 193 3)) + x2) (0 : Int32) s
  else
    if inb (((4 : Int32) * x2) + x3) 32 then
    j_X12_hull_108 x1 x2 (((8 : Int32) * (iG s 193 3)) + x2) (iG s 200 (((4 : Int32) * x2) + x3).toNatClampNeg) s
    else none
  else none
set_option maxRecDepth 20000 in
set_option maxHeartbeats 4000000 in
theorem ok_j_X12_hull_72 {g : pG} {l : Launch} {F : pF} {x1 : Int32} {x2 : Int32} {x3 : Int32} {s : cS} {x : ((Int32 × cS) ⊕ (Int32 × cS))} (h : j_X12_hull_72 x1 x2 x3 s = some x) (hx : (KL (fun (v : Int32 × cS) => PW g l (pRoom 2 0 0) M_X12_hull F 40 [(0, .ref 193), (1, .int x1), (2, .int v.1)] [] (tS v.2) 0 0) (fun q => F = pE g (some (.int q.1)) (tS q.2) 0 0)) x) : PW g l (pRoom 2 0 0) M_X12_hull F 72 [(0, .ref 193), (1, .int x1), (2, .int x2), (3, .int x3)] [] (tS s) 0 0 := by
  unfold j_X12_hull_72 at h
  refine PW.aload_n 0 0 dX12_hull_72 rfl rfl rfl ?_
  refine CW.getr dX12_hull_73 fL_X12_120 LA_193 (Or.inr ⟨_, rfl⟩) rfl ?_
  refine PW.bipush (v := 8) dX12_hull_76 (by decide) ?_
  refine PW.aload_n 0 0 dX12_hull_78 rfl rfl rfl ?_
  refine CW.geti dX12_hull_79 fL_X12_168 LA_193 (Or.inl rfl) ?_
  refine PW.imul dX12_hull_82 ?_
  refine PW.iload_n 2 2 dX12_hull_83 rfl rfl ?_
  refine PW.iadd dX12_hull_84 ?_
  refine PW.aload_n 0 0 dX12_hull_85 rfl rfl rfl ?_
  refine CW.getr dX12_hull_86 fL_X12_26 LA_193 (Or.inr ⟨_, rfl⟩) rfl ?_
  refine PW.iload_n 2 2 dX12_hull_89 rfl rfl ?_
  by_cases c13 : inb x2 8
  rotate_left
  · have h := ifn h c13; cases h
  replace h := ifp h c13
  refine CW.iald dX12_hull_90 LA_199 c13 ?_
  refine PW.if_ne (tgt := 98) dX12_hull_91 (by decide) (fun c14 => ?_) (fun c14 => ?_)
  · replace h := ifn h c14
    refine PW.aload_n 0 0 dX12_hull_98 rfl rfl rfl ?_
    refine CW.getr dX12_hull_99 fL_X12_29 LA_193 (Or.inr ⟨_, rfl⟩) rfl ?_
    refine PW.iconst (v := 4) dX12_hull_102 (by decide) ?_
    refine PW.iload_n 2 2 dX12_hull_103 rfl rfl ?_
    refine PW.imul dX12_hull_104 ?_
    refine PW.iload_n 3 3 dX12_hull_105 rfl rfl ?_
    refine PW.iadd dX12_hull_106 ?_
    by_cases c15 : inb (((4 : Int32) * x2) + x3) 32
    rotate_left
    · have h := ifn h c15; cases h
    replace h := ifp h c15
    refine CW.iald dX12_hull_107 LA_200 c15 ?_
    exact PW.pick [0, 1, 2] rfl (ok_j_X12_hull_108 h hx)
  · replace h := ifp h c14
    refine PW.iconst (v := 0) dX12_hull_94 (by decide) ?_
    refine PW.goto (tgt := 108) dX12_hull_95 (by decide) ?_
    exact PW.pick [0, 1, 2] rfl (ok_j_X12_hull_108 h hx)
def b_X12_hull_40 (x1 : Int32) (x2 : Int32) (s : cS) : Option ((Int32 × cS) ⊕ (Int32 × cS)) :=
  if (iG s 193 2) ≤ x2 then
    oR (
      if inb (iG s 193 3) 10 then
      sb (iS s 228 (iG s 193 3).toNatClampNeg (0 : Int32)) fun s7 =>
      if inb (iG s7 193 3) 10 then
      sb (iS s7 229 (iG s7 193 3).toNatClampNeg (-1 : Int32)) fun s9 =>
      sb (iS s9 193 3 ((iG s9 193 3) + (1 : Int32))) fun s10 =>
      some ((((iG s10 193 3) - (1 : Int32)), s10))
      else none
      else none)
  else
    if inb x2 8 then
    if ((x1 >>> (((2 : Int32) * x2) &&& 31)) &&& (3 : Int32)) < (iG s 199 x2.toNatClampNeg) then
      j_X12_hull_72 x1 x2 ((x1 >>> (((2 : Int32) * x2) &&& 31)) &&& (3 : Int32)) s
    else
      if ((x1 >>> (((2 : Int32) * x2) &&& 31)) &&& (3 : Int32)) ≤ 0 then
        j_X12_hull_72 x1 x2 ((x1 >>> (((2 : Int32) * x2) &&& 31)) &&& (3 : Int32)) s
      else
        oR (
          some (((-1 : Int32), s)))
    else none
set_option maxRecDepth 20000 in
set_option maxHeartbeats 4000000 in
theorem ok_b_X12_hull_40 {g : pG} {l : Launch} {F : pF} {x1 : Int32} {x2 : Int32} {s : cS} {x : ((Int32 × cS) ⊕ (Int32 × cS))} (h : b_X12_hull_40 x1 x2 s = some x) (hx : (KL (fun (v : Int32 × cS) => PW g l (pRoom 2 0 0) M_X12_hull F 40 [(0, .ref 193), (1, .int x1), (2, .int v.1)] [] (tS v.2) 0 0) (fun q => F = pE g (some (.int q.1)) (tS q.2) 0 0)) x) : PW g l (pRoom 2 0 0) M_X12_hull F 40 [(0, .ref 193), (1, .int x1), (2, .int x2)] [] (tS s) 0 0 := by
  unfold b_X12_hull_40 at h
  refine PW.iload_n 2 2 dX12_hull_40 rfl rfl ?_
  refine PW.aload_n 0 0 dX12_hull_41 rfl rfl rfl ?_
  refine CW.geti dX12_hull_42 fL_X12_161 LA_193 (Or.inl rfl) ?_
  refine PW.icmp_ge (tgt := 160) dX12_hull_45 (by decide) (fun c5 => ?_) (fun c5 => ?_)
  · replace h := ifp h c5
    obtain ⟨xo, hy, hxo⟩ := oRb h
    clear h
    subst hxo
    replace hx := KLr hx
    have h := hy
    clear hy
    refine PW.aload_n 0 0 dX12_hull_160 rfl rfl rfl ?_
    refine CW.getr dX12_hull_161 fL_X12_114 LA_193 (Or.inr ⟨_, rfl⟩) rfl ?_
    refine PW.aload_n 0 0 dX12_hull_164 rfl rfl rfl ?_
    refine CW.geti dX12_hull_165 fL_X12_168 LA_193 (Or.inl rfl) ?_
    refine PW.iconst (v := 0) dX12_hull_168 (by decide) ?_
    by_cases c6 : inb (iG s 193 3) 10
    rotate_left
    · have h := ifn h c6; cases h
    replace h := ifp h c6
    refine CW.iast dX12_hull_169 LA_228 c6 ?_
    obtain ⟨s7, es7, h⟩ := sbnd h
    refine PW.sbe es7 ?_
    clear es7
    refine PW.aload_n 0 0 dX12_hull_170 rfl rfl rfl ?_
    refine CW.getr dX12_hull_171 fL_X12_117 LA_193 (Or.inr ⟨_, rfl⟩) rfl ?_
    refine PW.aload_n 0 0 dX12_hull_174 rfl rfl rfl ?_
    refine CW.geti dX12_hull_175 fL_X12_168 LA_193 (Or.inl rfl) ?_
    refine PW.iconst (v := (-1)) dX12_hull_178 (by decide) ?_
    by_cases c8 : inb (iG s7 193 3) 10
    rotate_left
    · have h := ifn h c8; cases h
    replace h := ifp h c8
    refine CW.iast dX12_hull_179 LA_229 c8 ?_
    obtain ⟨s9, es9, h⟩ := sbnd h
    refine PW.sbe es9 ?_
    clear es9
    refine PW.aload_n 0 0 dX12_hull_180 rfl rfl rfl ?_
    refine PW.dup dX12_hull_181 rfl ?_
    refine CW.geti dX12_hull_182 fL_X12_168 LA_193 (Or.inl rfl) ?_
    refine PW.iconst (v := 1) dX12_hull_185 (by decide) ?_
    refine PW.iadd dX12_hull_186 ?_
    refine CW.puti dX12_hull_187 fL_X12_168 rfl LA_193 rfl ?_
    obtain ⟨s10, es10, h⟩ := sbnd h
    refine PW.sbe es10 ?_
    clear es10
    refine PW.aload_n 0 0 dX12_hull_190 rfl rfl rfl ?_
    refine CW.geti dX12_hull_191 fL_X12_168 LA_193 (Or.inl rfl) ?_
    refine PW.iconst (v := 1) dX12_hull_194 (by decide) ?_
    refine PW.isub dX12_hull_195 ?_
    cases h
    subst hx
    exact PW.iret (v := ((iG s10 193 3) - (1 : Int32))) dX12_hull_196 rfl rfl (Nat.le_refl 0) (Nat.le_refl 0)
  · replace h := ifn h c5
    refine PW.iload_n 1 1 dX12_hull_48 rfl rfl ?_
    refine PW.iconst (v := 2) dX12_hull_49 (by decide) ?_
    refine PW.iload_n 2 2 dX12_hull_50 rfl rfl ?_
    refine PW.imul dX12_hull_51 ?_
    refine PW.ishr dX12_hull_52 ?_
    refine PW.iconst (v := 3) dX12_hull_53 (by decide) ?_
    refine PW.iand dX12_hull_54 ?_
    refine PW.istore_n dX12_hull_55 rfl (Nat.le_of_ble_eq_true rfl) rfl ?_
    refine PW.iload_n 0 3 dX12_hull_56 rfl rfl ?_
    refine PW.aload_n 1 0 dX12_hull_57 rfl rfl rfl ?_
    refine CW.getr dX12_hull_58 fL_X12_26 LA_193 (Or.inr ⟨_, rfl⟩) rfl ?_
    refine PW.iload_n 3 2 dX12_hull_61 rfl rfl ?_
    by_cases c11 : inb x2 8
    rotate_left
    · have h := ifn h c11; cases h
    replace h := ifp h c11
    refine CW.iald dX12_hull_62 LA_199 c11 ?_
    refine PW.icmp_lt (tgt := 72) dX12_hull_63 (by decide) (fun c12 => ?_) (fun c12 => ?_)
    · replace h := ifp h c12
      exact PW.pick [1, 2, 3, 0] rfl (ok_j_X12_hull_72 h hx)
    · replace h := ifn h c12
      refine PW.iload_n 0 3 dX12_hull_66 rfl rfl ?_
      refine PW.if_le (tgt := 72) dX12_hull_67 (by decide) (fun c24 => ?_) (fun c24 => ?_)
      · replace h := ifp h c24
        exact PW.pick [1, 2, 3, 0] rfl (ok_j_X12_hull_72 h hx)
      · replace h := ifn h c24
        obtain ⟨xo, hy, hxo⟩ := oRb h
        clear h
        subst hxo
        replace hx := KLr hx
        have h := hy
        clear hy
        refine PW.iconst (v := (-1)) dX12_hull_70 (by decide) ?_
        cases h
        subst hx
        exact PW.iret (v := (-1 : Int32)) dX12_hull_71 rfl rfl (Nat.le_refl 0) (Nat.le_refl 0)
def w_X12_hull_40 (N : Nat) (x1 : Int32) (x2 : Int32) (s : cS) : Option (Int32 × cS) := itr (fun (v : Int32 × cS) => b_X12_hull_40 x1 v.1 v.2) N (x2, s)
theorem ok_w_X12_hull_40 {g : pG} {l : Launch} {F : pF} {N : Nat} {x1 : Int32} {x2 : Int32} {s : cS} {x : (Int32 × cS)} (h : w_X12_hull_40 N x1 x2 s = some x) (hx : (fun q => F = pE g (some (.int q.1)) (tS q.2) 0 0) x) : PW g l (pRoom 2 0 0) M_X12_hull F 40 [(0, .ref 193), (1, .int x1), (2, .int x2)] [] (tS s) 0 0 :=
  okIter (P := (fun (v : Int32 × cS) => PW g l (pRoom 2 0 0) M_X12_hull F 40 [(0, .ref 193), (1, .int x1), (2, .int v.1)] [] (tS v.2) 0 0)) (K := (fun q => F = pE g (some (.int q.1)) (tS q.2) 0 0)) (fun v y hB hy => ok_b_X12_hull_40 hB hy) N (x2, s) x h hx
def f_X12_hull (N : Nat) (a0 : Int32) (s : cS) : Option (Int32 × cS) :=
  if (iG s 193 3) = (10 : Int32) then
    some (((-1 : Int32), s))
  else
    if (iG s 193 2) = 0 then
      some (((-1 : Int32), s))
    else
      if (lIn a0.toInt64 (0 : Int64) ((((1 : Int32) <<< (((2 : Int32) * (iG s 193 2)) &&& 31)) - (1 : Int32)).toInt64)) = 0 then
        some (((-1 : Int32), s))
      else
        w_X12_hull_40 N a0 (0 : Int32) s
set_option maxRecDepth 20000 in
set_option maxHeartbeats 4000000 in
theorem p_X12_hull {g : pG} {l : Launch} {N : Nat} {a0 : Int32} {s : cS} {q : Int32 × cS} (h : f_X12_hull N a0 s = some q) : PM g l 2 M_X12_hull [.ref 193, .int a0] (tS s) (some (.int q.1)) (tS q.2) 0 0 := by
  refine PM.of (by decide +kernel) (Nat.le_of_ble_eq_true rfl) ?_
  show PW g l (pRoom 2 0 0) M_X12_hull _ 0 [(0, .ref 193), (1, .int a0)] [] (tS s) 0 0
  unfold f_X12_hull at h
  generalize hF : pE g (some (.int q.1)) (tS q.2) 0 0 = F
  have hx := hF.symm
  refine PW.aload_n 0 0 dX12_hull_0 rfl rfl rfl ?_
  refine CW.geti dX12_hull_1 fL_X12_168 LA_193 (Or.inl rfl) ?_
  refine PW.bipush (v := 10) dX12_hull_4 (by decide) ?_
  refine PW.icmp_eq (tgt := 36) dX12_hull_6 (by decide) (fun c1 => ?_) (fun c1 => ?_)
  · replace h := ifp h c1
    refine PW.iconst (v := (-1)) dX12_hull_36 (by decide) ?_
    cases h
    subst hx
    exact PW.iret (v := (-1 : Int32)) dX12_hull_37 rfl rfl (Nat.le_refl 0) (Nat.le_refl 0)
  · replace h := ifn h c1
    refine PW.aload_n 0 0 dX12_hull_9 rfl rfl rfl ?_
    refine CW.geti dX12_hull_10 fL_X12_161 LA_193 (Or.inl rfl) ?_
    refine PW.if_eq (tgt := 36) dX12_hull_13 (by decide) (fun c2 => ?_) (fun c2 => ?_)
    · replace h := ifp h c2
      refine PW.iconst (v := (-1)) dX12_hull_36 (by decide) ?_
      cases h
      subst hx
      exact PW.iret (v := (-1 : Int32)) dX12_hull_37 rfl rfl (Nat.le_refl 0) (Nat.le_refl 0)
    · replace h := ifn h c2
      refine PW.iload_n 1 1 dX12_hull_16 rfl rfl ?_
      refine PW.i2l dX12_hull_17 ?_
      refine PW.lconst (v := 0) dX12_hull_18 (by decide) ?_
      refine PW.iconst (v := 1) dX12_hull_19 (by decide) ?_
      refine PW.iconst (v := 2) dX12_hull_20 (by decide) ?_
      refine PW.aload_n 0 0 dX12_hull_21 rfl rfl rfl ?_
      refine CW.geti dX12_hull_22 fL_X12_161 LA_193 (Or.inl rfl) ?_
      refine PW.imul dX12_hull_25 ?_
      refine PW.ishl dX12_hull_26 ?_
      refine PW.iconst (v := 1) dX12_hull_27 (by decide) ?_
      refine PW.isub dX12_hull_28 ?_
      refine PW.i2l dX12_hull_29 ?_
      refine CW.callSi (st := []) [.long a0.toInt64, .long (0 : Int64), .long (((1 : Int32) <<< (((2 : Int32) * (iG s 193 2)) &&& 31)) - (1 : Int32)).toInt64] dX12_hull_30 (ps_isIn rfl) MS_X12_isIn mL_X12_164 rfl rfl (Nat.le_of_ble_eq_true rfl) (by first | decide | omega) ?_
      refine PW.if_ne (tgt := 38) dX12_hull_33 (by decide) (fun c4 => ?_) (fun c4 => ?_)
      · replace h := ifn h c4
        refine PW.iconst (v := 0) dX12_hull_38 (by decide) ?_
        refine PW.istore_n dX12_hull_39 rfl (Nat.le_of_ble_eq_true rfl) rfl ?_
        exact PW.pick [1, 2, 0] rfl (ok_w_X12_hull_40 h hx)
      · replace h := ifp h c4
        refine PW.iconst (v := (-1)) dX12_hull_36 (by decide) ?_
        cases h
        subst hx
        exact PW.iret (v := (-1 : Int32)) dX12_hull_37 rfl rfl (Nat.le_refl 0) (Nat.le_refl 0)
/-! X12_pullsHull -/
def j_X12_pullsHull_152 (x1 : Int32) (x2 : Int32) (x3 : Int32) (s : cS) : Option ((Int32 × cS) ⊕ (Unit × cS)) :=
  some (.inl ((x3 + (1 : Int32)), s))
set_option maxRecDepth 20000 in
set_option maxHeartbeats 4000000 in
theorem ok_j_X12_pullsHull_152 {g : pG} {l : Launch} {F : pF} {x1 : Int32} {x2 : Int32} {x3 : Int32} {s : cS} {x : ((Int32 × cS) ⊕ (Unit × cS))} (h : j_X12_pullsHull_152 x1 x2 x3 s = some x) (hx : (KL (fun (v : Int32 × cS) => PW g l (pRoom 6 0 0) M_X12_pullsHull F 2 [(0, .ref 193), (1, .int x1), (2, .int x2), (3, .int v.1)] [] (tS v.2) 0 0) (fun q => F = pE g none (tS q.2) 0 0)) x) : PW g l (pRoom 6 0 0) M_X12_pullsHull F 152 [(0, .ref 193), (1, .int x1), (2, .int x2), (3, .int x3)] [] (tS s) 0 0 := by
  unfold j_X12_pullsHull_152 at h
  refine PW.iinc (v := (x3 + (1 : Int32))) 3 dX12_pullsHull_152 rfl (by first | rfl | decide) (Nat.le_of_ble_eq_true rfl) rfl ?_
  refine PW.goto (tgt := 2) dX12_pullsHull_155 (by decide) ?_
  cases h
  exact PW.pick [1, 2, 3, 0] rfl hx
def b_X12_pullsHull_2 (N : Nat) (x1 : Int32) (x2 : Int32) (x3 : Int32) (s : cS) : Option ((Int32 × cS) ⊕ (Unit × cS)) :=
  if (iG s 193 2) ≤ x3 then
    oR (
      if inb x1 10 then
      sb (iS s 228 x1.toNatClampNeg ((iG s 228 x1.toNatClampNeg) + (1 : Int32))) fun s3 =>
      some (((), s3))
      else none)
  else
    if inb (((8 : Int32) * x1) + x3) 80 then
    if (iG s 230 (((8 : Int32) * x1) + x3).toNatClampNeg) = 0 then
      j_X12_pullsHull_152 x1 x2 x3 s
    else
      sb (iS s 193 38 x3) fun s6 =>
      sb (iS s6 193 39 x2) fun s7 =>
      if inb x1 10 then
      sb (iS s7 193 40 (iG s7 228 x1.toNatClampNeg)) fun s9 =>
      sb (iS s9 193 42 (iG s9 233 (((8 : Int32) * x1) + x3).toNatClampNeg)) fun s10 =>
      sb (iS s10 193 43 (iG s10 232 (((8 : Int32) * x1) + x3).toNatClampNeg)) fun s11 =>
      sb (iS s11 193 44 (iG s11 231 (((8 : Int32) * x1) + x3).toNatClampNeg)) fun s12 =>
      ob (f_X12_isPulled N (iG s12 230 (((8 : Int32) * x1) + x3).toNatClampNeg) s12) fun r13 s14 =>
      sb (iS s14 233 (((8 : Int32) * x1) + x3).toNatClampNeg (iG s14 193 42)) fun s16 =>
      sb (iS s16 232 (((8 : Int32) * x1) + x3).toNatClampNeg (iG s16 193 43)) fun s17 =>
      sb (iS s17 231 (((8 : Int32) * x1) + x3).toNatClampNeg (iG s17 193 44)) fun s18 =>
      ob (f_X12_runsNow s18) fun r19 s20 =>
      if r19 = 0 then
        j_X12_pullsHull_152 x1 x2 x3 s20
      else
        if (iG s20 229 x1.toNatClampNeg) = (-1 : Int32) then
          sb (iS s20 229 x1.toNatClampNeg x3) fun s24 =>
          j_X12_pullsHull_152 x1 x2 x3 s24
        else
          j_X12_pullsHull_152 x1 x2 x3 s20
      else none
    else none
set_option maxRecDepth 20000 in
set_option maxHeartbeats 4000000 in
theorem ok_b_X12_pullsHull_2 {g : pG} {l : Launch} {F : pF} {N : Nat} {x1 : Int32} {x2 : Int32} {x3 : Int32} {s : cS} {x : ((Int32 × cS) ⊕ (Unit × cS))} (h : b_X12_pullsHull_2 N x1 x2 x3 s = some x) (hx : (KL (fun (v : Int32 × cS) => PW g l (pRoom 6 0 0) M_X12_pullsHull F 2 [(0, .ref 193), (1, .int x1), (2, .int x2), (3, .int v.1)] [] (tS v.2) 0 0) (fun q => F = pE g none (tS q.2) 0 0)) x) : PW g l (pRoom 6 0 0) M_X12_pullsHull F 2 [(0, .ref 193), (1, .int x1), (2, .int x2), (3, .int x3)] [] (tS s) 0 0 := by
  unfold b_X12_pullsHull_2 at h
  refine PW.iload_n 3 3 dX12_pullsHull_2 rfl rfl ?_
  refine PW.aload_n 0 0 dX12_pullsHull_3 rfl rfl rfl ?_
  refine CW.geti dX12_pullsHull_4 fL_X12_161 LA_193 (Or.inl rfl) ?_
  refine PW.icmp_ge (tgt := 158) dX12_pullsHull_7 (by decide) (fun c1 => ?_) (fun c1 => ?_)
  · replace h := ifp h c1
    obtain ⟨xo, hy, hxo⟩ := oRb h
    clear h
    subst hxo
    replace hx := KLr hx
    have h := hy
    clear hy
    refine PW.aload_n 0 0 dX12_pullsHull_158 rfl rfl rfl ?_
    refine CW.getr dX12_pullsHull_159 fL_X12_114 LA_193 (Or.inr ⟨_, rfl⟩) rfl ?_
    refine PW.iload_n 1 1 dX12_pullsHull_162 rfl rfl ?_
    refine PW.dup2 dX12_pullsHull_163 rfl rfl ?_
    by_cases c2 : inb x1 10
    rotate_left
    · have h := ifn h c2; cases h
    replace h := ifp h c2
    refine CW.iald dX12_pullsHull_164 LA_228 c2 ?_
    refine PW.iconst (v := 1) dX12_pullsHull_165 (by decide) ?_
    refine PW.iadd dX12_pullsHull_166 ?_
    refine CW.iast dX12_pullsHull_167 LA_228 c2 ?_
    obtain ⟨s3, es3, h⟩ := sbnd h
    refine PW.sbe es3 ?_
    clear es3
    cases h
    subst hx
    exact PW.vret dX12_pullsHull_168 rfl (Nat.le_refl 0) (Nat.le_refl 0)
  · replace h := ifn h c1
    refine PW.bipush (v := 8) dX12_pullsHull_10 (by decide) ?_
    refine PW.iload_n 1 1 dX12_pullsHull_12 rfl rfl ?_
    refine PW.imul dX12_pullsHull_13 ?_
    refine PW.iload_n 3 3 dX12_pullsHull_14 rfl rfl ?_
    refine PW.iadd dX12_pullsHull_15 ?_
    refine PW.istore dX12_pullsHull_16 (Nat.le_of_ble_eq_true rfl) rfl ?_
    refine PW.aload_n 1 0 dX12_pullsHull_18 rfl rfl rfl ?_
    refine CW.getr dX12_pullsHull_19 fL_X12_120 LA_193 (Or.inr ⟨_, rfl⟩) rfl ?_
    refine PW.iload 0 dX12_pullsHull_22 rfl ?_
    by_cases c4 : inb (((8 : Int32) * x1) + x3) 80
    rotate_left
    · have h := ifn h c4; cases h
    replace h := ifp h c4
    refine CW.iald dX12_pullsHull_24 LA_230 c4 ?_
    refine PW.if_ne (tgt := 31) dX12_pullsHull_25 (by decide) (fun c5 => ?_) (fun c5 => ?_)
    · replace h := ifn h c5
      refine PW.aload_n 1 0 dX12_pullsHull_31 rfl rfl rfl ?_
      refine PW.iload_n 4 3 dX12_pullsHull_32 rfl rfl ?_
      refine CW.puti dX12_pullsHull_33 fL_X12_305 rfl LA_193 rfl ?_
      obtain ⟨s6, es6, h⟩ := sbnd h
      refine PW.sbe es6 ?_
      clear es6
      refine PW.aload_n 1 0 dX12_pullsHull_36 rfl rfl rfl ?_
      refine PW.iload_n 3 2 dX12_pullsHull_37 rfl rfl ?_
      refine CW.puti dX12_pullsHull_38 fL_X12_302 rfl LA_193 rfl ?_
      obtain ⟨s7, es7, h⟩ := sbnd h
      refine PW.sbe es7 ?_
      clear es7
      refine PW.aload_n 1 0 dX12_pullsHull_41 rfl rfl rfl ?_
      refine PW.aload_n 1 0 dX12_pullsHull_42 rfl rfl rfl ?_
      refine CW.getr dX12_pullsHull_43 fL_X12_114 LA_193 (Or.inr ⟨_, rfl⟩) rfl ?_
      refine PW.iload_n 2 1 dX12_pullsHull_46 rfl rfl ?_
      by_cases c8 : inb x1 10
      rotate_left
      · have h := ifn h c8; cases h
      replace h := ifp h c8
      refine CW.iald dX12_pullsHull_47 LA_228 c8 ?_
      refine CW.puti dX12_pullsHull_48 fL_X12_308 rfl LA_193 rfl ?_
      obtain ⟨s9, es9, h⟩ := sbnd h
      refine PW.sbe es9 ?_
      clear es9
      refine PW.aload_n 1 0 dX12_pullsHull_51 rfl rfl rfl ?_
      refine PW.aload_n 1 0 dX12_pullsHull_52 rfl rfl rfl ?_
      refine CW.getr dX12_pullsHull_53 fL_X12_129 LA_193 (Or.inr ⟨_, rfl⟩) rfl ?_
      refine PW.iload 0 dX12_pullsHull_56 rfl ?_
      refine CW.iald dX12_pullsHull_58 LA_233 c4 ?_
      refine CW.puti dX12_pullsHull_59 fL_X12_314 rfl LA_193 rfl ?_
      obtain ⟨s10, es10, h⟩ := sbnd h
      refine PW.sbe es10 ?_
      clear es10
      refine PW.aload_n 1 0 dX12_pullsHull_62 rfl rfl rfl ?_
      refine PW.aload_n 1 0 dX12_pullsHull_63 rfl rfl rfl ?_
      refine CW.getr dX12_pullsHull_64 fL_X12_126 LA_193 (Or.inr ⟨_, rfl⟩) rfl ?_
      refine PW.iload 0 dX12_pullsHull_67 rfl ?_
      refine CW.iald dX12_pullsHull_69 LA_232 c4 ?_
      refine CW.puti dX12_pullsHull_70 fL_X12_317 rfl LA_193 rfl ?_
      obtain ⟨s11, es11, h⟩ := sbnd h
      refine PW.sbe es11 ?_
      clear es11
      refine PW.aload_n 1 0 dX12_pullsHull_73 rfl rfl rfl ?_
      refine PW.aload_n 1 0 dX12_pullsHull_74 rfl rfl rfl ?_
      refine CW.getr dX12_pullsHull_75 fL_X12_123 LA_193 (Or.inr ⟨_, rfl⟩) rfl ?_
      refine PW.iload 0 dX12_pullsHull_78 rfl ?_
      refine CW.iald dX12_pullsHull_80 LA_231 c4 ?_
      refine CW.puti dX12_pullsHull_81 fL_X12_320 rfl LA_193 rfl ?_
      obtain ⟨s12, es12, h⟩ := sbnd h
      refine PW.sbe es12 ?_
      clear es12
      refine PW.aload_n 1 0 dX12_pullsHull_84 rfl rfl rfl ?_
      refine PW.aload_n 1 0 dX12_pullsHull_85 rfl rfl rfl ?_
      refine CW.getr dX12_pullsHull_86 fL_X12_120 LA_193 (Or.inr ⟨_, rfl⟩) rfl ?_
      refine PW.iload 0 dX12_pullsHull_89 rfl ?_
      refine CW.iald dX12_pullsHull_91 LA_230 c4 ?_
      obtain ⟨r13, s14, q15, h⟩ := obnd h
      refine CW.callVv (ci := 12) (st := []) [.int (iG s12 230 (((8 : Int32) * x1) + x3).toNatClampNeg)] dX12_pullsHull_92 (p_X12_isPulled q15) MV_X12_isPulled mL_X12_370 (by decide) rfl LA_193 rfl rfl (Nat.le_of_ble_eq_true rfl) (by first | decide | omega) ?_
      refine PW.aload_n 1 0 dX12_pullsHull_95 rfl rfl rfl ?_
      refine CW.getr dX12_pullsHull_96 fL_X12_129 LA_193 (Or.inr ⟨_, rfl⟩) rfl ?_
      refine PW.iload 0 dX12_pullsHull_99 rfl ?_
      refine PW.aload_n 1 0 dX12_pullsHull_101 rfl rfl rfl ?_
      refine CW.geti dX12_pullsHull_102 fL_X12_314 LA_193 (Or.inl rfl) ?_
      refine CW.iast dX12_pullsHull_105 LA_233 c4 ?_
      obtain ⟨s16, es16, h⟩ := sbnd h
      refine PW.sbe es16 ?_
      clear es16
      refine PW.aload_n 1 0 dX12_pullsHull_106 rfl rfl rfl ?_
      refine CW.getr dX12_pullsHull_107 fL_X12_126 LA_193 (Or.inr ⟨_, rfl⟩) rfl ?_
      refine PW.iload 0 dX12_pullsHull_110 rfl ?_
      refine PW.aload_n 1 0 dX12_pullsHull_112 rfl rfl rfl ?_
      refine CW.geti dX12_pullsHull_113 fL_X12_317 LA_193 (Or.inl rfl) ?_
      refine CW.iast dX12_pullsHull_116 LA_232 c4 ?_
      obtain ⟨s17, es17, h⟩ := sbnd h
      refine PW.sbe es17 ?_
      clear es17
      refine PW.aload_n 1 0 dX12_pullsHull_117 rfl rfl rfl ?_
      refine CW.getr dX12_pullsHull_118 fL_X12_123 LA_193 (Or.inr ⟨_, rfl⟩) rfl ?_
      refine PW.iload 0 dX12_pullsHull_121 rfl ?_
      refine PW.aload_n 1 0 dX12_pullsHull_123 rfl rfl rfl ?_
      refine CW.geti dX12_pullsHull_124 fL_X12_320 LA_193 (Or.inl rfl) ?_
      refine CW.iast dX12_pullsHull_127 LA_231 c4 ?_
      obtain ⟨s18, es18, h⟩ := sbnd h
      refine PW.sbe es18 ?_
      clear es18
      refine PW.aload_n 1 0 dX12_pullsHull_128 rfl rfl rfl ?_
      obtain ⟨r19, s20, q21, h⟩ := obnd h
      refine CW.callVi (ci := 12) (st := []) [] dX12_pullsHull_129 (p_X12_runsNow q21) MV_X12_runsNow mL_X12_373 (by decide) rfl LA_193 rfl rfl (Nat.le_of_ble_eq_true rfl) (by first | decide | omega) ?_
      refine PW.if_eq (tgt := 152) dX12_pullsHull_132 (by decide) (fun c22 => ?_) (fun c22 => ?_)
      · replace h := ifp h c22
        exact PW.pick [1, 2, 3, 4] rfl (ok_j_X12_pullsHull_152 h hx)
      · replace h := ifn h c22
        refine PW.aload_n 1 0 dX12_pullsHull_135 rfl rfl rfl ?_
        refine CW.getr dX12_pullsHull_136 fL_X12_117 LA_193 (Or.inr ⟨_, rfl⟩) rfl ?_
        refine PW.iload_n 2 1 dX12_pullsHull_139 rfl rfl ?_
        refine CW.iald dX12_pullsHull_140 LA_229 c8 ?_
        refine PW.iconst (v := (-1)) dX12_pullsHull_141 (by decide) ?_
        refine PW.icmp_ne (tgt := 152) dX12_pullsHull_142 (by decide) (fun c23 => ?_) (fun c23 => ?_)
        · replace h := ifn h c23
          exact PW.pick [1, 2, 3, 4] rfl (ok_j_X12_pullsHull_152 h hx)
        · replace h := ifp h c23
          refine PW.aload_n 1 0 dX12_pullsHull_145 rfl rfl rfl ?_
          refine CW.getr dX12_pullsHull_146 fL_X12_117 LA_193 (Or.inr ⟨_, rfl⟩) rfl ?_
          refine PW.iload_n 2 1 dX12_pullsHull_149 rfl rfl ?_
          refine PW.iload_n 4 3 dX12_pullsHull_150 rfl rfl ?_
          refine CW.iast dX12_pullsHull_151 LA_229 c8 ?_
          obtain ⟨s24, es24, h⟩ := sbnd h
          refine PW.sbe es24 ?_
          clear es24
          exact PW.pick [1, 2, 3, 4] rfl (ok_j_X12_pullsHull_152 h hx)
    · replace h := ifp h c5
      refine PW.goto (tgt := 152) dX12_pullsHull_28 (by decide) ?_
      exact PW.pick [1, 2, 3, 4] rfl (ok_j_X12_pullsHull_152 h hx)
def w_X12_pullsHull_2 (N : Nat) (x1 : Int32) (x2 : Int32) (x3 : Int32) (s : cS) : Option (Unit × cS) := itr (fun (v : Int32 × cS) => b_X12_pullsHull_2 N x1 x2 v.1 v.2) N (x3, s)
theorem ok_w_X12_pullsHull_2 {g : pG} {l : Launch} {F : pF} {N : Nat} {x1 : Int32} {x2 : Int32} {x3 : Int32} {s : cS} {x : (Unit × cS)} (h : w_X12_pullsHull_2 N x1 x2 x3 s = some x) (hx : (fun q => F = pE g none (tS q.2) 0 0) x) : PW g l (pRoom 6 0 0) M_X12_pullsHull F 2 [(0, .ref 193), (1, .int x1), (2, .int x2), (3, .int x3)] [] (tS s) 0 0 :=
  okIter (P := (fun (v : Int32 × cS) => PW g l (pRoom 6 0 0) M_X12_pullsHull F 2 [(0, .ref 193), (1, .int x1), (2, .int x2), (3, .int v.1)] [] (tS v.2) 0 0)) (K := (fun q => F = pE g none (tS q.2) 0 0)) (fun v y hB hy => ok_b_X12_pullsHull_2 hB hy) N (x3, s) x h hx
def f_X12_pullsHull (N : Nat) (a0 : Int32) (a1 : Int32) (s : cS) : Option (Unit × cS) :=
  w_X12_pullsHull_2 N a0 a1 (0 : Int32) s
set_option maxRecDepth 20000 in
set_option maxHeartbeats 4000000 in
theorem p_X12_pullsHull {g : pG} {l : Launch} {N : Nat} {a0 : Int32} {a1 : Int32} {s : cS} {q : Unit × cS} (h : f_X12_pullsHull N a0 a1 s = some q) : PM g l 6 M_X12_pullsHull [.ref 193, .int a0, .int a1] (tS s) none (tS q.2) 0 0 := by
  refine PM.of (by decide +kernel) (Nat.le_of_ble_eq_true rfl) ?_
  show PW g l (pRoom 6 0 0) M_X12_pullsHull _ 0 [(0, .ref 193), (1, .int a0), (2, .int a1)] [] (tS s) 0 0
  unfold f_X12_pullsHull at h
  generalize hF : pE g none (tS q.2) 0 0 = F
  have hx := hF.symm
  refine PW.iconst (v := 0) dX12_pullsHull_0 (by decide) ?_
  refine PW.istore_n dX12_pullsHull_1 rfl (Nat.le_of_ble_eq_true rfl) rfl ?_
  exact PW.pick [1, 2, 3, 0] rfl (ok_w_X12_pullsHull_2 h hx)
/-! X12_flown -/
def b_X12_flown_56 (N : Nat) (x1 : Int32) (x2 : Int32) (x3 : Int32) (x4 : Int32) (s : cS) : Option ((Int32 × cS) ⊕ (Int32 × cS)) :=
  if x3 ≤ x4 then
    oR (
      some ((x4, s)))
  else
    if inb x1 10 then
    if (iG s 229 x1.toNatClampNeg) = (-1 : Int32) then
      ob (f_X12_pullsHull N x1 x2 s) fun r13 s14 =>
      some (.inl ((x4 + (1 : Int32)), s14))
    else
      oR (
        some ((x4, s)))
    else none
set_option maxRecDepth 20000 in
set_option maxHeartbeats 4000000 in
theorem ok_b_X12_flown_56 {g : pG} {l : Launch} {F : pF} {N : Nat} {x1 : Int32} {x2 : Int32} {x3 : Int32} {x4 : Int32} {s : cS} {x : ((Int32 × cS) ⊕ (Int32 × cS))} (h : b_X12_flown_56 N x1 x2 x3 x4 s = some x) (hx : (KL (fun (v : Int32 × cS) => PW g l (pRoom 7 0 0) M_X12_flown F 56 [(0, .ref 193), (1, .int x1), (2, .int x2), (3, .int x3), (4, .int v.1)] [] (tS v.2) 0 0) (fun q => F = pE g (some (.int q.1)) (tS q.2) 0 0)) x) : PW g l (pRoom 7 0 0) M_X12_flown F 56 [(0, .ref 193), (1, .int x1), (2, .int x2), (3, .int x3), (4, .int x4)] [] (tS s) 0 0 := by
  unfold b_X12_flown_56 at h
  refine PW.iload 4 dX12_flown_56 rfl ?_
  refine PW.iload_n 3 3 dX12_flown_58 rfl rfl ?_
  refine PW.icmp_ge (tgt := 84) dX12_flown_59 (by decide) (fun c10 => ?_) (fun c10 => ?_)
  · replace h := ifp h c10
    obtain ⟨xo, hy, hxo⟩ := oRb h
    clear h
    subst hxo
    replace hx := KLr hx
    have h := hy
    clear hy
    refine PW.iload 4 dX12_flown_84 rfl ?_
    cases h
    subst hx
    exact PW.iret (v := x4) dX12_flown_86 rfl rfl (Nat.le_refl 0) (Nat.le_refl 0)
  · replace h := ifn h c10
    refine PW.aload_n 0 0 dX12_flown_62 rfl rfl rfl ?_
    refine CW.getr dX12_flown_63 fL_X12_117 LA_193 (Or.inr ⟨_, rfl⟩) rfl ?_
    refine PW.iload_n 1 1 dX12_flown_66 rfl rfl ?_
    by_cases c11 : inb x1 10
    rotate_left
    · have h := ifn h c11; cases h
    replace h := ifp h c11
    refine CW.iald dX12_flown_67 LA_229 c11 ?_
    refine PW.iconst (v := (-1)) dX12_flown_68 (by decide) ?_
    refine PW.icmp_ne (tgt := 84) dX12_flown_69 (by decide) (fun c12 => ?_) (fun c12 => ?_)
    · replace h := ifn h c12
      obtain ⟨xo, hy, hxo⟩ := oRb h
      clear h
      subst hxo
      replace hx := KLr hx
      have h := hy
      clear hy
      refine PW.iload 4 dX12_flown_84 rfl ?_
      cases h
      subst hx
      exact PW.iret (v := x4) dX12_flown_86 rfl rfl (Nat.le_refl 0) (Nat.le_refl 0)
    · replace h := ifp h c12
      refine PW.aload_n 0 0 dX12_flown_72 rfl rfl rfl ?_
      refine PW.iload_n 1 1 dX12_flown_73 rfl rfl ?_
      refine PW.iload_n 2 2 dX12_flown_74 rfl rfl ?_
      obtain ⟨r13, s14, q15, h⟩ := obnd h
      refine CW.callVv (ci := 12) (st := []) [.int x1, .int x2] dX12_flown_75 (p_X12_pullsHull q15) MV_X12_pullsHull mL_X12_440 (by decide) rfl LA_193 rfl rfl (Nat.le_of_ble_eq_true rfl) (by first | decide | omega) ?_
      refine PW.iinc (v := (x4 + (1 : Int32))) 4 dX12_flown_78 rfl (by first | rfl | decide) (Nat.le_of_ble_eq_true rfl) rfl ?_
      refine PW.goto (tgt := 56) dX12_flown_81 (by decide) ?_
      cases h
      exact PW.pick [1, 2, 3, 4, 0] rfl hx
def w_X12_flown_56 (N : Nat) (x1 : Int32) (x2 : Int32) (x3 : Int32) (x4 : Int32) (s : cS) : Option (Int32 × cS) := itr (fun (v : Int32 × cS) => b_X12_flown_56 N x1 x2 x3 v.1 v.2) N (x4, s)
theorem ok_w_X12_flown_56 {g : pG} {l : Launch} {F : pF} {N : Nat} {x1 : Int32} {x2 : Int32} {x3 : Int32} {x4 : Int32} {s : cS} {x : (Int32 × cS)} (h : w_X12_flown_56 N x1 x2 x3 x4 s = some x) (hx : (fun q => F = pE g (some (.int q.1)) (tS q.2) 0 0) x) : PW g l (pRoom 7 0 0) M_X12_flown F 56 [(0, .ref 193), (1, .int x1), (2, .int x2), (3, .int x3), (4, .int x4)] [] (tS s) 0 0 :=
  okIter (P := (fun (v : Int32 × cS) => PW g l (pRoom 7 0 0) M_X12_flown F 56 [(0, .ref 193), (1, .int x1), (2, .int x2), (3, .int x3), (4, .int v.1)] [] (tS v.2) 0 0)) (K := (fun q => F = pE g (some (.int q.1)) (tS q.2) 0 0)) (fun v y hB hy => ok_b_X12_flown_56 hB hy) N (x4, s) x h hx
def f_X12_flown (N : Nat) (a0 : Int32) (a1 : Int32) (a2 : Int32) (s : cS) : Option (Int32 × cS) :=
  if (f_X12_isHull a0 s) = 0 then
    some (((-1 : Int32), s))
  else
    if inb a0 10 then
    if (iG s 229 a0.toNatClampNeg) = (-1 : Int32) then
      if (f_X12_isPressure a1 s) = 0 then
        some (((-1 : Int32), s))
      else
        if (lIn a2.toInt64 (1 : Int64) (2000 : Int64)) = 0 then
          some (((-1 : Int32), s))
        else
          if ((iG s 228 a0.toNatClampNeg) + a2) ≤ (100000 : Int32) then
            w_X12_flown_56 N a0 a1 a2 (0 : Int32) s
          else
            some (((-1 : Int32), s))
    else
      some (((-1 : Int32), s))
    else none
set_option maxRecDepth 20000 in
set_option maxHeartbeats 4000000 in
theorem p_X12_flown {g : pG} {l : Launch} {N : Nat} {a0 : Int32} {a1 : Int32} {a2 : Int32} {s : cS} {q : Int32 × cS} (h : f_X12_flown N a0 a1 a2 s = some q) : PM g l 7 M_X12_flown [.ref 193, .int a0, .int a1, .int a2] (tS s) (some (.int q.1)) (tS q.2) 0 0 := by
  refine PM.of (by decide +kernel) (Nat.le_of_ble_eq_true rfl) ?_
  show PW g l (pRoom 7 0 0) M_X12_flown _ 0 [(0, .ref 193), (1, .int a0), (2, .int a1), (3, .int a2)] [] (tS s) 0 0
  unfold f_X12_flown at h
  generalize hF : pE g (some (.int q.1)) (tS q.2) 0 0 = F
  have hx := hF.symm
  refine PW.aload_n 0 0 dX12_flown_0 rfl rfl rfl ?_
  refine PW.iload_n 1 1 dX12_flown_1 rfl rfl ?_
  refine CW.callVi (ci := 12) (st := []) [.int a0] dX12_flown_2 (p_X12_isHull rfl) MV_X12_isHull mL_X12_435 (by decide) rfl LA_193 rfl rfl (Nat.le_of_ble_eq_true rfl) (by first | decide | omega) ?_
  refine PW.if_eq (tgt := 51) dX12_flown_5 (by decide) (fun c2 => ?_) (fun c2 => ?_)
  · replace h := ifp h c2
    refine PW.iconst (v := (-1)) dX12_flown_51 (by decide) ?_
    cases h
    subst hx
    exact PW.iret (v := (-1 : Int32)) dX12_flown_52 rfl rfl (Nat.le_refl 0) (Nat.le_refl 0)
  · replace h := ifn h c2
    refine PW.aload_n 0 0 dX12_flown_8 rfl rfl rfl ?_
    refine CW.getr dX12_flown_9 fL_X12_117 LA_193 (Or.inr ⟨_, rfl⟩) rfl ?_
    refine PW.iload_n 1 1 dX12_flown_12 rfl rfl ?_
    by_cases c3 : inb a0 10
    rotate_left
    · have h := ifn h c3; cases h
    replace h := ifp h c3
    refine CW.iald dX12_flown_13 LA_229 c3 ?_
    refine PW.iconst (v := (-1)) dX12_flown_14 (by decide) ?_
    refine PW.icmp_ne (tgt := 51) dX12_flown_15 (by decide) (fun c4 => ?_) (fun c4 => ?_)
    · replace h := ifn h c4
      refine PW.iconst (v := (-1)) dX12_flown_51 (by decide) ?_
      cases h
      subst hx
      exact PW.iret (v := (-1 : Int32)) dX12_flown_52 rfl rfl (Nat.le_refl 0) (Nat.le_refl 0)
    · replace h := ifp h c4
      refine PW.iload_n 2 2 dX12_flown_18 rfl rfl ?_
      refine CW.callSi (st := []) [.int a1] dX12_flown_19 (p_X12_isPressure rfl) MS_X12_isPressure mL_X12_345 rfl rfl (Nat.le_of_ble_eq_true rfl) (by first | decide | omega) ?_
      refine PW.if_eq (tgt := 51) dX12_flown_22 (by decide) (fun c6 => ?_) (fun c6 => ?_)
      · replace h := ifp h c6
        refine PW.iconst (v := (-1)) dX12_flown_51 (by decide) ?_
        cases h
        subst hx
        exact PW.iret (v := (-1 : Int32)) dX12_flown_52 rfl rfl (Nat.le_refl 0) (Nat.le_refl 0)
      · replace h := ifn h c6
        refine PW.iload_n 3 3 dX12_flown_25 rfl rfl ?_
        refine PW.i2l dX12_flown_26 ?_
        refine PW.lconst (v := 1) dX12_flown_27 (by decide) ?_
        refine PW.ldc2_w dX12_flown_28 kL_X12_438 ?_
        refine CW.callSi (st := []) [.long a2.toInt64, .long (1 : Int64), .long (2000 : Int64)] dX12_flown_31 (ps_isIn rfl) MS_X12_isIn mL_X12_164 rfl rfl (Nat.le_of_ble_eq_true rfl) (by first | decide | omega) ?_
        refine PW.if_eq (tgt := 51) dX12_flown_34 (by decide) (fun c8 => ?_) (fun c8 => ?_)
        · replace h := ifp h c8
          refine PW.iconst (v := (-1)) dX12_flown_51 (by decide) ?_
          cases h
          subst hx
          exact PW.iret (v := (-1 : Int32)) dX12_flown_52 rfl rfl (Nat.le_refl 0) (Nat.le_refl 0)
        · replace h := ifn h c8
          refine PW.aload_n 0 0 dX12_flown_37 rfl rfl rfl ?_
          refine CW.getr dX12_flown_38 fL_X12_114 LA_193 (Or.inr ⟨_, rfl⟩) rfl ?_
          refine PW.iload_n 1 1 dX12_flown_41 rfl rfl ?_
          refine CW.iald dX12_flown_42 LA_228 c3 ?_
          refine PW.iload_n 3 3 dX12_flown_43 rfl rfl ?_
          refine PW.iadd dX12_flown_44 ?_
          refine PW.ldc_w dX12_flown_45 kL_X12_341 ?_
          refine PW.icmp_le (tgt := 53) dX12_flown_48 (by decide) (fun c9 => ?_) (fun c9 => ?_)
          · replace h := ifp h c9
            refine PW.iconst (v := 0) dX12_flown_53 (by decide) ?_
            refine PW.istore dX12_flown_54 (Nat.le_of_ble_eq_true rfl) rfl ?_
            exact PW.pick [1, 2, 3, 4, 0] rfl (ok_w_X12_flown_56 h hx)
          · replace h := ifn h c9
            refine PW.iconst (v := (-1)) dX12_flown_51 (by decide) ?_
            cases h
            subst hx
            exact PW.iret (v := (-1 : Int32)) dX12_flown_52 rfl rfl (Nat.le_refl 0) (Nat.le_refl 0)
/-! X12_hullIs -/
def f_X12_hullIs (a0 : Int32) (a1 : Int32) (s : cS) : Option (Int32 × cS) :=
  if (f_X12_isHull a0 s) = 0 then
    some (((-1 : Int32), s))
  else
    if a1 = 0 then
      if inb a0 10 then
      some (((iG s 228 a0.toNatClampNeg), s))
      else none
    else
      if a1 = (1 : Int32) then
        if inb a0 10 then
        some (((iG s 229 a0.toNatClampNeg), s))
        else none
      else
        some (((-1 : Int32), s))
set_option maxRecDepth 20000 in
set_option maxHeartbeats 4000000 in
theorem p_X12_hullIs {g : pG} {l : Launch} {a0 : Int32} {a1 : Int32} {s : cS} {q : Int32 × cS} (h : f_X12_hullIs a0 a1 s = some q) : PM g l 3 M_X12_hullIs [.ref 193, .int a0, .int a1] (tS s) (some (.int q.1)) (tS q.2) 0 0 := by
  refine PM.of (by decide +kernel) (Nat.le_of_ble_eq_true rfl) ?_
  show PW g l (pRoom 3 0 0) M_X12_hullIs _ 0 [(0, .ref 193), (1, .int a0), (2, .int a1)] [] (tS s) 0 0
  unfold f_X12_hullIs at h
  generalize hF : pE g (some (.int q.1)) (tS q.2) 0 0 = F
  have hx := hF.symm
  refine PW.aload_n 0 0 dX12_hullIs_0 rfl rfl rfl ?_
  refine PW.iload_n 1 1 dX12_hullIs_1 rfl rfl ?_
  refine CW.callVi (ci := 12) (st := []) [.int a0] dX12_hullIs_2 (p_X12_isHull rfl) MV_X12_isHull mL_X12_435 (by decide) rfl LA_193 rfl rfl (Nat.le_of_ble_eq_true rfl) (by first | decide | omega) ?_
  refine PW.if_ne (tgt := 12) dX12_hullIs_5 (by decide) (fun c2 => ?_) (fun c2 => ?_)
  · replace h := ifn h c2
    refine PW.iload_n 2 2 dX12_hullIs_12 rfl rfl ?_
    refine PW.if_ne (tgt := 25) dX12_hullIs_13 (by decide) (fun c3 => ?_) (fun c3 => ?_)
    · replace h := ifn h c3
      refine PW.iload_n 2 2 dX12_hullIs_25 rfl rfl ?_
      refine PW.iconst (v := 1) dX12_hullIs_26 (by decide) ?_
      refine PW.icmp_ne (tgt := 39) dX12_hullIs_27 (by decide) (fun c4 => ?_) (fun c4 => ?_)
      · replace h := ifn h c4
        refine PW.iconst (v := (-1)) dX12_hullIs_39 (by decide) ?_
        cases h
        subst hx
        exact PW.iret (v := (-1 : Int32)) dX12_hullIs_40 rfl rfl (Nat.le_refl 0) (Nat.le_refl 0)
      · replace h := ifp h c4
        refine PW.aload_n 0 0 dX12_hullIs_30 rfl rfl rfl ?_
        refine CW.getr dX12_hullIs_31 fL_X12_117 LA_193 (Or.inr ⟨_, rfl⟩) rfl ?_
        refine PW.iload_n 1 1 dX12_hullIs_34 rfl rfl ?_
        by_cases c5 : inb a0 10
        rotate_left
        · have h := ifn h c5; cases h
        replace h := ifp h c5
        refine CW.iald dX12_hullIs_35 LA_229 c5 ?_
        refine PW.goto (tgt := 40) dX12_hullIs_36 (by decide) ?_
        cases h
        subst hx
        exact PW.iret (v := (iG s 229 a0.toNatClampNeg)) dX12_hullIs_40 rfl rfl (Nat.le_refl 0) (Nat.le_refl 0)
    · replace h := ifp h c3
      refine PW.aload_n 0 0 dX12_hullIs_16 rfl rfl rfl ?_
      refine CW.getr dX12_hullIs_17 fL_X12_114 LA_193 (Or.inr ⟨_, rfl⟩) rfl ?_
      refine PW.iload_n 1 1 dX12_hullIs_20 rfl rfl ?_
      by_cases c6 : inb a0 10
      rotate_left
      · have h := ifn h c6; cases h
      replace h := ifp h c6
      refine CW.iald dX12_hullIs_21 LA_228 c6 ?_
      refine PW.goto (tgt := 40) dX12_hullIs_22 (by decide) ?_
      cases h
      subst hx
      exact PW.iret (v := (iG s 228 a0.toNatClampNeg)) dX12_hullIs_40 rfl rfl (Nat.le_refl 0) (Nat.le_refl 0)
  · replace h := ifp h c2
    refine PW.iconst (v := (-1)) dX12_hullIs_8 (by decide) ?_
    refine PW.goto (tgt := 40) dX12_hullIs_9 (by decide) ?_
    cases h
    subst hx
    exact PW.iret (v := (-1 : Int32)) dX12_hullIs_40 rfl rfl (Nat.le_refl 0) (Nat.le_refl 0)
/-! X12_cornerIs -/
def f_X12_cornerIs (a0 : Int32) (a1 : Int32) (a2 : Int32) (s : cS) : Option (Int32 × cS) :=
  if (f_X12_isHull a0 s) = 0 then
    some (((-1 : Int32), s))
  else
    if (f_X12_isCorner a1 s) = 0 then
      some (((-1 : Int32), s))
    else
      if a2 = 0 then
        if inb (((8 : Int32) * a0) + a1) 80 then
        some (((iG s 231 (((8 : Int32) * a0) + a1).toNatClampNeg), s))
        else none
      else
        if a2 = (1 : Int32) then
          if inb (((8 : Int32) * a0) + a1) 80 then
          some (((iG s 232 (((8 : Int32) * a0) + a1).toNatClampNeg), s))
          else none
        else
          if a2 = (2 : Int32) then
            if inb (((8 : Int32) * a0) + a1) 80 then
            some (((iG s 233 (((8 : Int32) * a0) + a1).toNatClampNeg), s))
            else none
          else
            some (((-1 : Int32), s))
set_option maxRecDepth 20000 in
set_option maxHeartbeats 4000000 in
theorem p_X12_cornerIs {g : pG} {l : Launch} {a0 : Int32} {a1 : Int32} {a2 : Int32} {s : cS} {q : Int32 × cS} (h : f_X12_cornerIs a0 a1 a2 s = some q) : PM g l 3 M_X12_cornerIs [.ref 193, .int a0, .int a1, .int a2] (tS s) (some (.int q.1)) (tS q.2) 0 0 := by
  refine PM.of (by decide +kernel) (Nat.le_of_ble_eq_true rfl) ?_
  show PW g l (pRoom 3 0 0) M_X12_cornerIs _ 0 [(0, .ref 193), (1, .int a0), (2, .int a1), (3, .int a2)] [] (tS s) 0 0
  unfold f_X12_cornerIs at h
  generalize hF : pE g (some (.int q.1)) (tS q.2) 0 0 = F
  have hx := hF.symm
  refine PW.aload_n 0 0 dX12_cornerIs_0 rfl rfl rfl ?_
  refine PW.iload_n 1 1 dX12_cornerIs_1 rfl rfl ?_
  refine CW.callVi (ci := 12) (st := []) [.int a0] dX12_cornerIs_2 (p_X12_isHull rfl) MV_X12_isHull mL_X12_435 (by decide) rfl LA_193 rfl rfl (Nat.le_of_ble_eq_true rfl) (by first | decide | omega) ?_
  refine PW.if_eq (tgt := 16) dX12_cornerIs_5 (by decide) (fun c2 => ?_) (fun c2 => ?_)
  · replace h := ifp h c2
    refine PW.iconst (v := (-1)) dX12_cornerIs_16 (by decide) ?_
    cases h
    subst hx
    exact PW.iret (v := (-1 : Int32)) dX12_cornerIs_17 rfl rfl (Nat.le_refl 0) (Nat.le_refl 0)
  · replace h := ifn h c2
    refine PW.aload_n 0 0 dX12_cornerIs_8 rfl rfl rfl ?_
    refine PW.iload_n 2 2 dX12_cornerIs_9 rfl rfl ?_
    refine CW.callVi (ci := 12) (st := []) [.int a1] dX12_cornerIs_10 (p_X12_isCorner rfl) MV_X12_isCorner mL_X12_177 (by decide) rfl LA_193 rfl rfl (Nat.le_of_ble_eq_true rfl) (by first | decide | omega) ?_
    refine PW.if_ne (tgt := 18) dX12_cornerIs_13 (by decide) (fun c4 => ?_) (fun c4 => ?_)
    · replace h := ifn h c4
      refine PW.bipush (v := 8) dX12_cornerIs_18 (by decide) ?_
      refine PW.iload_n 1 1 dX12_cornerIs_20 rfl rfl ?_
      refine PW.imul dX12_cornerIs_21 ?_
      refine PW.iload_n 2 2 dX12_cornerIs_22 rfl rfl ?_
      refine PW.iadd dX12_cornerIs_23 ?_
      refine PW.istore dX12_cornerIs_24 (Nat.le_of_ble_eq_true rfl) rfl ?_
      refine PW.iload_n 4 3 dX12_cornerIs_26 rfl rfl ?_
      refine PW.if_ne (tgt := 40) dX12_cornerIs_27 (by decide) (fun c5 => ?_) (fun c5 => ?_)
      · replace h := ifn h c5
        refine PW.iload_n 4 3 dX12_cornerIs_40 rfl rfl ?_
        refine PW.iconst (v := 1) dX12_cornerIs_41 (by decide) ?_
        refine PW.icmp_ne (tgt := 55) dX12_cornerIs_42 (by decide) (fun c6 => ?_) (fun c6 => ?_)
        · replace h := ifn h c6
          refine PW.iload_n 4 3 dX12_cornerIs_55 rfl rfl ?_
          refine PW.iconst (v := 2) dX12_cornerIs_56 (by decide) ?_
          refine PW.icmp_ne (tgt := 70) dX12_cornerIs_57 (by decide) (fun c7 => ?_) (fun c7 => ?_)
          · replace h := ifn h c7
            refine PW.iconst (v := (-1)) dX12_cornerIs_70 (by decide) ?_
            cases h
            subst hx
            exact PW.iret (v := (-1 : Int32)) dX12_cornerIs_71 rfl rfl (Nat.le_refl 0) (Nat.le_refl 0)
          · replace h := ifp h c7
            refine PW.aload_n 1 0 dX12_cornerIs_60 rfl rfl rfl ?_
            refine CW.getr dX12_cornerIs_61 fL_X12_129 LA_193 (Or.inr ⟨_, rfl⟩) rfl ?_
            refine PW.iload 0 dX12_cornerIs_64 rfl ?_
            by_cases c8 : inb (((8 : Int32) * a0) + a1) 80
            rotate_left
            · have h := ifn h c8; cases h
            replace h := ifp h c8
            refine CW.iald dX12_cornerIs_66 LA_233 c8 ?_
            refine PW.goto (tgt := 71) dX12_cornerIs_67 (by decide) ?_
            cases h
            subst hx
            exact PW.iret (v := (iG s 233 (((8 : Int32) * a0) + a1).toNatClampNeg)) dX12_cornerIs_71 rfl rfl (Nat.le_refl 0) (Nat.le_refl 0)
        · replace h := ifp h c6
          refine PW.aload_n 1 0 dX12_cornerIs_45 rfl rfl rfl ?_
          refine CW.getr dX12_cornerIs_46 fL_X12_126 LA_193 (Or.inr ⟨_, rfl⟩) rfl ?_
          refine PW.iload 0 dX12_cornerIs_49 rfl ?_
          by_cases c9 : inb (((8 : Int32) * a0) + a1) 80
          rotate_left
          · have h := ifn h c9; cases h
          replace h := ifp h c9
          refine CW.iald dX12_cornerIs_51 LA_232 c9 ?_
          refine PW.goto (tgt := 71) dX12_cornerIs_52 (by decide) ?_
          cases h
          subst hx
          exact PW.iret (v := (iG s 232 (((8 : Int32) * a0) + a1).toNatClampNeg)) dX12_cornerIs_71 rfl rfl (Nat.le_refl 0) (Nat.le_refl 0)
      · replace h := ifp h c5
        refine PW.aload_n 1 0 dX12_cornerIs_30 rfl rfl rfl ?_
        refine CW.getr dX12_cornerIs_31 fL_X12_123 LA_193 (Or.inr ⟨_, rfl⟩) rfl ?_
        refine PW.iload 0 dX12_cornerIs_34 rfl ?_
        by_cases c10 : inb (((8 : Int32) * a0) + a1) 80
        rotate_left
        · have h := ifn h c10; cases h
        replace h := ifp h c10
        refine CW.iald dX12_cornerIs_36 LA_231 c10 ?_
        refine PW.goto (tgt := 71) dX12_cornerIs_37 (by decide) ?_
        cases h
        subst hx
        exact PW.iret (v := (iG s 231 (((8 : Int32) * a0) + a1).toNatClampNeg)) dX12_cornerIs_71 rfl rfl (Nat.le_refl 0) (Nat.le_refl 0)
    · replace h := ifp h c4
      refine PW.iconst (v := (-1)) dX12_cornerIs_16 (by decide) ?_
      cases h
      subst hx
      exact PW.iret (v := (-1 : Int32)) dX12_cornerIs_17 rfl rfl (Nat.le_refl 0) (Nat.le_refl 0)
/-! X12_isStory -/
def f_X12_isStory (a0 : Int32) (s : cS) : Int32 :=
  (lIn a0.toInt64 (0 : Int64) (((iG s 193 5) - (1 : Int32)).toInt64))
set_option maxRecDepth 20000 in
set_option maxHeartbeats 4000000 in
theorem p_X12_isStory {g : pG} {l : Launch} {a0 : Int32} {s : cS} {q : Int32} (h : f_X12_isStory a0 s = q) : PM g l 2 M_X12_isStory [.ref 193, .int a0] (tS s) (some (.int q)) (tS s) 0 0 := by
  refine PM.of (by decide +kernel) (Nat.le_of_ble_eq_true rfl) ?_
  show PW g l (pRoom 2 0 0) M_X12_isStory _ 0 [(0, .ref 193), (1, .int a0)] [] (tS s) 0 0
  unfold f_X12_isStory at h
  generalize hF : pE g (some (.int q)) (tS s) 0 0 = F
  have hx := hF.symm
  refine PW.iload_n 1 1 dX12_isStory_0 rfl rfl ?_
  refine PW.i2l dX12_isStory_1 ?_
  refine PW.lconst (v := 0) dX12_isStory_2 (by decide) ?_
  refine PW.aload_n 0 0 dX12_isStory_3 rfl rfl rfl ?_
  refine CW.geti dX12_isStory_4 fL_X12_443 LA_193 (Or.inl rfl) ?_
  refine PW.iconst (v := 1) dX12_isStory_7 (by decide) ?_
  refine PW.isub dX12_isStory_8 ?_
  refine PW.i2l dX12_isStory_9 ?_
  refine CW.callSi (st := []) [.long a0.toInt64, .long (0 : Int64), .long ((iG s 193 5) - (1 : Int32)).toInt64] dX12_isStory_10 (ps_isIn rfl) MS_X12_isIn mL_X12_164 rfl rfl (Nat.le_of_ble_eq_true rfl) (by first | decide | omega) ?_
  cases h
  subst hx
  exact PW.iret (v := (lIn a0.toInt64 (0 : Int64) (((iG s 193 5) - (1 : Int32)).toInt64))) dX12_isStory_13 rfl (narZ (lIn_bool _ _ _)) (Nat.le_refl 0) (Nat.le_refl 0)
theorem f_X12_isStory_bool {a0 : Int32} {s : cS} : f_X12_isStory a0 s = 0 ∨ f_X12_isStory a0 s = 1 := by
  unfold f_X12_isStory
  repeat' split
  all_goals first | exact Or.inl rfl | exact Or.inr rfl | exact lIn_bool _ _ _
/-! X12_isFind -/
def f_X12_isFind (a0 : Int32) (s : cS) : Int32 :=
  (lIn a0.toInt64 (0 : Int64) (((iG s 193 6) - (1 : Int32)).toInt64))
set_option maxRecDepth 20000 in
set_option maxHeartbeats 4000000 in
theorem p_X12_isFind {g : pG} {l : Launch} {a0 : Int32} {s : cS} {q : Int32} (h : f_X12_isFind a0 s = q) : PM g l 2 M_X12_isFind [.ref 193, .int a0] (tS s) (some (.int q)) (tS s) 0 0 := by
  refine PM.of (by decide +kernel) (Nat.le_of_ble_eq_true rfl) ?_
  show PW g l (pRoom 2 0 0) M_X12_isFind _ 0 [(0, .ref 193), (1, .int a0)] [] (tS s) 0 0
  unfold f_X12_isFind at h
  generalize hF : pE g (some (.int q)) (tS s) 0 0 = F
  have hx := hF.symm
  refine PW.iload_n 1 1 dX12_isFind_0 rfl rfl ?_
  refine PW.i2l dX12_isFind_1 ?_
  refine PW.lconst (v := 0) dX12_isFind_2 (by decide) ?_
  refine PW.aload_n 0 0 dX12_isFind_3 rfl rfl rfl ?_
  refine CW.geti dX12_isFind_4 fL_X12_446 LA_193 (Or.inl rfl) ?_
  refine PW.iconst (v := 1) dX12_isFind_7 (by decide) ?_
  refine PW.isub dX12_isFind_8 ?_
  refine PW.i2l dX12_isFind_9 ?_
  refine CW.callSi (st := []) [.long a0.toInt64, .long (0 : Int64), .long ((iG s 193 6) - (1 : Int32)).toInt64] dX12_isFind_10 (ps_isIn rfl) MS_X12_isIn mL_X12_164 rfl rfl (Nat.le_of_ble_eq_true rfl) (by first | decide | omega) ?_
  cases h
  subst hx
  exact PW.iret (v := (lIn a0.toInt64 (0 : Int64) (((iG s 193 6) - (1 : Int32)).toInt64))) dX12_isFind_13 rfl (narZ (lIn_bool _ _ _)) (Nat.le_refl 0) (Nat.le_refl 0)
theorem f_X12_isFind_bool {a0 : Int32} {s : cS} : f_X12_isFind a0 s = 0 ∨ f_X12_isFind a0 s = 1 := by
  unfold f_X12_isFind
  repeat' split
  all_goals first | exact Or.inl rfl | exact Or.inr rfl | exact lIn_bool _ _ _
/-! X12_story -/
def f_X12_story (a0 : Int32) (s : cS) : Option (Int32 × cS) :=
  if (iG s 193 5) = (6 : Int32) then
    some (((-1 : Int32), s))
  else
    if (lIn a0.toInt64 (1 : Int64) (100 : Int64)) = 0 then
      some (((-1 : Int32), s))
    else
      if inb (iG s 193 5) 6 then
      sb (iS s 234 (iG s 193 5).toNatClampNeg a0) fun s5 =>
      sb (iS s5 193 5 ((iG s5 193 5) + (1 : Int32))) fun s6 =>
      some ((((iG s6 193 5) - (1 : Int32)), s6))
      else none
set_option maxRecDepth 20000 in
set_option maxHeartbeats 4000000 in
theorem p_X12_story {g : pG} {l : Launch} {a0 : Int32} {s : cS} {q : Int32 × cS} (h : f_X12_story a0 s = some q) : PM g l 2 M_X12_story [.ref 193, .int a0] (tS s) (some (.int q.1)) (tS q.2) 0 0 := by
  refine PM.of (by decide +kernel) (Nat.le_of_ble_eq_true rfl) ?_
  show PW g l (pRoom 2 0 0) M_X12_story _ 0 [(0, .ref 193), (1, .int a0)] [] (tS s) 0 0
  unfold f_X12_story at h
  generalize hF : pE g (some (.int q.1)) (tS q.2) 0 0 = F
  have hx := hF.symm
  refine PW.aload_n 0 0 dX12_story_0 rfl rfl rfl ?_
  refine CW.geti dX12_story_1 fL_X12_443 LA_193 (Or.inl rfl) ?_
  refine PW.bipush (v := 6) dX12_story_4 (by decide) ?_
  refine PW.icmp_eq (tgt := 21) dX12_story_6 (by decide) (fun c1 => ?_) (fun c1 => ?_)
  · replace h := ifp h c1
    refine PW.iconst (v := (-1)) dX12_story_21 (by decide) ?_
    cases h
    subst hx
    exact PW.iret (v := (-1 : Int32)) dX12_story_22 rfl rfl (Nat.le_refl 0) (Nat.le_refl 0)
  · replace h := ifn h c1
    refine PW.iload_n 1 1 dX12_story_9 rfl rfl ?_
    refine PW.i2l dX12_story_10 ?_
    refine PW.lconst (v := 1) dX12_story_11 (by decide) ?_
    refine PW.ldc2_w dX12_story_12 kL_X12_449 ?_
    refine CW.callSi (st := []) [.long a0.toInt64, .long (1 : Int64), .long (100 : Int64)] dX12_story_15 (ps_isIn rfl) MS_X12_isIn mL_X12_164 rfl rfl (Nat.le_of_ble_eq_true rfl) (by first | decide | omega) ?_
    refine PW.if_ne (tgt := 23) dX12_story_18 (by decide) (fun c3 => ?_) (fun c3 => ?_)
    · replace h := ifn h c3
      refine PW.aload_n 0 0 dX12_story_23 rfl rfl rfl ?_
      refine CW.getr dX12_story_24 fL_X12_132 LA_193 (Or.inr ⟨_, rfl⟩) rfl ?_
      refine PW.aload_n 0 0 dX12_story_27 rfl rfl rfl ?_
      refine CW.geti dX12_story_28 fL_X12_443 LA_193 (Or.inl rfl) ?_
      refine PW.iload_n 1 1 dX12_story_31 rfl rfl ?_
      by_cases c4 : inb (iG s 193 5) 6
      rotate_left
      · have h := ifn h c4; cases h
      replace h := ifp h c4
      refine CW.iast dX12_story_32 LA_234 c4 ?_
      obtain ⟨s5, es5, h⟩ := sbnd h
      refine PW.sbe es5 ?_
      clear es5
      refine PW.aload_n 0 0 dX12_story_33 rfl rfl rfl ?_
      refine PW.dup dX12_story_34 rfl ?_
      refine CW.geti dX12_story_35 fL_X12_443 LA_193 (Or.inl rfl) ?_
      refine PW.iconst (v := 1) dX12_story_38 (by decide) ?_
      refine PW.iadd dX12_story_39 ?_
      refine CW.puti dX12_story_40 fL_X12_443 rfl LA_193 rfl ?_
      obtain ⟨s6, es6, h⟩ := sbnd h
      refine PW.sbe es6 ?_
      clear es6
      refine PW.aload_n 0 0 dX12_story_43 rfl rfl rfl ?_
      refine CW.geti dX12_story_44 fL_X12_443 LA_193 (Or.inl rfl) ?_
      refine PW.iconst (v := 1) dX12_story_47 (by decide) ?_
      refine PW.isub dX12_story_48 ?_
      cases h
      subst hx
      exact PW.iret (v := ((iG s6 193 5) - (1 : Int32))) dX12_story_49 rfl rfl (Nat.le_refl 0) (Nat.le_refl 0)
    · replace h := ifp h c3
      refine PW.iconst (v := (-1)) dX12_story_21 (by decide) ?_
      cases h
      subst hx
      exact PW.iret (v := (-1 : Int32)) dX12_story_22 rfl rfl (Nat.le_refl 0) (Nat.le_refl 0)
/-! X12_find -/
def f_X12_find (s : cS) : (Int32 × cS) :=
  if (iG s 193 6) = (10 : Int32) then
    ((-1 : Int32), s)
  else
    sb (iS s 193 6 ((iG s 193 6) + (1 : Int32))) fun s2 =>
    (((iG s2 193 6) - (1 : Int32)), s2)
set_option maxRecDepth 20000 in
set_option maxHeartbeats 4000000 in
theorem p_X12_find {g : pG} {l : Launch} {s : cS} {q : Int32 × cS} (h : f_X12_find s = q) : PM g l 1 M_X12_find [.ref 193] (tS s) (some (.int q.1)) (tS q.2) 0 0 := by
  refine PM.of (by decide +kernel) (Nat.le_of_ble_eq_true rfl) ?_
  show PW g l (pRoom 1 0 0) M_X12_find _ 0 [(0, .ref 193)] [] (tS s) 0 0
  unfold f_X12_find at h
  generalize hF : pE g (some (.int q.1)) (tS q.2) 0 0 = F
  have hx := hF.symm
  refine PW.aload_n 0 0 dX12_find_0 rfl rfl rfl ?_
  refine CW.geti dX12_find_1 fL_X12_446 LA_193 (Or.inl rfl) ?_
  refine PW.bipush (v := 10) dX12_find_4 (by decide) ?_
  refine PW.icmp_ne (tgt := 11) dX12_find_6 (by decide) (fun c1 => ?_) (fun c1 => ?_)
  · replace h := ifn h c1
    refine PW.aload_n 0 0 dX12_find_11 rfl rfl rfl ?_
    refine PW.dup dX12_find_12 rfl ?_
    refine CW.geti dX12_find_13 fL_X12_446 LA_193 (Or.inl rfl) ?_
    refine PW.iconst (v := 1) dX12_find_16 (by decide) ?_
    refine PW.iadd dX12_find_17 ?_
    refine CW.puti dX12_find_18 fL_X12_446 rfl LA_193 rfl ?_
    obtain ⟨s2, es2, h⟩ := sbnd h
    refine PW.sbe es2 ?_
    clear es2
    refine PW.aload_n 0 0 dX12_find_21 rfl rfl rfl ?_
    refine CW.geti dX12_find_22 fL_X12_446 LA_193 (Or.inl rfl) ?_
    refine PW.iconst (v := 1) dX12_find_25 (by decide) ?_
    refine PW.isub dX12_find_26 ?_
    cases h
    subst hx
    exact PW.iret (v := ((iG s2 193 6) - (1 : Int32))) dX12_find_27 rfl rfl (Nat.le_refl 0) (Nat.le_refl 0)
  · replace h := ifp h c1
    refine PW.iconst (v := (-1)) dX12_find_9 (by decide) ?_
    cases h
    subst hx
    exact PW.iret (v := (-1 : Int32)) dX12_find_10 rfl rfl (Nat.le_refl 0) (Nat.le_refl 0)
/-! X12_tells -/
def f_X12_tells (a0 : Int32) (a1 : Int32) (a2 : Int32) (s : cS) : Option (Int32 × cS) :=
  if (f_X12_isFind a0 s) = 0 then
    some (((0 : Int32), s))
  else
    if (f_X12_isStory a1 s) = 0 then
      some (((0 : Int32), s))
    else
      if (lIn a2.toInt64 (0 : Int64) (10 : Int64)) = 0 then
        some (((0 : Int32), s))
      else
        if inb (((6 : Int32) * a0) + a1) 60 then
        sb (iS s 235 (((6 : Int32) * a0) + a1).toNatClampNeg a2) fun s8 =>
        some (((1 : Int32), s8))
        else none
set_option maxRecDepth 20000 in
set_option maxHeartbeats 4000000 in
theorem p_X12_tells {g : pG} {l : Launch} {a0 : Int32} {a1 : Int32} {a2 : Int32} {s : cS} {q : Int32 × cS} (h : f_X12_tells a0 a1 a2 s = some q) : PM g l 3 M_X12_tells [.ref 193, .int a0, .int a1, .int a2] (tS s) (some (.int q.1)) (tS q.2) 0 0 := by
  refine PM.of (by decide +kernel) (Nat.le_of_ble_eq_true rfl) ?_
  show PW g l (pRoom 3 0 0) M_X12_tells _ 0 [(0, .ref 193), (1, .int a0), (2, .int a1), (3, .int a2)] [] (tS s) 0 0
  unfold f_X12_tells at h
  generalize hF : pE g (some (.int q.1)) (tS q.2) 0 0 = F
  have hx := hF.symm
  refine PW.aload_n 0 0 dX12_tells_0 rfl rfl rfl ?_
  refine PW.iload_n 1 1 dX12_tells_1 rfl rfl ?_
  refine CW.callVi (ci := 12) (st := []) [.int a0] dX12_tells_2 (p_X12_isFind rfl) MV_X12_isFind mL_X12_451 (by decide) rfl LA_193 rfl rfl (Nat.le_of_ble_eq_true rfl) (by first | decide | omega) ?_
  refine PW.if_eq (tgt := 28) dX12_tells_5 (by decide) (fun c2 => ?_) (fun c2 => ?_)
  · replace h := ifp h c2
    refine PW.iconst (v := 0) dX12_tells_28 (by decide) ?_
    cases h
    subst hx
    exact PW.iret (v := (0 : Int32)) dX12_tells_29 rfl (narZ (Or.inl rfl)) (Nat.le_refl 0) (Nat.le_refl 0)
  · replace h := ifn h c2
    refine PW.aload_n 0 0 dX12_tells_8 rfl rfl rfl ?_
    refine PW.iload_n 2 2 dX12_tells_9 rfl rfl ?_
    refine CW.callVi (ci := 12) (st := []) [.int a1] dX12_tells_10 (p_X12_isStory rfl) MV_X12_isStory mL_X12_454 (by decide) rfl LA_193 rfl rfl (Nat.le_of_ble_eq_true rfl) (by first | decide | omega) ?_
    refine PW.if_eq (tgt := 28) dX12_tells_13 (by decide) (fun c4 => ?_) (fun c4 => ?_)
    · replace h := ifp h c4
      refine PW.iconst (v := 0) dX12_tells_28 (by decide) ?_
      cases h
      subst hx
      exact PW.iret (v := (0 : Int32)) dX12_tells_29 rfl (narZ (Or.inl rfl)) (Nat.le_refl 0) (Nat.le_refl 0)
    · replace h := ifn h c4
      refine PW.iload_n 3 3 dX12_tells_16 rfl rfl ?_
      refine PW.i2l dX12_tells_17 ?_
      refine PW.lconst (v := 0) dX12_tells_18 (by decide) ?_
      refine PW.ldc2_w dX12_tells_19 kL_X12_457 ?_
      refine CW.callSi (st := []) [.long a2.toInt64, .long (0 : Int64), .long (10 : Int64)] dX12_tells_22 (ps_isIn rfl) MS_X12_isIn mL_X12_164 rfl rfl (Nat.le_of_ble_eq_true rfl) (by first | decide | omega) ?_
      refine PW.if_ne (tgt := 30) dX12_tells_25 (by decide) (fun c6 => ?_) (fun c6 => ?_)
      · replace h := ifn h c6
        refine PW.aload_n 0 0 dX12_tells_30 rfl rfl rfl ?_
        refine CW.getr dX12_tells_31 fL_X12_135 LA_193 (Or.inr ⟨_, rfl⟩) rfl ?_
        refine PW.bipush (v := 6) dX12_tells_34 (by decide) ?_
        refine PW.iload_n 1 1 dX12_tells_36 rfl rfl ?_
        refine PW.imul dX12_tells_37 ?_
        refine PW.iload_n 2 2 dX12_tells_38 rfl rfl ?_
        refine PW.iadd dX12_tells_39 ?_
        refine PW.iload_n 3 3 dX12_tells_40 rfl rfl ?_
        by_cases c7 : inb (((6 : Int32) * a0) + a1) 60
        rotate_left
        · have h := ifn h c7; cases h
        replace h := ifp h c7
        refine CW.iast dX12_tells_41 LA_235 c7 ?_
        obtain ⟨s8, es8, h⟩ := sbnd h
        refine PW.sbe es8 ?_
        clear es8
        refine PW.iconst (v := 1) dX12_tells_42 (by decide) ?_
        cases h
        subst hx
        exact PW.iret (v := (1 : Int32)) dX12_tells_43 rfl (narZ (Or.inr rfl)) (Nat.le_refl 0) (Nat.le_refl 0)
      · replace h := ifp h c6
        refine PW.iconst (v := 0) dX12_tells_28 (by decide) ?_
        cases h
        subst hx
        exact PW.iret (v := (0 : Int32)) dX12_tells_29 rfl (narZ (Or.inl rfl)) (Nat.le_refl 0) (Nat.le_refl 0)
/-! X12_seen -/
def f_X12_seen (a0 : Int32) (a1 : Int32) (s : cS) : Option (Int32 × cS) :=
  if (f_X12_isFind a0 s) = 0 then
    some (((0 : Int32), s))
  else
    if (lIn a1.toInt64 (-1 : Int64) (1 : Int64)) = 0 then
      some (((0 : Int32), s))
    else
      if inb a0 10 then
      sb (iS s 236 a0.toNatClampNeg a1) fun s6 =>
      some (((1 : Int32), s6))
      else none
set_option maxRecDepth 20000 in
set_option maxHeartbeats 4000000 in
theorem p_X12_seen {g : pG} {l : Launch} {a0 : Int32} {a1 : Int32} {s : cS} {q : Int32 × cS} (h : f_X12_seen a0 a1 s = some q) : PM g l 3 M_X12_seen [.ref 193, .int a0, .int a1] (tS s) (some (.int q.1)) (tS q.2) 0 0 := by
  refine PM.of (by decide +kernel) (Nat.le_of_ble_eq_true rfl) ?_
  show PW g l (pRoom 3 0 0) M_X12_seen _ 0 [(0, .ref 193), (1, .int a0), (2, .int a1)] [] (tS s) 0 0
  unfold f_X12_seen at h
  generalize hF : pE g (some (.int q.1)) (tS q.2) 0 0 = F
  have hx := hF.symm
  refine PW.aload_n 0 0 dX12_seen_0 rfl rfl rfl ?_
  refine PW.iload_n 1 1 dX12_seen_1 rfl rfl ?_
  refine CW.callVi (ci := 12) (st := []) [.int a0] dX12_seen_2 (p_X12_isFind rfl) MV_X12_isFind mL_X12_451 (by decide) rfl LA_193 rfl rfl (Nat.le_of_ble_eq_true rfl) (by first | decide | omega) ?_
  refine PW.if_eq (tgt := 20) dX12_seen_5 (by decide) (fun c2 => ?_) (fun c2 => ?_)
  · replace h := ifp h c2
    refine PW.iconst (v := 0) dX12_seen_20 (by decide) ?_
    cases h
    subst hx
    exact PW.iret (v := (0 : Int32)) dX12_seen_21 rfl (narZ (Or.inl rfl)) (Nat.le_refl 0) (Nat.le_refl 0)
  · replace h := ifn h c2
    refine PW.iload_n 2 2 dX12_seen_8 rfl rfl ?_
    refine PW.i2l dX12_seen_9 ?_
    refine PW.ldc2_w dX12_seen_10 kL_X12_388 ?_
    refine PW.lconst (v := 1) dX12_seen_13 (by decide) ?_
    refine CW.callSi (st := []) [.long a1.toInt64, .long (-1 : Int64), .long (1 : Int64)] dX12_seen_14 (ps_isIn rfl) MS_X12_isIn mL_X12_164 rfl rfl (Nat.le_of_ble_eq_true rfl) (by first | decide | omega) ?_
    refine PW.if_ne (tgt := 22) dX12_seen_17 (by decide) (fun c4 => ?_) (fun c4 => ?_)
    · replace h := ifn h c4
      refine PW.aload_n 0 0 dX12_seen_22 rfl rfl rfl ?_
      refine CW.getr dX12_seen_23 fL_X12_138 LA_193 (Or.inr ⟨_, rfl⟩) rfl ?_
      refine PW.iload_n 1 1 dX12_seen_26 rfl rfl ?_
      refine PW.iload_n 2 2 dX12_seen_27 rfl rfl ?_
      by_cases c5 : inb a0 10
      rotate_left
      · have h := ifn h c5; cases h
      replace h := ifp h c5
      refine CW.iast dX12_seen_28 LA_236 c5 ?_
      obtain ⟨s6, es6, h⟩ := sbnd h
      refine PW.sbe es6 ?_
      clear es6
      refine PW.iconst (v := 1) dX12_seen_29 (by decide) ?_
      cases h
      subst hx
      exact PW.iret (v := (1 : Int32)) dX12_seen_30 rfl (narZ (Or.inr rfl)) (Nat.le_refl 0) (Nat.le_refl 0)
    · replace h := ifp h c4
      refine PW.iconst (v := 0) dX12_seen_20 (by decide) ?_
      cases h
      subst hx
      exact PW.iret (v := (0 : Int32)) dX12_seen_21 rfl (narZ (Or.inl rfl)) (Nat.le_refl 0) (Nat.le_refl 0)
/-! X12_weightOf -/
def j_X12_weightOf_77 (x1 : Int32) (x2 : Int64) (x4 : Int32) (s : cS) : Option (((Int64 × Int32) × cS) ⊕ (Int64 × cS)) :=
  some (.inl ((x2, (x4 + (1 : Int32))), s))
set_option maxRecDepth 20000 in
set_option maxHeartbeats 4000000 in
theorem ok_j_X12_weightOf_77 {g : pG} {l : Launch} {F : pF} {x1 : Int32} {x2 : Int64} {x4 : Int32} {s : cS} {x : (((Int64 × Int32) × cS) ⊕ (Int64 × cS))} (h : j_X12_weightOf_77 x1 x2 x4 s = some x) (hx : (KL (fun (v : (Int64 × Int32) × cS) => PW g l (pRoom 1 0 0) M_X12_weightOf F 11 [(0, .ref 193), (1, .int x1), (2, .long v.1.1), (4, .int v.1.2)] [] (tS v.2) 0 0) (fun q => F = pE g (some (.long q.1)) (tS q.2) 0 0)) x) : PW g l (pRoom 1 0 0) M_X12_weightOf F 77 [(0, .ref 193), (1, .int x1), (2, .long x2), (4, .int x4)] [] (tS s) 0 0 := by
  unfold j_X12_weightOf_77 at h
  refine PW.iinc (v := (x4 + (1 : Int32))) 3 dX12_weightOf_77 rfl (by first | rfl | decide) (Nat.le_of_ble_eq_true rfl) rfl ?_
  refine PW.goto (tgt := 11) dX12_weightOf_80 (by decide) ?_
  cases h
  exact PW.pick [1, 2, 3, 0] rfl hx
def j_X12_weightOf_75 (x1 : Int32) (x4 : Int32) (y0 : Int64) (y1 : Int64) (s : cS) : Option (((Int64 × Int32) × cS) ⊕ (Int64 × cS)) :=
  j_X12_weightOf_77 x1 (y0 * y1) x4 s
set_option maxRecDepth 20000 in
set_option maxHeartbeats 4000000 in
theorem ok_j_X12_weightOf_75 {g : pG} {l : Launch} {F : pF} {x1 : Int32} {x4 : Int32} {y0 : Int64} {y1 : Int64} {s : cS} {x : (((Int64 × Int32) × cS) ⊕ (Int64 × cS))} (h : j_X12_weightOf_75 x1 x4 y0 y1 s = some x) (hx : (KL (fun (v : (Int64 × Int32) × cS) => PW g l (pRoom 1 0 0) M_X12_weightOf F 11 [(0, .ref 193), (1, .int x1), (2, .long v.1.1), (4, .int v.1.2)] [] (tS v.2) 0 0) (fun q => F = pE g (some (.long q.1)) (tS q.2) 0 0)) x) : PW g l (pRoom 1 0 0) M_X12_weightOf F 75 [(0, .ref 193), (1, .int x1), (4, .int x4)] [.long y1, .long y0] (tS s) 0 0 := by
  unfold j_X12_weightOf_75 at h
  refine PW.lmul dX12_weightOf_75 ?_
  refine PW.lstore_n dX12_weightOf_76 rfl (Nat.le_of_ble_eq_true rfl) rfl ?_
  exact PW.pick [1, 2, 0, 3] rfl (ok_j_X12_weightOf_77 h hx)
def b_X12_weightOf_11 (x1 : Int32) (x2 : Int64) (x4 : Int32) (s : cS) : Option (((Int64 × Int32) × cS) ⊕ (Int64 × cS)) :=
  if (iG s 193 6) ≤ x4 then
    oR (
      some ((x2, s)))
  else
    if inb x4 10 then
    if (iG s 236 x4.toNatClampNeg) = (-1 : Int32) then
      j_X12_weightOf_77 x1 x2 x4 s
    else
      if (iG s 236 x4.toNatClampNeg) = (1 : Int32) then
        if inb (((6 : Int32) * x4) + x1) 60 then
        j_X12_weightOf_75 x1 x4 x2 ((iG s 235 (((6 : Int32) * x4) + x1).toNatClampNeg).toInt64) s
        else none
      else
        if inb (((6 : Int32) * x4) + x1) 60 then
        j_X12_weightOf_75 x1 x4 x2 (((10 : Int32) - (iG s 235 (((6 : Int32) * x4) + x1).toNatClampNeg)).toInt64) s
        else none
    else none
set_option maxRecDepth 20000 in
set_option maxHeartbeats 4000000 in
theorem ok_b_X12_weightOf_11 {g : pG} {l : Launch} {F : pF} {x1 : Int32} {x2 : Int64} {x4 : Int32} {s : cS} {x : (((Int64 × Int32) × cS) ⊕ (Int64 × cS))} (h : b_X12_weightOf_11 x1 x2 x4 s = some x) (hx : (KL (fun (v : (Int64 × Int32) × cS) => PW g l (pRoom 1 0 0) M_X12_weightOf F 11 [(0, .ref 193), (1, .int x1), (2, .long v.1.1), (4, .int v.1.2)] [] (tS v.2) 0 0) (fun q => F = pE g (some (.long q.1)) (tS q.2) 0 0)) x) : PW g l (pRoom 1 0 0) M_X12_weightOf F 11 [(0, .ref 193), (1, .int x1), (2, .long x2), (4, .int x4)] [] (tS s) 0 0 := by
  unfold b_X12_weightOf_11 at h
  refine PW.iload 3 dX12_weightOf_11 rfl ?_
  refine PW.aload_n 0 0 dX12_weightOf_13 rfl rfl rfl ?_
  refine CW.geti dX12_weightOf_14 fL_X12_446 LA_193 (Or.inl rfl) ?_
  refine PW.icmp_ge (tgt := 83) dX12_weightOf_17 (by decide) (fun c2 => ?_) (fun c2 => ?_)
  · replace h := ifp h c2
    obtain ⟨xo, hy, hxo⟩ := oRb h
    clear h
    subst hxo
    replace hx := KLr hx
    have h := hy
    clear hy
    refine PW.lload_n 2 2 dX12_weightOf_83 rfl rfl ?_
    cases h
    subst hx
    exact PW.lret dX12_weightOf_84 rfl (Nat.le_refl 0) (Nat.le_refl 0)
  · replace h := ifn h c2
    refine PW.aload_n 0 0 dX12_weightOf_20 rfl rfl rfl ?_
    refine CW.getr dX12_weightOf_21 fL_X12_138 LA_193 (Or.inr ⟨_, rfl⟩) rfl ?_
    refine PW.iload 3 dX12_weightOf_24 rfl ?_
    by_cases c3 : inb x4 10
    rotate_left
    · have h := ifn h c3; cases h
    replace h := ifp h c3
    refine CW.iald dX12_weightOf_26 LA_236 c3 ?_
    refine PW.iconst (v := (-1)) dX12_weightOf_27 (by decide) ?_
    refine PW.icmp_eq (tgt := 77) dX12_weightOf_28 (by decide) (fun c4 => ?_) (fun c4 => ?_)
    · replace h := ifp h c4
      exact PW.pick [0, 1, 2, 3] rfl (ok_j_X12_weightOf_77 h hx)
    · replace h := ifn h c4
      refine PW.lload_n 2 2 dX12_weightOf_31 rfl rfl ?_
      refine PW.aload_n 0 0 dX12_weightOf_32 rfl rfl rfl ?_
      refine CW.getr dX12_weightOf_33 fL_X12_138 LA_193 (Or.inr ⟨_, rfl⟩) rfl ?_
      refine PW.iload 3 dX12_weightOf_36 rfl ?_
      refine CW.iald dX12_weightOf_38 LA_236 c3 ?_
      refine PW.iconst (v := 1) dX12_weightOf_39 (by decide) ?_
      refine PW.icmp_ne (tgt := 59) dX12_weightOf_40 (by decide) (fun c5 => ?_) (fun c5 => ?_)
      · replace h := ifn h c5
        refine PW.bipush (v := 10) dX12_weightOf_59 (by decide) ?_
        refine PW.aload_n 0 0 dX12_weightOf_61 rfl rfl rfl ?_
        refine CW.getr dX12_weightOf_62 fL_X12_135 LA_193 (Or.inr ⟨_, rfl⟩) rfl ?_
        refine PW.bipush (v := 6) dX12_weightOf_65 (by decide) ?_
        refine PW.iload 3 dX12_weightOf_67 rfl ?_
        refine PW.imul dX12_weightOf_69 ?_
        refine PW.iload_n 1 1 dX12_weightOf_70 rfl rfl ?_
        refine PW.iadd dX12_weightOf_71 ?_
        by_cases c6 : inb (((6 : Int32) * x4) + x1) 60
        rotate_left
        · have h := ifn h c6; cases h
        replace h := ifp h c6
        refine CW.iald dX12_weightOf_72 LA_235 c6 ?_
        refine PW.isub dX12_weightOf_73 ?_
        refine PW.i2l dX12_weightOf_74 ?_
        exact PW.pick [0, 1, 3] rfl (ok_j_X12_weightOf_75 h hx)
      · replace h := ifp h c5
        refine PW.aload_n 0 0 dX12_weightOf_43 rfl rfl rfl ?_
        refine CW.getr dX12_weightOf_44 fL_X12_135 LA_193 (Or.inr ⟨_, rfl⟩) rfl ?_
        refine PW.bipush (v := 6) dX12_weightOf_47 (by decide) ?_
        refine PW.iload 3 dX12_weightOf_49 rfl ?_
        refine PW.imul dX12_weightOf_51 ?_
        refine PW.iload_n 1 1 dX12_weightOf_52 rfl rfl ?_
        refine PW.iadd dX12_weightOf_53 ?_
        by_cases c7 : inb (((6 : Int32) * x4) + x1) 60
        rotate_left
        · have h := ifn h c7; cases h
        replace h := ifp h c7
        refine CW.iald dX12_weightOf_54 LA_235 c7 ?_
        refine PW.i2l dX12_weightOf_55 ?_
        refine PW.goto (tgt := 75) dX12_weightOf_56 (by decide) ?_
        exact PW.pick [0, 1, 3] rfl (ok_j_X12_weightOf_75 h hx)
def w_X12_weightOf_11 (N : Nat) (x1 : Int32) (x2 : Int64) (x4 : Int32) (s : cS) : Option (Int64 × cS) := itr (fun (v : (Int64 × Int32) × cS) => b_X12_weightOf_11 x1 v.1.1 v.1.2 v.2) N ((x2, x4), s)
theorem ok_w_X12_weightOf_11 {g : pG} {l : Launch} {F : pF} {N : Nat} {x1 : Int32} {x2 : Int64} {x4 : Int32} {s : cS} {x : (Int64 × cS)} (h : w_X12_weightOf_11 N x1 x2 x4 s = some x) (hx : (fun q => F = pE g (some (.long q.1)) (tS q.2) 0 0) x) : PW g l (pRoom 1 0 0) M_X12_weightOf F 11 [(0, .ref 193), (1, .int x1), (2, .long x2), (4, .int x4)] [] (tS s) 0 0 :=
  okIter (P := (fun (v : (Int64 × Int32) × cS) => PW g l (pRoom 1 0 0) M_X12_weightOf F 11 [(0, .ref 193), (1, .int x1), (2, .long v.1.1), (4, .int v.1.2)] [] (tS v.2) 0 0)) (K := (fun q => F = pE g (some (.long q.1)) (tS q.2) 0 0)) (fun v y hB hy => ok_b_X12_weightOf_11 hB hy) N ((x2, x4), s) x h hx
def f_X12_weightOf (N : Nat) (a0 : Int32) (s : cS) : Option (Int64 × cS) :=
  if inb a0 6 then
  w_X12_weightOf_11 N a0 ((iG s 234 a0.toNatClampNeg).toInt64) (0 : Int32) s
  else none
set_option maxRecDepth 20000 in
set_option maxHeartbeats 4000000 in
theorem p_X12_weightOf {g : pG} {l : Launch} {N : Nat} {a0 : Int32} {s : cS} {q : Int64 × cS} (h : f_X12_weightOf N a0 s = some q) : PM g l 1 M_X12_weightOf [.ref 193, .int a0] (tS s) (some (.long q.1)) (tS q.2) 0 0 := by
  refine PM.of (by decide +kernel) (Nat.le_of_ble_eq_true rfl) ?_
  show PW g l (pRoom 1 0 0) M_X12_weightOf _ 0 [(0, .ref 193), (1, .int a0)] [] (tS s) 0 0
  unfold f_X12_weightOf at h
  generalize hF : pE g (some (.long q.1)) (tS q.2) 0 0 = F
  have hx := hF.symm
  refine PW.aload_n 0 0 dX12_weightOf_0 rfl rfl rfl ?_
  refine CW.getr dX12_weightOf_1 fL_X12_132 LA_193 (Or.inr ⟨_, rfl⟩) rfl ?_
  refine PW.iload_n 1 1 dX12_weightOf_4 rfl rfl ?_
  by_cases c1 : inb a0 6
  rotate_left
  · have h := ifn h c1; cases h
  replace h := ifp h c1
  refine CW.iald dX12_weightOf_5 LA_234 c1 ?_
  refine PW.i2l dX12_weightOf_6 ?_
  refine PW.lstore_n dX12_weightOf_7 rfl (Nat.le_of_ble_eq_true rfl) rfl ?_
  refine PW.iconst (v := 0) dX12_weightOf_8 (by decide) ?_
  refine PW.istore dX12_weightOf_9 (Nat.le_of_ble_eq_true rfl) rfl ?_
  exact PW.pick [2, 3, 1, 0] rfl (ok_w_X12_weightOf_11 h hx)
/-! X12_weighs -/
def b_X12_weighs_30 (N : Nat) (x2 : Int64) (x4 : Int32) (s : cS) : Option (((Int64 × Int32) × cS) ⊕ (Int64 × cS)) :=
  if (iG s 193 5) ≤ x4 then
    oR (
      some ((x2, s)))
  else
    ob (f_X12_weightOf N x4 s) fun r3 s4 =>
    some (.inl (((x2 + r3), (x4 + (1 : Int32))), s4))
set_option maxRecDepth 20000 in
set_option maxHeartbeats 4000000 in
theorem ok_b_X12_weighs_30 {g : pG} {l : Launch} {F : pF} {N : Nat} {x2 : Int64} {x4 : Int32} {s : cS} {x : (((Int64 × Int32) × cS) ⊕ (Int64 × cS))} (h : b_X12_weighs_30 N x2 x4 s = some x) (hx : (KL (fun (v : (Int64 × Int32) × cS) => PW g l (pRoom 3 0 0) M_X12_weighs F 30 [(0, .ref 193), (2, .long v.1.1), (4, .int v.1.2)] [] (tS v.2) 0 0) (fun q => F = pE g (some (.long q.1)) (tS q.2) 0 0)) x) : PW g l (pRoom 3 0 0) M_X12_weighs F 30 [(0, .ref 193), (2, .long x2), (4, .int x4)] [] (tS s) 0 0 := by
  unfold b_X12_weighs_30 at h
  refine PW.iload 2 dX12_weighs_30 rfl ?_
  refine PW.aload_n 0 0 dX12_weighs_32 rfl rfl rfl ?_
  refine CW.geti dX12_weighs_33 fL_X12_443 LA_193 (Or.inl rfl) ?_
  refine PW.icmp_ge (tgt := 54) dX12_weighs_36 (by decide) (fun c2 => ?_) (fun c2 => ?_)
  · replace h := ifp h c2
    obtain ⟨xo, hy, hxo⟩ := oRb h
    clear h
    subst hxo
    replace hx := KLr hx
    have h := hy
    clear hy
    refine PW.lload_n 1 2 dX12_weighs_54 rfl rfl ?_
    cases h
    subst hx
    exact PW.lret dX12_weighs_55 rfl (Nat.le_refl 0) (Nat.le_refl 0)
  · replace h := ifn h c2
    refine PW.lload_n 1 2 dX12_weighs_39 rfl rfl ?_
    refine PW.aload_n 0 0 dX12_weighs_40 rfl rfl rfl ?_
    refine PW.iload 2 dX12_weighs_41 rfl ?_
    obtain ⟨r3, s4, q5, h⟩ := obnd h
    refine CW.callVl (ci := 12) (st := [.long x2]) [.int x4] dX12_weighs_43 (p_X12_weightOf q5) MV_X12_weightOf mL_X12_459 (by decide) rfl LA_193 rfl rfl (Nat.le_of_ble_eq_true rfl) (by first | decide | omega) ?_
    refine PW.ladd dX12_weighs_46 ?_
    refine PW.lstore_n dX12_weighs_47 rfl (Nat.le_of_ble_eq_true rfl) rfl ?_
    refine PW.iinc (v := (x4 + (1 : Int32))) 2 dX12_weighs_48 rfl (by first | rfl | decide) (Nat.le_of_ble_eq_true rfl) rfl ?_
    refine PW.goto (tgt := 30) dX12_weighs_51 (by decide) ?_
    cases h
    exact PW.pick [2, 1, 0] rfl hx
def w_X12_weighs_30 (N : Nat) (x2 : Int64) (x4 : Int32) (s : cS) : Option (Int64 × cS) := itr (fun (v : (Int64 × Int32) × cS) => b_X12_weighs_30 N v.1.1 v.1.2 v.2) N ((x2, x4), s)
theorem ok_w_X12_weighs_30 {g : pG} {l : Launch} {F : pF} {N : Nat} {x2 : Int64} {x4 : Int32} {s : cS} {x : (Int64 × cS)} (h : w_X12_weighs_30 N x2 x4 s = some x) (hx : (fun q => F = pE g (some (.long q.1)) (tS q.2) 0 0) x) : PW g l (pRoom 3 0 0) M_X12_weighs F 30 [(0, .ref 193), (2, .long x2), (4, .int x4)] [] (tS s) 0 0 :=
  okIter (P := (fun (v : (Int64 × Int32) × cS) => PW g l (pRoom 3 0 0) M_X12_weighs F 30 [(0, .ref 193), (2, .long v.1.1), (4, .int v.1.2)] [] (tS v.2) 0 0)) (K := (fun q => F = pE g (some (.long q.1)) (tS q.2) 0 0)) (fun v y hB hy => ok_b_X12_weighs_30 hB hy) N ((x2, x4), s) x h hx
def f_X12_weighs (N : Nat) (a0 : Int32) (s : cS) : Option (Int64 × cS) :=
  if a0 = (-1 : Int32) then
    w_X12_weighs_30 N (0 : Int64) (0 : Int32) s
  else
    if (f_X12_isStory a0 s) = 0 then
      some (((-1 : Int64), s))
    else
      ob (f_X12_weightOf N a0 s) fun r8 s9 =>
      some ((r8, s9))
set_option maxRecDepth 20000 in
set_option maxHeartbeats 4000000 in
theorem p_X12_weighs {g : pG} {l : Launch} {N : Nat} {a0 : Int32} {s : cS} {q : Int64 × cS} (h : f_X12_weighs N a0 s = some q) : PM g l 3 M_X12_weighs [.ref 193, .int a0] (tS s) (some (.long q.1)) (tS q.2) 0 0 := by
  refine PM.of (by decide +kernel) (Nat.le_of_ble_eq_true rfl) ?_
  show PW g l (pRoom 3 0 0) M_X12_weighs _ 0 [(0, .ref 193), (1, .int a0)] [] (tS s) 0 0
  unfold f_X12_weighs at h
  generalize hF : pE g (some (.long q.1)) (tS q.2) 0 0 = F
  have hx := hF.symm
  refine PW.iload_n 1 1 dX12_weighs_0 rfl rfl ?_
  refine PW.iconst (v := (-1)) dX12_weighs_1 (by decide) ?_
  refine PW.icmp_eq (tgt := 25) dX12_weighs_2 (by decide) (fun c1 => ?_) (fun c1 => ?_)
  · replace h := ifp h c1
    refine PW.lconst (v := 0) dX12_weighs_25 (by decide) ?_
    refine PW.lstore_n dX12_weighs_26 rfl (Nat.le_of_ble_eq_true rfl) rfl ?_
    refine PW.iconst (v := 0) dX12_weighs_27 (by decide) ?_
    refine PW.istore dX12_weighs_28 (Nat.le_of_ble_eq_true rfl) rfl ?_
    exact PW.pick [2, 1, 0] rfl (ok_w_X12_weighs_30 h hx)
  · replace h := ifn h c1
    refine PW.aload_n 0 0 dX12_weighs_5 rfl rfl rfl ?_
    refine PW.iload_n 1 1 dX12_weighs_6 rfl rfl ?_
    refine CW.callVi (ci := 12) (st := []) [.int a0] dX12_weighs_7 (p_X12_isStory rfl) MV_X12_isStory mL_X12_454 (by decide) rfl LA_193 rfl rfl (Nat.le_of_ble_eq_true rfl) (by first | decide | omega) ?_
    refine PW.if_eq (tgt := 21) dX12_weighs_10 (by decide) (fun c7 => ?_) (fun c7 => ?_)
    · replace h := ifp h c7
      refine PW.ldc2_w dX12_weighs_21 kL_X12_388 ?_
      cases h
      subst hx
      exact PW.lret dX12_weighs_24 rfl (Nat.le_refl 0) (Nat.le_refl 0)
    · replace h := ifn h c7
      refine PW.aload_n 0 0 dX12_weighs_13 rfl rfl rfl ?_
      refine PW.iload_n 1 1 dX12_weighs_14 rfl rfl ?_
      obtain ⟨r8, s9, q10, h⟩ := obnd h
      refine CW.callVl (ci := 12) (st := []) [.int a0] dX12_weighs_15 (p_X12_weightOf q10) MV_X12_weightOf mL_X12_459 (by decide) rfl LA_193 rfl rfl (Nat.le_of_ble_eq_true rfl) (by first | decide | omega) ?_
      refine PW.goto (tgt := 24) dX12_weighs_18 (by decide) ?_
      cases h
      subst hx
      exact PW.lret dX12_weighs_24 rfl (Nat.le_refl 0) (Nat.le_refl 0)
/-! X12_moves -/
def j_X12_moves_171 (x1 : Int32) (x2 : Int64) (x4 : Int32) (s : cS) : Option (((Int32 × Int64 × Int32) × cS) ⊕ (Int32 × cS)) :=
  some (.inl ((x1, x2, (x4 + (1 : Int32))), s))
set_option maxRecDepth 20000 in
set_option maxHeartbeats 4000000 in
theorem ok_j_X12_moves_171 {g : pG} {l : Launch} {F : pF} {x1 : Int32} {x2 : Int64} {x4 : Int32} {s : cS} {x : (((Int32 × Int64 × Int32) × cS) ⊕ (Int32 × cS))} (h : j_X12_moves_171 x1 x2 x4 s = some x) (hx : (KL (fun (v : (Int32 × Int64 × Int32) × cS) => PW g l (pRoom 2 0 0) M_X12_moves F 7 [(0, .ref 193), (1, .int v.1.1), (2, .long v.1.2.1), (4, .int v.1.2.2)] [] (tS v.2) 0 0) (fun q => F = pE g (some (.int q.1)) (tS q.2) 0 0)) x) : PW g l (pRoom 2 0 0) M_X12_moves F 171 [(0, .ref 193), (1, .int x1), (2, .long x2), (4, .int x4)] [] (tS s) 0 0 := by
  unfold j_X12_moves_171 at h
  refine PW.iinc (v := (x4 + (1 : Int32))) 3 dX12_moves_171 rfl (by first | rfl | decide) (Nat.le_of_ble_eq_true rfl) rfl ?_
  refine PW.goto (tgt := 7) dX12_moves_174 (by decide) ?_
  cases h
  exact PW.pick [1, 2, 3, 0] rfl hx
def j_X12_moves_162 (x4 : Int32) (x5 : Int64) (x7 : Int64) (s : cS) : Option (((Int32 × Int64 × Int32) × cS) ⊕ (Int32 × cS)) :=
  j_X12_moves_171 x4 (x5 + x7) x4 s
set_option maxRecDepth 20000 in
set_option maxHeartbeats 4000000 in
theorem ok_j_X12_moves_162 {g : pG} {l : Launch} {F : pF} {x4 : Int32} {x5 : Int64} {x7 : Int64} {s : cS} {x : (((Int32 × Int64 × Int32) × cS) ⊕ (Int32 × cS))} (h : j_X12_moves_162 x4 x5 x7 s = some x) (hx : (KL (fun (v : (Int32 × Int64 × Int32) × cS) => PW g l (pRoom 2 0 0) M_X12_moves F 7 [(0, .ref 193), (1, .int v.1.1), (2, .long v.1.2.1), (4, .int v.1.2.2)] [] (tS v.2) 0 0) (fun q => F = pE g (some (.int q.1)) (tS q.2) 0 0)) x) : PW g l (pRoom 2 0 0) M_X12_moves F 162 [(0, .ref 193), (4, .int x4), (5, .long x5), (7, .long x7)] [] (tS s) 0 0 := by
  unfold j_X12_moves_162 at h
  refine PW.iload 1 dX12_moves_162 rfl ?_
  refine PW.istore_n dX12_moves_164 rfl (Nat.le_of_ble_eq_true rfl) rfl ?_
  refine PW.lload 3 dX12_moves_165 rfl ?_
  refine PW.lload 4 dX12_moves_167 rfl ?_
  refine PW.ladd dX12_moves_169 ?_
  refine PW.lstore_n dX12_moves_170 rfl (Nat.le_of_ble_eq_true rfl) rfl ?_
  exact PW.pick [2, 1, 0, 3] rfl (ok_j_X12_moves_171 h hx)
def j_X12_moves_136 (x1 : Int32) (x2 : Int64) (x4 : Int32) (x5 : Int64) (x9 : Int32) (y0 : Int64) (s : cS) : Option (((Int64 × Int64 × Int32) × cS) ⊕ (((Int32 × Int64 × Int32) × cS) ⊕ (Int32 × cS))) :=
  some (.inl ((x5, y0, (x9 + (1 : Int32))), s))
set_option maxRecDepth 20000 in
set_option maxHeartbeats 4000000 in
theorem ok_j_X12_moves_136 {g : pG} {l : Launch} {F : pF} {x1 : Int32} {x2 : Int64} {x4 : Int32} {x5 : Int64} {x9 : Int32} {y0 : Int64} {s : cS} {x : (((Int64 × Int64 × Int32) × cS) ⊕ (((Int32 × Int64 × Int32) × cS) ⊕ (Int32 × cS)))} (h : j_X12_moves_136 x1 x2 x4 x5 x9 y0 s = some x) (hx : (KL (fun (v : (Int64 × Int64 × Int32) × cS) => PW g l (pRoom 2 0 0) M_X12_moves F 46 [(0, .ref 193), (1, .int x1), (2, .long x2), (4, .int x4), (5, .long v.1.1), (7, .long v.1.2.1), (9, .int v.1.2.2)] [] (tS v.2) 0 0) (KL (fun (v : (Int32 × Int64 × Int32) × cS) => PW g l (pRoom 2 0 0) M_X12_moves F 7 [(0, .ref 193), (1, .int v.1.1), (2, .long v.1.2.1), (4, .int v.1.2.2)] [] (tS v.2) 0 0) (fun q => F = pE g (some (.int q.1)) (tS q.2) 0 0))) x) : PW g l (pRoom 2 0 0) M_X12_moves F 136 [(0, .ref 193), (1, .int x1), (2, .long x2), (4, .int x4), (5, .long x5), (9, .int x9)] [.long y0] (tS s) 0 0 := by
  unfold j_X12_moves_136 at h
  refine PW.lstore dX12_moves_136 (Nat.le_of_ble_eq_true rfl) rfl ?_
  refine PW.iinc (v := (x9 + (1 : Int32))) 6 dX12_moves_138 rfl (by first | rfl | decide) (Nat.le_of_ble_eq_true rfl) rfl ?_
  refine PW.goto (tgt := 46) dX12_moves_141 (by decide) ?_
  cases h
  exact PW.pick [2, 3, 4, 5, 6, 1, 0] rfl hx
def j_X12_moves_119 (x1 : Int32) (x2 : Int64) (x4 : Int32) (x7 : Int64) (x9 : Int32) (x12 : Int64) (y0 : Int64) (s : cS) : Option (((Int64 × Int64 × Int32) × cS) ⊕ (((Int32 × Int64 × Int32) × cS) ⊕ (Int32 × cS))) :=
  if (lg_cmp x12 x7) ≤ 0 then
    j_X12_moves_136 x1 x2 x4 y0 x9 x7 s
  else
    j_X12_moves_136 x1 x2 x4 y0 x9 x12 s
set_option maxRecDepth 20000 in
set_option maxHeartbeats 4000000 in
theorem ok_j_X12_moves_119 {g : pG} {l : Launch} {F : pF} {x1 : Int32} {x2 : Int64} {x4 : Int32} {x7 : Int64} {x9 : Int32} {x12 : Int64} {y0 : Int64} {s : cS} {x : (((Int64 × Int64 × Int32) × cS) ⊕ (((Int32 × Int64 × Int32) × cS) ⊕ (Int32 × cS)))} (h : j_X12_moves_119 x1 x2 x4 x7 x9 x12 y0 s = some x) (hx : (KL (fun (v : (Int64 × Int64 × Int32) × cS) => PW g l (pRoom 2 0 0) M_X12_moves F 46 [(0, .ref 193), (1, .int x1), (2, .long x2), (4, .int x4), (5, .long v.1.1), (7, .long v.1.2.1), (9, .int v.1.2.2)] [] (tS v.2) 0 0) (KL (fun (v : (Int32 × Int64 × Int32) × cS) => PW g l (pRoom 2 0 0) M_X12_moves F 7 [(0, .ref 193), (1, .int v.1.1), (2, .long v.1.2.1), (4, .int v.1.2.2)] [] (tS v.2) 0 0) (fun q => F = pE g (some (.int q.1)) (tS q.2) 0 0))) x) : PW g l (pRoom 2 0 0) M_X12_moves F 119 [(0, .ref 193), (1, .int x1), (2, .long x2), (4, .int x4), (7, .long x7), (9, .int x9), (12, .long x12)] [.long y0] (tS s) 0 0 := by
  unfold j_X12_moves_119 at h
  refine PW.lstore dX12_moves_119 (Nat.le_of_ble_eq_true rfl) rfl ?_
  refine PW.lload 7 dX12_moves_121 rfl ?_
  refine PW.lload 5 dX12_moves_123 rfl ?_
  refine PW.lcmp dX12_moves_125 ?_
  refine PW.if_le (tgt := 134) dX12_moves_126 (by decide) (fun c16 => ?_) (fun c16 => ?_)
  · replace h := ifp h c16
    refine PW.lload 5 dX12_moves_134 rfl ?_
    exact PW.pick [1, 2, 3, 4, 0, 6] rfl (ok_j_X12_moves_136 h hx)
  · replace h := ifn h c16
    refine PW.lload 7 dX12_moves_129 rfl ?_
    refine PW.goto (tgt := 136) dX12_moves_131 (by decide) ?_
    exact PW.pick [1, 2, 3, 4, 0, 6] rfl (ok_j_X12_moves_136 h hx)
def b_X12_moves_46 (N : Nat) (x1 : Int32) (x2 : Int64) (x4 : Int32) (x5 : Int64) (x7 : Int64) (x9 : Int32) (s : cS) : Option (((Int64 × Int64 × Int32) × cS) ⊕ (((Int32 × Int64 × Int32) × cS) ⊕ (Int32 × cS))) :=
  if (iG s 193 5) ≤ x9 then
    oR (
      if x1 = (-1 : Int32) then
        j_X12_moves_162 x4 x5 x7 s
      else
        if 0 < (lg_cmp (x5 + x7) x2) then
          j_X12_moves_162 x4 x5 x7 s
        else
          j_X12_moves_171 x1 x2 x4 s)
  else
    ob (f_X12_weightOf N x9 s) fun r8 s9 =>
    if inb (((6 : Int32) * x4) + x9) 60 then
    ob (f_X12_weightOf N x9 s9) fun r12 s13 =>
    if (lg_cmp (r8 * (iG s9 235 (((6 : Int32) * x4) + x9).toNatClampNeg).toInt64) x5) ≤ 0 then
      j_X12_moves_119 x1 x2 x4 x7 x9 (r12 * ((10 : Int32) - (iG s13 235 (((6 : Int32) * x4) + x9).toNatClampNeg)).toInt64) x5 s13
    else
      j_X12_moves_119 x1 x2 x4 x7 x9 (r12 * ((10 : Int32) - (iG s13 235 (((6 : Int32) * x4) + x9).toNatClampNeg)).toInt64) (r8 * (iG s9 235 (((6 : Int32) * x4) + x9).toNatClampNeg).toInt64) s13
    else none
set_option maxRecDepth 20000 in
set_option maxHeartbeats 4000000 in
theorem ok_b_X12_moves_46 {g : pG} {l : Launch} {F : pF} {N : Nat} {x1 : Int32} {x2 : Int64} {x4 : Int32} {x5 : Int64} {x7 : Int64} {x9 : Int32} {s : cS} {x : (((Int64 × Int64 × Int32) × cS) ⊕ (((Int32 × Int64 × Int32) × cS) ⊕ (Int32 × cS)))} (h : b_X12_moves_46 N x1 x2 x4 x5 x7 x9 s = some x) (hx : (KL (fun (v : (Int64 × Int64 × Int32) × cS) => PW g l (pRoom 2 0 0) M_X12_moves F 46 [(0, .ref 193), (1, .int x1), (2, .long x2), (4, .int x4), (5, .long v.1.1), (7, .long v.1.2.1), (9, .int v.1.2.2)] [] (tS v.2) 0 0) (KL (fun (v : (Int32 × Int64 × Int32) × cS) => PW g l (pRoom 2 0 0) M_X12_moves F 7 [(0, .ref 193), (1, .int v.1.1), (2, .long v.1.2.1), (4, .int v.1.2.2)] [] (tS v.2) 0 0) (fun q => F = pE g (some (.int q.1)) (tS q.2) 0 0))) x) : PW g l (pRoom 2 0 0) M_X12_moves F 46 [(0, .ref 193), (1, .int x1), (2, .long x2), (4, .int x4), (5, .long x5), (7, .long x7), (9, .int x9)] [] (tS s) 0 0 := by
  unfold b_X12_moves_46 at h
  refine PW.iload 6 dX12_moves_46 rfl ?_
  refine PW.aload_n 0 0 dX12_moves_48 rfl rfl rfl ?_
  refine CW.geti dX12_moves_49 fL_X12_443 LA_193 (Or.inl rfl) ?_
  refine PW.icmp_ge (tgt := 144) dX12_moves_52 (by decide) (fun c5 => ?_) (fun c5 => ?_)
  · replace h := ifp h c5
    obtain ⟨xo, hy, hxo⟩ := oRb h
    clear h
    subst hxo
    replace hx := KLr hx
    have h := hy
    clear hy
    refine PW.iload_n 1 1 dX12_moves_144 rfl rfl ?_
    refine PW.iconst (v := (-1)) dX12_moves_145 (by decide) ?_
    refine PW.icmp_eq (tgt := 162) dX12_moves_146 (by decide) (fun c6 => ?_) (fun c6 => ?_)
    · replace h := ifp h c6
      exact PW.pick [0, 3, 4, 5] rfl (ok_j_X12_moves_162 h hx)
    · replace h := ifn h c6
      refine PW.lload 4 dX12_moves_149 rfl ?_
      refine PW.lload 5 dX12_moves_151 rfl ?_
      refine PW.ladd dX12_moves_153 ?_
      refine PW.lload_n 2 2 dX12_moves_154 rfl rfl ?_
      refine PW.lcmp dX12_moves_155 ?_
      refine PW.if_gt (tgt := 162) dX12_moves_156 (by decide) (fun c7 => ?_) (fun c7 => ?_)
      · replace h := ifp h c7
        exact PW.pick [0, 3, 4, 5] rfl (ok_j_X12_moves_162 h hx)
      · replace h := ifn h c7
        refine PW.goto (tgt := 171) dX12_moves_159 (by decide) ?_
        exact PW.pick [0, 1, 2, 3] rfl (ok_j_X12_moves_171 h hx)
  · replace h := ifn h c5
    refine PW.aload_n 0 0 dX12_moves_55 rfl rfl rfl ?_
    refine PW.iload 6 dX12_moves_56 rfl ?_
    obtain ⟨r8, s9, q10, h⟩ := obnd h
    refine CW.callVl (ci := 12) (st := []) [.int x9] dX12_moves_58 (p_X12_weightOf q10) MV_X12_weightOf mL_X12_459 (by decide) rfl LA_193 rfl rfl (Nat.le_of_ble_eq_true rfl) (by first | decide | omega) ?_
    refine PW.aload_n 0 0 dX12_moves_61 rfl rfl rfl ?_
    refine CW.getr dX12_moves_62 fL_X12_135 LA_193 (Or.inr ⟨_, rfl⟩) rfl ?_
    refine PW.bipush (v := 6) dX12_moves_65 (by decide) ?_
    refine PW.iload 3 dX12_moves_67 rfl ?_
    refine PW.imul dX12_moves_69 ?_
    refine PW.iload 6 dX12_moves_70 rfl ?_
    refine PW.iadd dX12_moves_72 ?_
    by_cases c11 : inb (((6 : Int32) * x4) + x9) 60
    rotate_left
    · have h := ifn h c11; cases h
    replace h := ifp h c11
    refine CW.iald dX12_moves_73 LA_235 c11 ?_
    refine PW.i2l dX12_moves_74 ?_
    refine PW.lmul dX12_moves_75 ?_
    refine PW.lstore dX12_moves_76 (Nat.le_of_ble_eq_true rfl) rfl ?_
    refine PW.aload_n 1 0 dX12_moves_78 rfl rfl rfl ?_
    refine PW.iload 7 dX12_moves_79 rfl ?_
    obtain ⟨r12, s13, q14, h⟩ := obnd h
    refine CW.callVl (ci := 12) (st := []) [.int x9] dX12_moves_81 (p_X12_weightOf q14) MV_X12_weightOf mL_X12_459 (by decide) rfl LA_193 rfl rfl (Nat.le_of_ble_eq_true rfl) (by first | decide | omega) ?_
    refine PW.bipush (v := 10) dX12_moves_84 (by decide) ?_
    refine PW.aload_n 1 0 dX12_moves_86 rfl rfl rfl ?_
    refine CW.getr dX12_moves_87 fL_X12_135 LA_193 (Or.inr ⟨_, rfl⟩) rfl ?_
    refine PW.bipush (v := 6) dX12_moves_90 (by decide) ?_
    refine PW.iload 4 dX12_moves_92 rfl ?_
    refine PW.imul dX12_moves_94 ?_
    refine PW.iload 7 dX12_moves_95 rfl ?_
    refine PW.iadd dX12_moves_97 ?_
    refine CW.iald dX12_moves_98 LA_235 c11 ?_
    refine PW.isub dX12_moves_99 ?_
    refine PW.i2l dX12_moves_100 ?_
    refine PW.lmul dX12_moves_101 ?_
    refine PW.lstore dX12_moves_102 (Nat.le_of_ble_eq_true rfl) rfl ?_
    refine PW.lload 1 dX12_moves_104 rfl ?_
    refine PW.lload 6 dX12_moves_106 rfl ?_
    refine PW.lcmp dX12_moves_108 ?_
    refine PW.if_le (tgt := 117) dX12_moves_109 (by decide) (fun c15 => ?_) (fun c15 => ?_)
    · replace h := ifp h c15
      refine PW.lload 6 dX12_moves_117 rfl ?_
      exact PW.pick [2, 3, 4, 5, 7, 8, 0] rfl (ok_j_X12_moves_119 h hx)
    · replace h := ifn h c15
      refine PW.lload 1 dX12_moves_112 rfl ?_
      refine PW.goto (tgt := 119) dX12_moves_114 (by decide) ?_
      exact PW.pick [2, 3, 4, 5, 7, 8, 0] rfl (ok_j_X12_moves_119 h hx)
def w_X12_moves_46 (N : Nat) (x1 : Int32) (x2 : Int64) (x4 : Int32) (x5 : Int64) (x7 : Int64) (x9 : Int32) (s : cS) : Option (((Int32 × Int64 × Int32) × cS) ⊕ (Int32 × cS)) := itr (fun (v : (Int64 × Int64 × Int32) × cS) => b_X12_moves_46 N x1 x2 x4 v.1.1 v.1.2.1 v.1.2.2 v.2) N ((x5, x7, x9), s)
theorem ok_w_X12_moves_46 {g : pG} {l : Launch} {F : pF} {N : Nat} {x1 : Int32} {x2 : Int64} {x4 : Int32} {x5 : Int64} {x7 : Int64} {x9 : Int32} {s : cS} {x : (((Int32 × Int64 × Int32) × cS) ⊕ (Int32 × cS))} (h : w_X12_moves_46 N x1 x2 x4 x5 x7 x9 s = some x) (hx : (KL (fun (v : (Int32 × Int64 × Int32) × cS) => PW g l (pRoom 2 0 0) M_X12_moves F 7 [(0, .ref 193), (1, .int v.1.1), (2, .long v.1.2.1), (4, .int v.1.2.2)] [] (tS v.2) 0 0) (fun q => F = pE g (some (.int q.1)) (tS q.2) 0 0)) x) : PW g l (pRoom 2 0 0) M_X12_moves F 46 [(0, .ref 193), (1, .int x1), (2, .long x2), (4, .int x4), (5, .long x5), (7, .long x7), (9, .int x9)] [] (tS s) 0 0 :=
  okIter (P := (fun (v : (Int64 × Int64 × Int32) × cS) => PW g l (pRoom 2 0 0) M_X12_moves F 46 [(0, .ref 193), (1, .int x1), (2, .long x2), (4, .int x4), (5, .long v.1.1), (7, .long v.1.2.1), (9, .int v.1.2.2)] [] (tS v.2) 0 0)) (K := (KL (fun (v : (Int32 × Int64 × Int32) × cS) => PW g l (pRoom 2 0 0) M_X12_moves F 7 [(0, .ref 193), (1, .int v.1.1), (2, .long v.1.2.1), (4, .int v.1.2.2)] [] (tS v.2) 0 0) (fun q => F = pE g (some (.int q.1)) (tS q.2) 0 0))) (fun v y hB hy => ok_b_X12_moves_46 hB hy) N ((x5, x7, x9), s) x h hx
def b_X12_moves_7 (N : Nat) (x1 : Int32) (x2 : Int64) (x4 : Int32) (s : cS) : Option (((Int32 × Int64 × Int32) × cS) ⊕ (Int32 × cS)) :=
  if (iG s 193 6) ≤ x4 then
    oR (
      some ((x1, s)))
  else
    if (iG s 193 5) ≤ 0 then
      oR (
        some ((x1, s)))
    else
      if inb x4 10 then
      if (iG s 236 x4.toNatClampNeg) = (-1 : Int32) then
        w_X12_moves_46 N x1 x2 x4 (0 : Int64) (0 : Int64) (0 : Int32) s
      else
        j_X12_moves_171 x1 x2 x4 s
      else none
set_option maxRecDepth 20000 in
set_option maxHeartbeats 4000000 in
theorem ok_b_X12_moves_7 {g : pG} {l : Launch} {F : pF} {N : Nat} {x1 : Int32} {x2 : Int64} {x4 : Int32} {s : cS} {x : (((Int32 × Int64 × Int32) × cS) ⊕ (Int32 × cS))} (h : b_X12_moves_7 N x1 x2 x4 s = some x) (hx : (KL (fun (v : (Int32 × Int64 × Int32) × cS) => PW g l (pRoom 2 0 0) M_X12_moves F 7 [(0, .ref 193), (1, .int v.1.1), (2, .long v.1.2.1), (4, .int v.1.2.2)] [] (tS v.2) 0 0) (fun q => F = pE g (some (.int q.1)) (tS q.2) 0 0)) x) : PW g l (pRoom 2 0 0) M_X12_moves F 7 [(0, .ref 193), (1, .int x1), (2, .long x2), (4, .int x4)] [] (tS s) 0 0 := by
  unfold b_X12_moves_7 at h
  refine PW.iload 3 dX12_moves_7 rfl ?_
  refine PW.aload_n 0 0 dX12_moves_9 rfl rfl rfl ?_
  refine CW.geti dX12_moves_10 fL_X12_446 LA_193 (Or.inl rfl) ?_
  refine PW.icmp_ge (tgt := 177) dX12_moves_13 (by decide) (fun c1 => ?_) (fun c1 => ?_)
  · replace h := ifp h c1
    obtain ⟨xo, hy, hxo⟩ := oRb h
    clear h
    subst hxo
    replace hx := KLr hx
    have h := hy
    clear hy
    refine PW.iload_n 1 1 dX12_moves_177 rfl rfl ?_
    cases h
    subst hx
    exact PW.iret (v := x1) dX12_moves_178 rfl rfl (Nat.le_refl 0) (Nat.le_refl 0)
  · replace h := ifn h c1
    refine PW.aload_n 0 0 dX12_moves_16 rfl rfl rfl ?_
    refine CW.geti dX12_moves_17 fL_X12_443 LA_193 (Or.inl rfl) ?_
    refine PW.if_le (tgt := 177) dX12_moves_20 (by decide) (fun c2 => ?_) (fun c2 => ?_)
    · replace h := ifp h c2
      obtain ⟨xo, hy, hxo⟩ := oRb h
      clear h
      subst hxo
      replace hx := KLr hx
      have h := hy
      clear hy
      refine PW.iload_n 1 1 dX12_moves_177 rfl rfl ?_
      cases h
      subst hx
      exact PW.iret (v := x1) dX12_moves_178 rfl rfl (Nat.le_refl 0) (Nat.le_refl 0)
    · replace h := ifn h c2
      refine PW.aload_n 0 0 dX12_moves_23 rfl rfl rfl ?_
      refine CW.getr dX12_moves_24 fL_X12_138 LA_193 (Or.inr ⟨_, rfl⟩) rfl ?_
      refine PW.iload 3 dX12_moves_27 rfl ?_
      by_cases c3 : inb x4 10
      rotate_left
      · have h := ifn h c3; cases h
      replace h := ifp h c3
      refine CW.iald dX12_moves_29 LA_236 c3 ?_
      refine PW.iconst (v := (-1)) dX12_moves_30 (by decide) ?_
      refine PW.icmp_eq (tgt := 37) dX12_moves_31 (by decide) (fun c4 => ?_) (fun c4 => ?_)
      · replace h := ifp h c4
        refine PW.lconst (v := 0) dX12_moves_37 (by decide) ?_
        refine PW.lstore dX12_moves_38 (Nat.le_of_ble_eq_true rfl) rfl ?_
        refine PW.lconst (v := 0) dX12_moves_40 (by decide) ?_
        refine PW.lstore dX12_moves_41 (Nat.le_of_ble_eq_true rfl) rfl ?_
        refine PW.iconst (v := 0) dX12_moves_43 (by decide) ?_
        refine PW.istore dX12_moves_44 (Nat.le_of_ble_eq_true rfl) rfl ?_
        exact PW.pick [3, 4, 5, 6, 2, 1, 0] rfl (ok_w_X12_moves_46 h hx)
      · replace h := ifn h c4
        refine PW.goto (tgt := 171) dX12_moves_34 (by decide) ?_
        exact PW.pick [0, 1, 2, 3] rfl (ok_j_X12_moves_171 h hx)
def w_X12_moves_7 (N : Nat) (x1 : Int32) (x2 : Int64) (x4 : Int32) (s : cS) : Option (Int32 × cS) := itr (fun (v : (Int32 × Int64 × Int32) × cS) => b_X12_moves_7 N v.1.1 v.1.2.1 v.1.2.2 v.2) N ((x1, x2, x4), s)
theorem ok_w_X12_moves_7 {g : pG} {l : Launch} {F : pF} {N : Nat} {x1 : Int32} {x2 : Int64} {x4 : Int32} {s : cS} {x : (Int32 × cS)} (h : w_X12_moves_7 N x1 x2 x4 s = some x) (hx : (fun q => F = pE g (some (.int q.1)) (tS q.2) 0 0) x) : PW g l (pRoom 2 0 0) M_X12_moves F 7 [(0, .ref 193), (1, .int x1), (2, .long x2), (4, .int x4)] [] (tS s) 0 0 :=
  okIter (P := (fun (v : (Int32 × Int64 × Int32) × cS) => PW g l (pRoom 2 0 0) M_X12_moves F 7 [(0, .ref 193), (1, .int v.1.1), (2, .long v.1.2.1), (4, .int v.1.2.2)] [] (tS v.2) 0 0)) (K := (fun q => F = pE g (some (.int q.1)) (tS q.2) 0 0)) (fun v y hB hy => ok_b_X12_moves_7 hB hy) N ((x1, x2, x4), s) x h hx
def f_X12_moves (N : Nat) (s : cS) : Option (Int32 × cS) :=
  w_X12_moves_7 N (-1 : Int32) (0 : Int64) (0 : Int32) s
set_option maxRecDepth 20000 in
set_option maxHeartbeats 4000000 in
theorem p_X12_moves {g : pG} {l : Launch} {N : Nat} {s : cS} {q : Int32 × cS} (h : f_X12_moves N s = some q) : PM g l 2 M_X12_moves [.ref 193] (tS s) (some (.int q.1)) (tS q.2) 0 0 := by
  refine PM.of (by decide +kernel) (Nat.le_of_ble_eq_true rfl) ?_
  show PW g l (pRoom 2 0 0) M_X12_moves _ 0 [(0, .ref 193)] [] (tS s) 0 0
  unfold f_X12_moves at h
  generalize hF : pE g (some (.int q.1)) (tS q.2) 0 0 = F
  have hx := hF.symm
  refine PW.iconst (v := (-1)) dX12_moves_0 (by decide) ?_
  refine PW.istore_n dX12_moves_1 rfl (Nat.le_of_ble_eq_true rfl) rfl ?_
  refine PW.lconst (v := 0) dX12_moves_2 (by decide) ?_
  refine PW.lstore_n dX12_moves_3 rfl (Nat.le_of_ble_eq_true rfl) rfl ?_
  refine PW.iconst (v := 0) dX12_moves_4 (by decide) ?_
  refine PW.istore dX12_moves_5 (Nat.le_of_ble_eq_true rfl) rfl ?_
  exact PW.pick [3, 2, 1, 0] rfl (ok_w_X12_moves_7 h hx)
