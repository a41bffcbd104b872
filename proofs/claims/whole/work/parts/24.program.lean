/-! X6_pulls -/
def f_X6_pulls (T : Nat) (s : cS) : Int32 :=
  (iG s T 3)
set_option maxRecDepth 20000 in
set_option maxHeartbeats 4000000 in
theorem p_X6_pulls {g : pG} {l : Launch} {T : Nat} {s : cS} {q : Int32} (hT : kd T 6) (h : f_X6_pulls T s = q) : PM g l 1 M_X6_pulls [.ref T] (tS s) (some (.int q)) (tS s) 0 0 := by
  refine PM.of (by decide +kernel) (Nat.le_of_ble_eq_true rfl) ?_
  show PW g l (pRoom 1 0 0) M_X6_pulls _ 0 [(0, .ref T)] [] (tS s) 0 0
  unfold f_X6_pulls at h
  generalize hF : pE g (some (.int q)) (tS s) 0 0 = F
  have hx := hF.symm
  refine PW.aload_n 0 0 dX6_pulls_0 rfl rfl rfl ?_
  refine CW.geti dX6_pulls_1 fL_X6_18 hT (Or.inl rfl) ?_
  cases h
  subst hx
  exact PW.iret (v := (iG s T 3)) dX6_pulls_4 rfl rfl (Nat.le_refl 0) (Nat.le_refl 0)
/-! X6_copy -/
def b_X6_copy_2 (x0 : Nat) (x1 : Nat) (x2 : Int32) (s : cS) : Option ((Int32 × cS) ⊕ (Unit × cS)) :=
  if (8 : Int32) ≤ x2 then
    oR (
      sb (iS s x0 2 (iG s x1 2)) fun s2 =>
      sb (iS s2 x0 3 (iG s2 x1 3)) fun s3 =>
      some (((), s3)))
  else
    if inb x2 8 then
    sb (iS s (x0 + 1) x2.toNatClampNeg (iG s (x1 + 1) x2.toNatClampNeg)) fun s5 =>
    sb (iS s5 (x0 + 2) x2.toNatClampNeg (iG s5 (x1 + 2) x2.toNatClampNeg)) fun s6 =>
    some (.inl ((x2 + (1 : Int32)), s6))
    else none
set_option maxRecDepth 20000 in
set_option maxHeartbeats 4000000 in
theorem ok_b_X6_copy_2 {g : pG} {l : Launch} {F : pF} {x0 : Nat} {x1 : Nat} {x2 : Int32} {s : cS} {x : ((Int32 × cS) ⊕ (Unit × cS))} (hx0 : kd x0 6) (hx1 : kd x1 6) (h : b_X6_copy_2 x0 x1 x2 s = some x) (hx : (KL (fun (v : Int32 × cS) => PW g l (pRoom 1 0 0) M_X6_copy F 2 [(0, .ref x0), (1, .ref x1), (2, .int v.1)] [] (tS v.2) 0 0) (fun q => F = pE g none (tS q.2) 0 0)) x) : PW g l (pRoom 1 0 0) M_X6_copy F 2 [(0, .ref x0), (1, .ref x1), (2, .int x2)] [] (tS s) 0 0 := by
  unfold b_X6_copy_2 at h
  refine PW.iload_n 2 2 dX6_copy_2 rfl rfl ?_
  refine PW.bipush (v := 8) dX6_copy_3 (by decide) ?_
  refine PW.icmp_ge (tgt := 38) dX6_copy_5 (by decide) (fun c1 => ?_) (fun c1 => ?_)
  · replace h := ifp h c1
    obtain ⟨xo, hy, hxo⟩ := oRb h
    clear h
    subst hxo
    replace hx := KLr hx
    have h := hy
    clear hy
    refine PW.aload_n 0 0 dX6_copy_38 rfl rfl rfl ?_
    refine PW.aload_n 1 1 dX6_copy_39 rfl rfl rfl ?_
    refine CW.geti dX6_copy_40 fL_X6_22 hx1 (Or.inl rfl) ?_
    refine CW.puti dX6_copy_43 fL_X6_22 rfl hx0 rfl ?_
    obtain ⟨s2, es2, h⟩ := sbnd h
    refine PW.sbe es2 ?_
    clear es2
    refine PW.aload_n 0 0 dX6_copy_46 rfl rfl rfl ?_
    refine PW.aload_n 1 1 dX6_copy_47 rfl rfl rfl ?_
    refine CW.geti dX6_copy_48 fL_X6_18 hx1 (Or.inl rfl) ?_
    refine CW.puti dX6_copy_51 fL_X6_18 rfl hx0 rfl ?_
    obtain ⟨s3, es3, h⟩ := sbnd h
    refine PW.sbe es3 ?_
    clear es3
    cases h
    subst hx
    exact PW.vret dX6_copy_54 rfl (Nat.le_refl 0) (Nat.le_refl 0)
  · replace h := ifn h c1
    refine PW.aload_n 0 0 dX6_copy_8 rfl rfl rfl ?_
    refine CW.getr dX6_copy_9 fL_X6_11 hx0 (Or.inr ⟨_, rfl⟩) (kr_6_0 hx0 _) ?_
    refine PW.iload_n 2 2 dX6_copy_12 rfl rfl ?_
    refine PW.aload_n 1 1 dX6_copy_13 rfl rfl rfl ?_
    refine CW.getr dX6_copy_14 fL_X6_11 hx1 (Or.inr ⟨_, rfl⟩) (kr_6_0 hx1 _) ?_
    refine PW.iload_n 2 2 dX6_copy_17 rfl rfl ?_
    by_cases c4 : inb x2 8
    rotate_left
    · have h := ifn h c4; cases h
    replace h := ifp h c4
    refine CW.iald dX6_copy_18 (ka_6_1 hx1) c4 ?_
    refine CW.iast dX6_copy_19 (ka_6_1 hx0) c4 ?_
    obtain ⟨s5, es5, h⟩ := sbnd h
    refine PW.sbe es5 ?_
    clear es5
    refine PW.aload_n 0 0 dX6_copy_20 rfl rfl rfl ?_
    refine CW.getr dX6_copy_21 fL_X6_15 hx0 (Or.inr ⟨_, rfl⟩) (kr_6_1 hx0 _) ?_
    refine PW.iload_n 2 2 dX6_copy_24 rfl rfl ?_
    refine PW.aload_n 1 1 dX6_copy_25 rfl rfl rfl ?_
    refine CW.getr dX6_copy_26 fL_X6_15 hx1 (Or.inr ⟨_, rfl⟩) (kr_6_1 hx1 _) ?_
    refine PW.iload_n 2 2 dX6_copy_29 rfl rfl ?_
    refine CW.iald dX6_copy_30 (ka_6_2 hx1) c4 ?_
    refine CW.iast dX6_copy_31 (ka_6_2 hx0) c4 ?_
    obtain ⟨s6, es6, h⟩ := sbnd h
    refine PW.sbe es6 ?_
    clear es6
    refine PW.iinc (v := (x2 + (1 : Int32))) 2 dX6_copy_32 rfl (by first | rfl | decide) (Nat.le_of_ble_eq_true rfl) rfl ?_
    refine PW.goto (tgt := 2) dX6_copy_35 (by decide) ?_
    cases h
    exact PW.pick [1, 2, 0] rfl hx
def w_X6_copy_2 (N : Nat) (x0 : Nat) (x1 : Nat) (x2 : Int32) (s : cS) : Option (Unit × cS) := itr (fun (v : Int32 × cS) => b_X6_copy_2 x0 x1 v.1 v.2) N (x2, s)
theorem ok_w_X6_copy_2 {g : pG} {l : Launch} {F : pF} {N : Nat} {x0 : Nat} {x1 : Nat} {x2 : Int32} {s : cS} {x : (Unit × cS)} (hx0 : kd x0 6) (hx1 : kd x1 6) (h : w_X6_copy_2 N x0 x1 x2 s = some x) (hx : (fun q => F = pE g none (tS q.2) 0 0) x) : PW g l (pRoom 1 0 0) M_X6_copy F 2 [(0, .ref x0), (1, .ref x1), (2, .int x2)] [] (tS s) 0 0 :=
  okIter (P := (fun (v : Int32 × cS) => PW g l (pRoom 1 0 0) M_X6_copy F 2 [(0, .ref x0), (1, .ref x1), (2, .int v.1)] [] (tS v.2) 0 0)) (K := (fun q => F = pE g none (tS q.2) 0 0)) (fun v y hB hy => ok_b_X6_copy_2 hx0 hx1 hB hy) N (x2, s) x h hx
def f_X6_copy (N : Nat) (T : Nat) (Ta0 : Nat) (s : cS) : Option (Unit × cS) :=
  w_X6_copy_2 N T Ta0 (0 : Int32) s
set_option maxRecDepth 20000 in
set_option maxHeartbeats 4000000 in
theorem p_X6_copy {g : pG} {l : Launch} {N : Nat} {T : Nat} {Ta0 : Nat} {s : cS} {q : Unit × cS} (hT : kd T 6) (hTa0 : kd Ta0 6) (h : f_X6_copy N T Ta0 s = some q) : PM g l 1 M_X6_copy [.ref T, .ref Ta0] (tS s) none (tS q.2) 0 0 := by
  refine PM.of (by decide +kernel) (Nat.le_of_ble_eq_true rfl) ?_
  show PW g l (pRoom 1 0 0) M_X6_copy _ 0 [(0, .ref T), (1, .ref Ta0)] [] (tS s) 0 0
  unfold f_X6_copy at h
  generalize hF : pE g none (tS q.2) 0 0 = F
  have hx := hF.symm
  refine PW.iconst (v := 0) dX6_copy_0 (by decide) ?_
  refine PW.istore_n dX6_copy_1 rfl (Nat.le_of_ble_eq_true rfl) rfl ?_
  exact PW.pick [1, 2, 0] rfl (ok_w_X6_copy_2 hT hTa0 h hx)
/-! X6_readPart -/
def j_X6_readPart_85 (x0 : Nat) (x2 : Int32) (x4 : Int32) (x5 : Int32) (s : cS) : Option (Unit × cS) :=
  sb (pA s (x0 + 1) 8 x2 x4) fun s14 =>
  sb (pA s14 (x0 + 2) 8 x2 x5) fun s17 =>
  sb (iS s17 x0 2 (x2 + (1 : Int32))) fun s19 =>
  sb (iS s19 x0 3 ((iG s19 x0 3) + x5)) fun s20 =>
  some (((), s20))
set_option maxRecDepth 20000 in
set_option maxHeartbeats 4000000 in
theorem ok_j_X6_readPart_85 {g : pG} {l : Launch} {F : pF} {x0 : Nat} {x2 : Int32} {x4 : Int32} {x5 : Int32} {s : cS} {x : (Unit × cS)} (hx0 : kd x0 6) (h : j_X6_readPart_85 x0 x2 x4 x5 s = some x) (hx : (fun q => F = pE g none (tS q.2) 0 0) x) : PW g l (pRoom 4 0 0) M_X6_readPart F 85 [(0, .ref x0), (2, .int x2), (4, .int x4), (5, .int x5)] [] (tS s) 0 0 := by
  unfold j_X6_readPart_85 at h
  refine PW.aload_n 0 0 dX6_readPart_85 rfl rfl rfl ?_
  refine CW.getr dX6_readPart_86 fL_X6_11 hx0 (Or.inr ⟨_, rfl⟩) (kr_6_0 hx0 _) ?_
  refine PW.iload_n 1 2 dX6_readPart_89 rfl rfl ?_
  refine PW.iload 2 dX6_readPart_90 rfl ?_
  obtain ⟨s14, q15, h⟩ := sbnd h
  refine CW.callSNv (st := []) [.ref (x0 + 1), .int x2, .int x4] dX6_readPart_92 (ps_put (ka_6_1 hx0) q15) MS_X11_put mN_X6_60 rfl rfl (Nat.le_of_ble_eq_true rfl) (by first | decide | omega) ?_
  refine PW.aload_n 0 0 dX6_readPart_95 rfl rfl rfl ?_
  refine CW.getr dX6_readPart_96 fL_X6_15 hx0 (Or.inr ⟨_, rfl⟩) (kr_6_1 hx0 _) ?_
  refine PW.iload_n 1 2 dX6_readPart_99 rfl rfl ?_
  refine PW.iload 3 dX6_readPart_100 rfl ?_
  obtain ⟨s17, q18, h⟩ := sbnd h
  refine CW.callSNv (st := []) [.ref (x0 + 2), .int x2, .int x5] dX6_readPart_102 (ps_put (ka_6_2 hx0) q18) MS_X11_put mN_X6_60 rfl rfl (Nat.le_of_ble_eq_true rfl) (by first | decide | omega) ?_
  refine PW.aload_n 0 0 dX6_readPart_105 rfl rfl rfl ?_
  refine PW.iload_n 1 2 dX6_readPart_106 rfl rfl ?_
  refine PW.iconst (v := 1) dX6_readPart_107 (by decide) ?_
  refine PW.iadd dX6_readPart_108 ?_
  refine CW.puti dX6_readPart_109 fL_X6_22 rfl hx0 rfl ?_
  obtain ⟨s19, es19, h⟩ := sbnd h
  refine PW.sbe es19 ?_
  clear es19
  refine PW.aload_n 0 0 dX6_readPart_112 rfl rfl rfl ?_
  refine PW.dup dX6_readPart_113 rfl ?_
  refine CW.geti dX6_readPart_114 fL_X6_18 hx0 (Or.inl rfl) ?_
  refine PW.iload 3 dX6_readPart_117 rfl ?_
  refine PW.iadd dX6_readPart_119 ?_
  refine CW.puti dX6_readPart_120 fL_X6_18 rfl hx0 rfl ?_
  obtain ⟨s20, es20, h⟩ := sbnd h
  refine PW.sbe es20 ?_
  clear es20
  cases h
  subst hx
  exact PW.vret dX6_readPart_123 rfl (Nat.le_refl 0) (Nat.le_refl 0)
def j_X6_readPart_79 (x0 : Nat) (x2 : Int32) (x3 : Int32) (x4 : Int32) (x5 : Int32) (s : cS) : Option (Unit × cS) :=
  tb (f_X9_fail (3 : Int32) x3 s) fun r10 s11 =>
  j_X6_readPart_85 x0 x2 x4 x5 s11
set_option maxRecDepth 20000 in
set_option maxHeartbeats 4000000 in
theorem ok_j_X6_readPart_79 {g : pG} {l : Launch} {F : pF} {x0 : Nat} {x2 : Int32} {x3 : Int32} {x4 : Int32} {x5 : Int32} {s : cS} {x : (Unit × cS)} (hx0 : kd x0 6) (h : j_X6_readPart_79 x0 x2 x3 x4 x5 s = some x) (hx : (fun q => F = pE g none (tS q.2) 0 0) x) : PW g l (pRoom 4 0 0) M_X6_readPart F 79 [(0, .ref x0), (1, .ref 1), (2, .int x2), (3, .int x3), (4, .int x4), (5, .int x5)] [] (tS s) 0 0 := by
  unfold j_X6_readPart_79 at h
  refine PW.aload_n 1 1 dX6_readPart_79 rfl rfl rfl ?_
  refine PW.iconst (v := 3) dX6_readPart_80 (by decide) ?_
  refine PW.iload_n 3 3 dX6_readPart_81 rfl rfl ?_
  obtain ⟨r10, s11, q12, h⟩ := tbnd h
  refine CW.callVv (ci := 9) (st := []) [.int (3 : Int32), .int x3] dX6_readPart_82 (p_X9_fail q12) MV_X9_fail mL_X6_49 (by decide) rfl LA_1 rfl rfl (Nat.le_of_ble_eq_true rfl) (by first | decide | omega) ?_
  exact PW.pick [0, 2, 4, 5] rfl (ok_j_X6_readPart_85 hx0 h hx)
def j_X6_readPart_61 (x0 : Nat) (x2 : Int32) (x3 : Int32) (x4 : Int32) (x5 : Int32) (s : cS) : Option (Unit × cS) :=
  if x5 = 0 then
    j_X6_readPart_79 x0 x2 x3 x4 x5 s
  else
    if ((iG s x0 3) + x5) ≤ (2000 : Int32) then
      j_X6_readPart_85 x0 x2 x4 x5 s
    else
      j_X6_readPart_79 x0 x2 x3 x4 x5 s
set_option maxRecDepth 20000 in
set_option maxHeartbeats 4000000 in
theorem ok_j_X6_readPart_61 {g : pG} {l : Launch} {F : pF} {x0 : Nat} {x2 : Int32} {x3 : Int32} {x4 : Int32} {x5 : Int32} {s : cS} {x : (Unit × cS)} (hx0 : kd x0 6) (h : j_X6_readPart_61 x0 x2 x3 x4 x5 s = some x) (hx : (fun q => F = pE g none (tS q.2) 0 0) x) : PW g l (pRoom 4 0 0) M_X6_readPart F 61 [(0, .ref x0), (1, .ref 1), (2, .int x2), (3, .int x3), (4, .int x4), (5, .int x5)] [] (tS s) 0 0 := by
  unfold j_X6_readPart_61 at h
  refine PW.iload 5 dX6_readPart_61 rfl ?_
  refine PW.if_eq (tgt := 79) dX6_readPart_63 (by decide) (fun c9 => ?_) (fun c9 => ?_)
  · replace h := ifp h c9
    exact PW.pick [0, 1, 2, 3, 4, 5] rfl (ok_j_X6_readPart_79 hx0 h hx)
  · replace h := ifn h c9
    refine PW.aload_n 0 0 dX6_readPart_66 rfl rfl rfl ?_
    refine CW.geti dX6_readPart_67 fL_X6_18 hx0 (Or.inl rfl) ?_
    refine PW.iload 5 dX6_readPart_70 rfl ?_
    refine PW.iadd dX6_readPart_72 ?_
    refine PW.sipush (v := 2000) dX6_readPart_73 (by decide) ?_
    refine PW.icmp_le (tgt := 85) dX6_readPart_76 (by decide) (fun c21 => ?_) (fun c21 => ?_)
    · replace h := ifp h c21
      exact PW.pick [0, 2, 4, 5] rfl (ok_j_X6_readPart_85 hx0 h hx)
    · replace h := ifn h c21
      exact PW.pick [0, 1, 2, 3, 4, 5] rfl (ok_j_X6_readPart_79 hx0 h hx)
def j_X6_readPart_24 (N : Nat) (x0 : Nat) (x2 : Int32) (x3 : Int32) (s : cS) : Option (Unit × cS) :=
  ob (f_X9_number N (2 : Int32) s) fun r4 s5 =>
  if (sgn s5) = (42 : Int32) then
    tb (f_X9_pass (42 : Int32) s5) fun r22 s23 =>
    ob (f_X9_number N (4 : Int32) s23) fun r26 s27 =>
    j_X6_readPart_61 x0 x2 (f_X9_place s23) r4 r26 s27
  else
    j_X6_readPart_61 x0 x2 x3 r4 (1 : Int32) s5
set_option maxRecDepth 20000 in
set_option maxHeartbeats 4000000 in
theorem ok_j_X6_readPart_24 {g : pG} {l : Launch} {F : pF} {N : Nat} {x0 : Nat} {x2 : Int32} {x3 : Int32} {s : cS} {x : (Unit × cS)} (hx0 : kd x0 6) (h : j_X6_readPart_24 N x0 x2 x3 s = some x) (hx : (fun q => F = pE g none (tS q.2) 0 0) x) : PW g l (pRoom 4 0 0) M_X6_readPart F 24 [(0, .ref x0), (1, .ref 1), (2, .int x2), (3, .int x3)] [] (tS s) 0 0 := by
  unfold j_X6_readPart_24 at h
  refine PW.aload_n 1 1 dX6_readPart_24 rfl rfl rfl ?_
  refine PW.iconst (v := 2) dX6_readPart_25 (by decide) ?_
  obtain ⟨r4, s5, q6, h⟩ := obnd h
  refine CW.callVi (ci := 9) (st := []) [.int (2 : Int32)] dX6_readPart_26 (p_X9_number q6) MV_X9_number mL_X6_53 (by decide) rfl LA_1 rfl rfl (Nat.le_of_ble_eq_true rfl) (by first | decide | omega) ?_
  refine PW.istore dX6_readPart_29 (Nat.le_of_ble_eq_true rfl) rfl ?_
  refine PW.iconst (v := 1) dX6_readPart_31 (by decide) ?_
  refine PW.istore dX6_readPart_32 (Nat.le_of_ble_eq_true rfl) rfl ?_
  refine PW.aload_n 3 1 dX6_readPart_34 rfl rfl rfl ?_
  refine CW.callVi (ci := 9) (st := []) [] dX6_readPart_35 (ps_sign rfl) MV_X9_sign mL_X6_57 (by decide) rfl LA_1 rfl rfl (Nat.le_of_ble_eq_true rfl) (by first | decide | omega) ?_
  refine PW.bipush (v := 42) dX6_readPart_38 (by decide) ?_
  refine PW.icmp_ne (tgt := 61) dX6_readPart_40 (by decide) (fun c8 => ?_) (fun c8 => ?_)
  · replace h := ifn h c8
    exact PW.pick [2, 3, 4, 5, 1, 0] rfl (ok_j_X6_readPart_61 hx0 h hx)
  · replace h := ifp h c8
    refine PW.aload_n 3 1 dX6_readPart_43 rfl rfl rfl ?_
    refine PW.bipush (v := 42) dX6_readPart_44 (by decide) ?_
    obtain ⟨r22, s23, q24, h⟩ := tbnd h
    refine CW.callVv (ci := 9) (st := []) [.int (42 : Int32)] dX6_readPart_46 (p_X9_pass q24) MV_X9_pass mL_X6_38 (by decide) rfl LA_1 rfl rfl (Nat.le_of_ble_eq_true rfl) (by first | decide | omega) ?_
    refine PW.aload_n 3 1 dX6_readPart_49 rfl rfl rfl ?_
    refine CW.callVi (ci := 9) (st := []) [] dX6_readPart_50 (p_X9_place rfl) MV_X9_place mL_X6_42 (by decide) rfl LA_1 rfl rfl (Nat.le_of_ble_eq_true rfl) (by first | decide | omega) ?_
    refine PW.istore_n dX6_readPart_53 rfl (Nat.le_of_ble_eq_true rfl) rfl ?_
    refine PW.aload_n 4 1 dX6_readPart_54 rfl rfl rfl ?_
    refine PW.iconst (v := 4) dX6_readPart_55 (by decide) ?_
    obtain ⟨r26, s27, q28, h⟩ := obnd h
    refine CW.callVi (ci := 9) (st := []) [.int (4 : Int32)] dX6_readPart_56 (p_X9_number q28) MV_X9_number mL_X6_53 (by decide) rfl LA_1 rfl rfl (Nat.le_of_ble_eq_true rfl) (by first | decide | omega) ?_
    refine PW.istore dX6_readPart_59 (Nat.le_of_ble_eq_true rfl) rfl ?_
    exact PW.pick [3, 4, 5, 1, 2, 0] rfl (ok_j_X6_readPart_61 hx0 h hx)
def f_X6_readPart (N : Nat) (T : Nat) (a1 : Int32) (s : cS) : Option (Unit × cS) :=
  if (f_X9_onDigit s) = 0 then
    j_X6_readPart_24 N T a1 (f_X9_place s) s
  else
    if a1 < (8 : Int32) then
      j_X6_readPart_24 N T a1 (f_X9_place s) s
    else
      tb (f_X9_fail (4 : Int32) (f_X9_place s) s) fun r30 s31 =>
      j_X6_readPart_24 N T a1 (f_X9_place s) s31
set_option maxRecDepth 20000 in
set_option maxHeartbeats 4000000 in
theorem p_X6_readPart {g : pG} {l : Launch} {N : Nat} {T : Nat} {a1 : Int32} {s : cS} {q : Unit × cS} (hT : kd T 6) (h : f_X6_readPart N T a1 s = some q) : PM g l 4 M_X6_readPart [.ref T, .ref 1, .int a1] (tS s) none (tS q.2) 0 0 := by
  refine PM.of (by decide +kernel) (Nat.le_of_ble_eq_true rfl) ?_
  show PW g l (pRoom 4 0 0) M_X6_readPart _ 0 [(0, .ref T), (1, .ref 1), (2, .int a1)] [] (tS s) 0 0
  unfold f_X6_readPart at h
  generalize hF : pE g none (tS q.2) 0 0 = F
  have hx := hF.symm
  refine PW.aload_n 1 1 dX6_readPart_0 rfl rfl rfl ?_
  refine CW.callVi (ci := 9) (st := []) [] dX6_readPart_1 (p_X9_place rfl) MV_X9_place mL_X6_42 (by decide) rfl LA_1 rfl rfl (Nat.le_of_ble_eq_true rfl) (by first | decide | omega) ?_
  refine PW.istore_n dX6_readPart_4 rfl (Nat.le_of_ble_eq_true rfl) rfl ?_
  refine PW.aload_n 2 1 dX6_readPart_5 rfl rfl rfl ?_
  refine CW.callVi (ci := 9) (st := []) [] dX6_readPart_6 (p_X9_onDigit rfl) MV_X9_onDigit mL_X6_46 (by decide) rfl LA_1 rfl rfl (Nat.le_of_ble_eq_true rfl) (by first | decide | omega) ?_
  refine PW.if_eq (tgt := 24) dX6_readPart_9 (by decide) (fun c3 => ?_) (fun c3 => ?_)
  · replace h := ifp h c3
    exact PW.pick [1, 2, 3, 0] rfl (ok_j_X6_readPart_24 hT h hx)
  · replace h := ifn h c3
    refine PW.iload_n 3 2 dX6_readPart_12 rfl rfl ?_
    refine PW.bipush (v := 8) dX6_readPart_13 (by decide) ?_
    refine PW.icmp_lt (tgt := 24) dX6_readPart_15 (by decide) (fun c29 => ?_) (fun c29 => ?_)
    · replace h := ifp h c29
      exact PW.pick [1, 2, 3, 0] rfl (ok_j_X6_readPart_24 hT h hx)
    · replace h := ifn h c29
      refine PW.aload_n 2 1 dX6_readPart_18 rfl rfl rfl ?_
      refine PW.iconst (v := 4) dX6_readPart_19 (by decide) ?_
      refine PW.iload_n 0 3 dX6_readPart_20 rfl rfl ?_
      obtain ⟨r30, s31, q32, h⟩ := tbnd h
      refine CW.callVv (ci := 9) (st := []) [.int (4 : Int32), .int (f_X9_place s)] dX6_readPart_21 (p_X9_fail q32) MV_X9_fail mL_X6_49 (by decide) rfl LA_1 rfl rfl (Nat.le_of_ble_eq_true rfl) (by first | decide | omega) ?_
      exact PW.pick [1, 2, 3, 0] rfl (ok_j_X6_readPart_24 hT h hx)
/-! X6_read -/
def b_X6_read_12 (N : Nat) (x0 : Nat) (x2 : Int32) (s : cS) : Option ((Int32 × cS) ⊕ (Unit × cS)) :=
  if (8 : Int32) < x2 then
    oR (
      some (((), s)))
  else
    if (f_X9_sound s) = 0 then
      oR (
        some (((), s)))
    else
      ob (f_X6_readPart N x0 x2 s) fun r6 s7 =>
      if (f_X9_atEnd s7) = 0 then
        tb (f_X9_pass (59 : Int32) s7) fun r11 s12 =>
        some (.inl ((x2 + (1 : Int32)), s12))
      else
        oR (
          some (((), s7)))
set_option maxRecDepth 20000 in
set_option maxHeartbeats 4000000 in
theorem ok_b_X6_read_12 {g : pG} {l : Launch} {F : pF} {N : Nat} {x0 : Nat} {x2 : Int32} {s : cS} {x : ((Int32 × cS) ⊕ (Unit × cS))} (hx0 : kd x0 6) (h : b_X6_read_12 N x0 x2 s = some x) (hx : (KL (fun (v : Int32 × cS) => PW g l (pRoom 5 0 0) M_X6_read F 12 [(0, .ref x0), (1, .ref 1), (2, .int v.1)] [] (tS v.2) 0 0) (fun q => F = pE g none (tS q.2) 0 0)) x) : PW g l (pRoom 5 0 0) M_X6_read F 12 [(0, .ref x0), (1, .ref 1), (2, .int x2)] [] (tS s) 0 0 := by
  unfold b_X6_read_12 at h
  refine PW.iload_n 2 2 dX6_read_12 rfl rfl ?_
  refine PW.bipush (v := 8) dX6_read_13 (by decide) ?_
  refine PW.icmp_gt (tgt := 51) dX6_read_15 (by decide) (fun c3 => ?_) (fun c3 => ?_)
  · replace h := ifp h c3
    obtain ⟨xo, hy, hxo⟩ := oRb h
    clear h
    subst hxo
    replace hx := KLr hx
    have h := hy
    clear hy
    cases h
    subst hx
    exact PW.vret dX6_read_51 rfl (Nat.le_refl 0) (Nat.le_refl 0)
  · replace h := ifn h c3
    refine PW.aload_n 1 1 dX6_read_18 rfl rfl rfl ?_
    refine CW.callVi (ci := 9) (st := []) [] dX6_read_19 (p_X9_sound rfl) MV_X9_sound mL_X6_25 (by decide) rfl LA_1 rfl rfl (Nat.le_of_ble_eq_true rfl) (by first | decide | omega) ?_
    refine PW.if_eq (tgt := 51) dX6_read_22 (by decide) (fun c5 => ?_) (fun c5 => ?_)
    · replace h := ifp h c5
      obtain ⟨xo, hy, hxo⟩ := oRb h
      clear h
      subst hxo
      replace hx := KLr hx
      have h := hy
      clear hy
      cases h
      subst hx
      exact PW.vret dX6_read_51 rfl (Nat.le_refl 0) (Nat.le_refl 0)
    · replace h := ifn h c5
      refine PW.aload_n 0 0 dX6_read_25 rfl rfl rfl ?_
      refine PW.aload_n 1 1 dX6_read_26 rfl rfl rfl ?_
      refine PW.iload_n 2 2 dX6_read_27 rfl rfl ?_
      obtain ⟨r6, s7, q8, h⟩ := obnd h
      refine CW.callVv (ci := 6) (st := []) [.ref 1, .int x2] dX6_read_28 (p_X6_readPart hx0 q8) MV_X6_readPart mL_X6_31 (by decide) rfl hx0 rfl rfl (Nat.le_of_ble_eq_true rfl) (by first | decide | omega) ?_
      refine PW.aload_n 1 1 dX6_read_31 rfl rfl rfl ?_
      refine CW.callVi (ci := 9) (st := []) [] dX6_read_32 (p_X9_atEnd rfl) MV_X9_atEnd mL_X6_35 (by decide) rfl LA_1 rfl rfl (Nat.le_of_ble_eq_true rfl) (by first | decide | omega) ?_
      refine PW.if_eq (tgt := 39) dX6_read_35 (by decide) (fun c10 => ?_) (fun c10 => ?_)
      · replace h := ifp h c10
        refine PW.aload_n 1 1 dX6_read_39 rfl rfl rfl ?_
        refine PW.bipush (v := 59) dX6_read_40 (by decide) ?_
        obtain ⟨r11, s12, q13, h⟩ := tbnd h
        refine CW.callVv (ci := 9) (st := []) [.int (59 : Int32)] dX6_read_42 (p_X9_pass q13) MV_X9_pass mL_X6_38 (by decide) rfl LA_1 rfl rfl (Nat.le_of_ble_eq_true rfl) (by first | decide | omega) ?_
        refine PW.iinc (v := (x2 + (1 : Int32))) 2 dX6_read_45 rfl (by first | rfl | decide) (Nat.le_of_ble_eq_true rfl) rfl ?_
        refine PW.goto (tgt := 12) dX6_read_48 (by decide) ?_
        cases h
        exact PW.pick [1, 2, 0] rfl hx
      · replace h := ifn h c10
        obtain ⟨xo, hy, hxo⟩ := oRb h
        clear h
        subst hxo
        replace hx := KLr hx
        have h := hy
        clear hy
        cases h
        subst hx
        exact PW.vret dX6_read_38 rfl (Nat.le_refl 0) (Nat.le_refl 0)
def w_X6_read_12 (N : Nat) (x0 : Nat) (x2 : Int32) (s : cS) : Option (Unit × cS) := itr (fun (v : Int32 × cS) => b_X6_read_12 N x0 v.1 v.2) N (x2, s)
theorem ok_w_X6_read_12 {g : pG} {l : Launch} {F : pF} {N : Nat} {x0 : Nat} {x2 : Int32} {s : cS} {x : (Unit × cS)} (hx0 : kd x0 6) (h : w_X6_read_12 N x0 x2 s = some x) (hx : (fun q => F = pE g none (tS q.2) 0 0) x) : PW g l (pRoom 5 0 0) M_X6_read F 12 [(0, .ref x0), (1, .ref 1), (2, .int x2)] [] (tS s) 0 0 :=
  okIter (P := (fun (v : Int32 × cS) => PW g l (pRoom 5 0 0) M_X6_read F 12 [(0, .ref x0), (1, .ref 1), (2, .int v.1)] [] (tS v.2) 0 0)) (K := (fun q => F = pE g none (tS q.2) 0 0)) (fun v y hB hy => ok_b_X6_read_12 hx0 hB hy) N (x2, s) x h hx
def f_X6_read (N : Nat) (T : Nat) (s : cS) : Option (Unit × cS) :=
  sb (iS s T 2 (0 : Int32)) fun s1 =>
  sb (iS s1 T 3 (0 : Int32)) fun s2 =>
  w_X6_read_12 N T (0 : Int32) s2
set_option maxRecDepth 20000 in
set_option maxHeartbeats 4000000 in
theorem p_X6_read {g : pG} {l : Launch} {N : Nat} {T : Nat} {s : cS} {q : Unit × cS} (hT : kd T 6) (h : f_X6_read N T s = some q) : PM g l 5 M_X6_read [.ref T, .ref 1] (tS s) none (tS q.2) 0 0 := by
  refine PM.of (by decide +kernel) (Nat.le_of_ble_eq_true rfl) ?_
  show PW g l (pRoom 5 0 0) M_X6_read _ 0 [(0, .ref T), (1, .ref 1)] [] (tS s) 0 0
  unfold f_X6_read at h
  generalize hF : pE g none (tS q.2) 0 0 = F
  have hx := hF.symm
  refine PW.aload_n 0 0 dX6_read_0 rfl rfl rfl ?_
  refine PW.iconst (v := 0) dX6_read_1 (by decide) ?_
  refine CW.puti dX6_read_2 fL_X6_22 rfl hT rfl ?_
  obtain ⟨s1, es1, h⟩ := sbnd h
  refine PW.sbe es1 ?_
  clear es1
  refine PW.aload_n 0 0 dX6_read_5 rfl rfl rfl ?_
  refine PW.iconst (v := 0) dX6_read_6 (by decide) ?_
  refine CW.puti dX6_read_7 fL_X6_18 rfl hT rfl ?_
  obtain ⟨s2, es2, h⟩ := sbnd h
  refine PW.sbe es2 ?_
  clear es2
  refine PW.iconst (v := 0) dX6_read_10 (by decide) ?_
  refine PW.istore_n dX6_read_11 rfl (Nat.le_of_ble_eq_true rfl) rfl ?_
  exact PW.pick [1, 2, 0] rfl (ok_w_X6_read_12 hT h hx)
/-! X6_layOut -/
def b_X6_layOut_70 (x2 : Int32) (x3 : Int32) (x4 : Int32) (s : cS) : Option ((Int32 × cS) ⊕ (Unit × cS)) :=
  if x3 ≤ x4 then
    oR (
      some (((), s)))
  else
    if (2000 : Int32) ≤ x4 then
      oR (
        some (((), s)))
    else
      if inb x4 2000 then
      sb (iS s 117 x4.toNatClampNeg x2) fun s5 =>
      some (.inl ((x4 + (1 : Int32)), s5))
      else none
set_option maxRecDepth 20000 in
set_option maxHeartbeats 4000000 in
theorem ok_b_X6_layOut_70 {g : pG} {l : Launch} {F : pF} {x2 : Int32} {x3 : Int32} {x4 : Int32} {s : cS} {x : ((Int32 × cS) ⊕ (Unit × cS))} (h : b_X6_layOut_70 x2 x3 x4 s = some x) (hx : (KL (fun (v : Int32 × cS) => PW g l (pRoom 1 0 0) M_X6_layOut F 70 [(1, .ref 117), (2, .int x2), (3, .int x3), (4, .int v.1)] [] (tS v.2) 0 0) (fun q => F = pE g none (tS q.2) 0 0)) x) : PW g l (pRoom 1 0 0) M_X6_layOut F 70 [(1, .ref 117), (2, .int x2), (3, .int x3), (4, .int x4)] [] (tS s) 0 0 := by
  unfold b_X6_layOut_70 at h
  refine PW.iload 3 dX6_layOut_70 rfl ?_
  refine PW.iload_n 2 3 dX6_layOut_72 rfl rfl ?_
  refine PW.icmp_ge (tgt := 94) dX6_layOut_73 (by decide) (fun c2 => ?_) (fun c2 => ?_)
  · replace h := ifp h c2
    obtain ⟨xo, hy, hxo⟩ := oRb h
    clear h
    subst hxo
    replace hx := KLr hx
    have h := hy
    clear hy
    cases h
    subst hx
    exact PW.vret dX6_layOut_94 rfl (Nat.le_refl 0) (Nat.le_refl 0)
  · replace h := ifn h c2
    refine PW.iload 3 dX6_layOut_76 rfl ?_
    refine PW.aload_n 0 1 dX6_layOut_78 rfl rfl rfl ?_
    refine CW.alen (v := 2000) dX6_layOut_79 LA_117 (by decide) rfl ?_
    refine PW.icmp_ge (tgt := 94) dX6_layOut_80 (by decide) (fun c3 => ?_) (fun c3 => ?_)
    · replace h := ifp h c3
      obtain ⟨xo, hy, hxo⟩ := oRb h
      clear h
      subst hxo
      replace hx := KLr hx
      have h := hy
      clear hy
      cases h
      subst hx
      exact PW.vret dX6_layOut_94 rfl (Nat.le_refl 0) (Nat.le_refl 0)
    · replace h := ifn h c3
      refine PW.aload_n 0 1 dX6_layOut_83 rfl rfl rfl ?_
      refine PW.iload 3 dX6_layOut_84 rfl ?_
      refine PW.iload_n 1 2 dX6_layOut_86 rfl rfl ?_
      by_cases c4 : inb x4 2000
      rotate_left
      · have h := ifn h c4; cases h
      replace h := ifp h c4
      refine CW.iast dX6_layOut_87 LA_117 c4 ?_
      obtain ⟨s5, es5, h⟩ := sbnd h
      refine PW.sbe es5 ?_
      clear es5
      refine PW.iinc (v := (x4 + (1 : Int32))) 3 dX6_layOut_88 rfl (by first | rfl | decide) (Nat.le_of_ble_eq_true rfl) rfl ?_
      refine PW.goto (tgt := 70) dX6_layOut_91 (by decide) ?_
      cases h
      exact PW.pick [1, 2, 3, 0] rfl hx
def w_X6_layOut_70 (N : Nat) (x2 : Int32) (x3 : Int32) (x4 : Int32) (s : cS) : Option (Unit × cS) := itr (fun (v : Int32 × cS) => b_X6_layOut_70 x2 x3 v.1 v.2) N (x4, s)
theorem ok_w_X6_layOut_70 {g : pG} {l : Launch} {F : pF} {N : Nat} {x2 : Int32} {x3 : Int32} {x4 : Int32} {s : cS} {x : (Unit × cS)} (h : w_X6_layOut_70 N x2 x3 x4 s = some x) (hx : (fun q => F = pE g none (tS q.2) 0 0) x) : PW g l (pRoom 1 0 0) M_X6_layOut F 70 [(1, .ref 117), (2, .int x2), (3, .int x3), (4, .int x4)] [] (tS s) 0 0 :=
  okIter (P := (fun (v : Int32 × cS) => PW g l (pRoom 1 0 0) M_X6_layOut F 70 [(1, .ref 117), (2, .int x2), (3, .int x3), (4, .int v.1)] [] (tS v.2) 0 0)) (K := (fun q => F = pE g none (tS q.2) 0 0)) (fun v y hB hy => ok_b_X6_layOut_70 hB hy) N (x4, s) x h hx
def j_X6_layOut_64 (x0 : Nat) (x2 : Int32) (x3 : Int32) (x4 : Int32) (x5 : Int32) (s : cS) : Option (((Int32 × Int32) × cS) ⊕ (Unit × cS)) :=
  some (.inl ((x4, (x5 + (1 : Int32))), s))
set_option maxRecDepth 20000 in
set_option maxHeartbeats 4000000 in
theorem ok_j_X6_layOut_64 {g : pG} {l : Launch} {F : pF} {x0 : Nat} {x2 : Int32} {x3 : Int32} {x4 : Int32} {x5 : Int32} {s : cS} {x : (((Int32 × Int32) × cS) ⊕ (Unit × cS))} (hx0 : kd x0 6) (h : j_X6_layOut_64 x0 x2 x3 x4 x5 s = some x) (hx : (KL (fun (v : (Int32 × Int32) × cS) => PW g l (pRoom 1 0 0) M_X6_layOut F 6 [(0, .ref x0), (1, .ref 117), (2, .int x2), (3, .int x3), (4, .int v.1.1), (5, .int v.1.2)] [] (tS v.2) 0 0) (fun q => F = pE g none (tS q.2) 0 0)) x) : PW g l (pRoom 1 0 0) M_X6_layOut F 64 [(0, .ref x0), (1, .ref 117), (2, .int x2), (3, .int x3), (4, .int x4), (5, .int x5)] [] (tS s) 0 0 := by
  unfold j_X6_layOut_64 at h
  refine PW.iinc (v := (x5 + (1 : Int32))) 5 dX6_layOut_64 rfl (by first | rfl | decide) (Nat.le_of_ble_eq_true rfl) rfl ?_
  refine PW.goto (tgt := 6) dX6_layOut_67 (by decide) ?_
  cases h
  exact PW.pick [1, 2, 3, 4, 5, 0] rfl hx
def b_X6_layOut_25 (x0 : Nat) (x2 : Int32) (x3 : Int32) (x5 : Int32) (x4 : Int32) (x6 : Int32) (s : cS) : Option (((Int32 × Int32) × cS) ⊕ (((Int32 × Int32) × cS) ⊕ (Unit × cS))) :=
  if inb x5 8 then
  if (iG s (x0 + 2) x5.toNatClampNeg) ≤ x6 then
    oR (
      j_X6_layOut_64 x0 x2 x3 x4 x5 s)
  else
    if (2000 : Int32) ≤ x4 then
      oR (
        j_X6_layOut_64 x0 x2 x3 x4 x5 s)
    else
      if inb x4 2000 then
      sb (iS s 117 x4.toNatClampNeg (iG s (x0 + 1) x5.toNatClampNeg)) fun s11 =>
      some (.inl (((x4 + (1 : Int32)), (x6 + (1 : Int32))), s11))
      else none
  else none
set_option maxRecDepth 20000 in
set_option maxHeartbeats 4000000 in
theorem ok_b_X6_layOut_25 {g : pG} {l : Launch} {F : pF} {x0 : Nat} {x2 : Int32} {x3 : Int32} {x5 : Int32} {x4 : Int32} {x6 : Int32} {s : cS} {x : (((Int32 × Int32) × cS) ⊕ (((Int32 × Int32) × cS) ⊕ (Unit × cS)))} (hx0 : kd x0 6) (h : b_X6_layOut_25 x0 x2 x3 x5 x4 x6 s = some x) (hx : (KL (fun (v : (Int32 × Int32) × cS) => PW g l (pRoom 1 0 0) M_X6_layOut F 25 [(0, .ref x0), (1, .ref 117), (2, .int x2), (3, .int x3), (4, .int v.1.1), (5, .int x5), (6, .int v.1.2)] [] (tS v.2) 0 0) (KL (fun (v : (Int32 × Int32) × cS) => PW g l (pRoom 1 0 0) M_X6_layOut F 6 [(0, .ref x0), (1, .ref 117), (2, .int x2), (3, .int x3), (4, .int v.1.1), (5, .int v.1.2)] [] (tS v.2) 0 0) (fun q => F = pE g none (tS q.2) 0 0))) x) : PW g l (pRoom 1 0 0) M_X6_layOut F 25 [(0, .ref x0), (1, .ref 117), (2, .int x2), (3, .int x3), (4, .int x4), (5, .int x5), (6, .int x6)] [] (tS s) 0 0 := by
  unfold b_X6_layOut_25 at h
  refine PW.iload 6 dX6_layOut_25 rfl ?_
  refine PW.aload_n 0 0 dX6_layOut_27 rfl rfl rfl ?_
  refine CW.getr dX6_layOut_28 fL_X6_15 hx0 (Or.inr ⟨_, rfl⟩) (kr_6_1 hx0 _) ?_
  refine PW.iload 5 dX6_layOut_31 rfl ?_
  by_cases c7 : inb x5 8
  rotate_left
  · have h := ifn h c7; cases h
  replace h := ifp h c7
  refine CW.iald dX6_layOut_33 (ka_6_2 hx0) c7 ?_
  refine PW.icmp_ge (tgt := 64) dX6_layOut_34 (by decide) (fun c8 => ?_) (fun c8 => ?_)
  · replace h := ifp h c8
    obtain ⟨xo, hy, hxo⟩ := oRb h
    clear h
    subst hxo
    replace hx := KLr hx
    have h := hy
    clear hy
    exact PW.pick [0, 1, 2, 3, 4, 5] rfl (ok_j_X6_layOut_64 hx0 h hx)
  · replace h := ifn h c8
    refine PW.iload 4 dX6_layOut_37 rfl ?_
    refine PW.aload_n 1 1 dX6_layOut_39 rfl rfl rfl ?_
    refine CW.alen (v := 2000) dX6_layOut_40 LA_117 (by decide) rfl ?_
    refine PW.icmp_ge (tgt := 64) dX6_layOut_41 (by decide) (fun c9 => ?_) (fun c9 => ?_)
    · replace h := ifp h c9
      obtain ⟨xo, hy, hxo⟩ := oRb h
      clear h
      subst hxo
      replace hx := KLr hx
      have h := hy
      clear hy
      exact PW.pick [0, 1, 2, 3, 4, 5] rfl (ok_j_X6_layOut_64 hx0 h hx)
    · replace h := ifn h c9
      refine PW.aload_n 1 1 dX6_layOut_44 rfl rfl rfl ?_
      refine PW.iload 4 dX6_layOut_45 rfl ?_
      refine PW.aload_n 0 0 dX6_layOut_47 rfl rfl rfl ?_
      refine CW.getr dX6_layOut_48 fL_X6_11 hx0 (Or.inr ⟨_, rfl⟩) (kr_6_0 hx0 _) ?_
      refine PW.iload 5 dX6_layOut_51 rfl ?_
      refine CW.iald dX6_layOut_53 (ka_6_1 hx0) c7 ?_
      by_cases c10 : inb x4 2000
      rotate_left
      · have h := ifn h c10; cases h
      replace h := ifp h c10
      refine CW.iast dX6_layOut_54 LA_117 c10 ?_
      obtain ⟨s11, es11, h⟩ := sbnd h
      refine PW.sbe es11 ?_
      clear es11
      refine PW.iinc (v := (x4 + (1 : Int32))) 4 dX6_layOut_55 rfl (by first | rfl | decide) (Nat.le_of_ble_eq_true rfl) rfl ?_
      refine PW.iinc (v := (x6 + (1 : Int32))) 6 dX6_layOut_58 rfl (by first | rfl | decide) (Nat.le_of_ble_eq_true rfl) rfl ?_
      refine PW.goto (tgt := 25) dX6_layOut_61 (by decide) ?_
      cases h
      exact PW.pick [2, 3, 4, 5, 1, 6, 0] rfl hx
def w_X6_layOut_25 (N : Nat) (x0 : Nat) (x2 : Int32) (x3 : Int32) (x4 : Int32) (x5 : Int32) (x6 : Int32) (s : cS) : Option (((Int32 × Int32) × cS) ⊕ (Unit × cS)) := itr (fun (v : (Int32 × Int32) × cS) => b_X6_layOut_25 x0 x2 x3 x5 v.1.1 v.1.2 v.2) N ((x4, x6), s)
theorem ok_w_X6_layOut_25 {g : pG} {l : Launch} {F : pF} {N : Nat} {x0 : Nat} {x2 : Int32} {x3 : Int32} {x4 : Int32} {x5 : Int32} {x6 : Int32} {s : cS} {x : (((Int32 × Int32) × cS) ⊕ (Unit × cS))} (hx0 : kd x0 6) (h : w_X6_layOut_25 N x0 x2 x3 x4 x5 x6 s = some x) (hx : (KL (fun (v : (Int32 × Int32) × cS) => PW g l (pRoom 1 0 0) M_X6_layOut F 6 [(0, .ref x0), (1, .ref 117), (2, .int x2), (3, .int x3), (4, .int v.1.1), (5, .int v.1.2)] [] (tS v.2) 0 0) (fun q => F = pE g none (tS q.2) 0 0)) x) : PW g l (pRoom 1 0 0) M_X6_layOut F 25 [(0, .ref x0), (1, .ref 117), (2, .int x2), (3, .int x3), (4, .int x4), (5, .int x5), (6, .int x6)] [] (tS s) 0 0 :=
  okIter (P := (fun (v : (Int32 × Int32) × cS) => PW g l (pRoom 1 0 0) M_X6_layOut F 25 [(0, .ref x0), (1, .ref 117), (2, .int x2), (3, .int x3), (4, .int v.1.1), (5, .int x5), (6, .int v.1.2)] [] (tS v.2) 0 0)) (K := (KL (fun (v : (Int32 × Int32) × cS) => PW g l (pRoom 1 0 0) M_X6_layOut F 6 [(0, .ref x0), (1, .ref 117), (2, .int x2), (3, .int x3), (4, .int v.1.1), (5, .int v.1.2)] [] (tS v.2) 0 0) (fun q => F = pE g none (tS q.2) 0 0))) (fun v y hB hy => ok_b_X6_layOut_25 hx0 hB hy) N ((x4, x6), s) x h hx
def b_X6_layOut_6 (N : Nat) (x0 : Nat) (x2 : Int32) (x3 : Int32) (x4 : Int32) (x5 : Int32) (s : cS) : Option (((Int32 × Int32) × cS) ⊕ (Unit × cS)) :=
  if (iG s x0 2) ≤ x5 then
    oR (
      w_X6_layOut_70 N x2 x3 x4 s)
  else
    if (8 : Int32) ≤ x5 then
      oR (
        w_X6_layOut_70 N x2 x3 x4 s)
    else
      w_X6_layOut_25 N x0 x2 x3 x4 x5 (0 : Int32) s
set_option maxRecDepth 20000 in
set_option maxHeartbeats 4000000 in
theorem ok_b_X6_layOut_6 {g : pG} {l : Launch} {F : pF} {N : Nat} {x0 : Nat} {x2 : Int32} {x3 : Int32} {x4 : Int32} {x5 : Int32} {s : cS} {x : (((Int32 × Int32) × cS) ⊕ (Unit × cS))} (hx0 : kd x0 6) (h : b_X6_layOut_6 N x0 x2 x3 x4 x5 s = some x) (hx : (KL (fun (v : (Int32 × Int32) × cS) => PW g l (pRoom 1 0 0) M_X6_layOut F 6 [(0, .ref x0), (1, .ref 117), (2, .int x2), (3, .int x3), (4, .int v.1.1), (5, .int v.1.2)] [] (tS v.2) 0 0) (fun q => F = pE g none (tS q.2) 0 0)) x) : PW g l (pRoom 1 0 0) M_X6_layOut F 6 [(0, .ref x0), (1, .ref 117), (2, .int x2), (3, .int x3), (4, .int x4), (5, .int x5)] [] (tS s) 0 0 := by
  unfold b_X6_layOut_6 at h
  refine PW.iload 5 dX6_layOut_6 rfl ?_
  refine PW.aload_n 0 0 dX6_layOut_8 rfl rfl rfl ?_
  refine CW.geti dX6_layOut_9 fL_X6_22 hx0 (Or.inl rfl) ?_
  refine PW.icmp_ge (tgt := 70) dX6_layOut_12 (by decide) (fun c1 => ?_) (fun c1 => ?_)
  · replace h := ifp h c1
    obtain ⟨xo, hy, hxo⟩ := oRb h
    clear h
    subst hxo
    replace hx := KLr hx
    have h := hy
    clear hy
    exact PW.pick [1, 2, 3, 4] rfl (ok_w_X6_layOut_70 h hx)
  · replace h := ifn h c1
    refine PW.iload 5 dX6_layOut_15 rfl ?_
    refine PW.bipush (v := 8) dX6_layOut_17 (by decide) ?_
    refine PW.icmp_ge (tgt := 70) dX6_layOut_19 (by decide) (fun c6 => ?_) (fun c6 => ?_)
    · replace h := ifp h c6
      obtain ⟨xo, hy, hxo⟩ := oRb h
      clear h
      subst hxo
      replace hx := KLr hx
      have h := hy
      clear hy
      exact PW.pick [1, 2, 3, 4] rfl (ok_w_X6_layOut_70 h hx)
    · replace h := ifn h c6
      refine PW.iconst (v := 0) dX6_layOut_22 (by decide) ?_
      refine PW.istore dX6_layOut_23 (Nat.le_of_ble_eq_true rfl) rfl ?_
      exact PW.pick [1, 2, 3, 4, 5, 6, 0] rfl (ok_w_X6_layOut_25 hx0 h hx)
def w_X6_layOut_6 (N : Nat) (x0 : Nat) (x2 : Int32) (x3 : Int32) (x4 : Int32) (x5 : Int32) (s : cS) : Option (Unit × cS) := itr (fun (v : (Int32 × Int32) × cS) => b_X6_layOut_6 N x0 x2 x3 v.1.1 v.1.2 v.2) N ((x4, x5), s)
theorem ok_w_X6_layOut_6 {g : pG} {l : Launch} {F : pF} {N : Nat} {x0 : Nat} {x2 : Int32} {x3 : Int32} {x4 : Int32} {x5 : Int32} {s : cS} {x : (Unit × cS)} (hx0 : kd x0 6) (h : w_X6_layOut_6 N x0 x2 x3 x4 x5 s = some x) (hx : (fun q => F = pE g none (tS q.2) 0 0) x) : PW g l (pRoom 1 0 0) M_X6_layOut F 6 [(0, .ref x0), (1, .ref 117), (2, .int x2), (3, .int x3), (4, .int x4), (5, .int x5)] [] (tS s) 0 0 :=
  okIter (P := (fun (v : (Int32 × Int32) × cS) => PW g l (pRoom 1 0 0) M_X6_layOut F 6 [(0, .ref x0), (1, .ref 117), (2, .int x2), (3, .int x3), (4, .int v.1.1), (5, .int v.1.2)] [] (tS v.2) 0 0)) (K := (fun q => F = pE g none (tS q.2) 0 0)) (fun v y hB hy => ok_b_X6_layOut_6 hx0 hB hy) N ((x4, x5), s) x h hx
def f_X6_layOut (N : Nat) (T : Nat) (a1 : Int32) (a2 : Int32) (s : cS) : Option (Unit × cS) :=
  w_X6_layOut_6 N T a1 a2 (0 : Int32) (0 : Int32) s
set_option maxRecDepth 20000 in
set_option maxHeartbeats 4000000 in
theorem p_X6_layOut {g : pG} {l : Launch} {N : Nat} {T : Nat} {a1 : Int32} {a2 : Int32} {s : cS} {q : Unit × cS} (hT : kd T 6) (h : f_X6_layOut N T a1 a2 s = some q) : PM g l 1 M_X6_layOut [.ref T, .ref 117, .int a1, .int a2] (tS s) none (tS q.2) 0 0 := by
  refine PM.of (by decide +kernel) (Nat.le_of_ble_eq_true rfl) ?_
  show PW g l (pRoom 1 0 0) M_X6_layOut _ 0 [(0, .ref T), (1, .ref 117), (2, .int a1), (3, .int a2)] [] (tS s) 0 0
  unfold f_X6_layOut at h
  generalize hF : pE g none (tS q.2) 0 0 = F
  have hx := hF.symm
  refine PW.iconst (v := 0) dX6_layOut_0 (by decide) ?_
  refine PW.istore dX6_layOut_1 (Nat.le_of_ble_eq_true rfl) rfl ?_
  refine PW.iconst (v := 0) dX6_layOut_3 (by decide) ?_
  refine PW.istore dX6_layOut_4 (Nat.le_of_ble_eq_true rfl) rfl ?_
  exact PW.pick [2, 3, 4, 5, 1, 0] rfl (ok_w_X6_layOut_6 hT h hx)
