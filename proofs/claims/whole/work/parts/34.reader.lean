/-! X4_readFactor -/
def j_X4_readFactor_24 (N : Nat) (rsum : Int32 → cS → Option (Unit × cS)) (x1 : Int32) (x2 : Int32) (y0 : Int32) (s : cS) : Option (Unit × cS) :=
  if y0 < 0 then
    if x2 = (91 : Int32) then
      if x1 < (6 : Int32) then
        tb (f_X9_pass (91 : Int32) s) fun r9 s10 =>
        ob (rsum (x1 + (1 : Int32)) s10) fun r12 s13 =>
        tb (f_X9_pass (93 : Int32) s13) fun r15 s16 =>
        some (((), s16))
      else
        tb (f_X9_fail (5 : Int32) (f_X9_place s) s) fun r19 s20 =>
        some (((), s20))
    else
      ob (f_X9_number N (5 : Int32) s) fun r22 s23 =>
      if kd s.1.2.2 3 then
      tb (f_X3_add s.1.2.2 (1 : Int32) r22 s23) fun r26 s27 =>
      some (((), s27))
      else none
  else
    tb (f_X9_pass x2 s) fun r29 s30 =>
    if kd s30.1.2.2 3 then
    tb (f_X3_addLetter s30.1.2.2 y0 s30) fun r33 s34 =>
    some (((), s34))
    else none
set_option maxRecDepth 20000 in
set_option maxHeartbeats 4000000 in
theorem ok_j_X4_readFactor_24 {g : pG} {l : Launch} {F : pF} {N : Nat} {x1 : Int32} {x2 : Int32} {y0 : Int32} {s : cS} {x : (Unit × cS)} {rsum : Int32 → cS → Option (Unit × cS)} {d : Nat} {d0 : Nat} (hd : 20 ≤ d) (hd0 : d0 ≤ d) (hrsum : ∀ {o0 : Int32} {s : cS} {q : Unit × cS}, rsum o0 s = some q → PM g l d0 M_X4_readSum [.ref 27, .int o0] (tS s) none (tS q.2) 0 0) (h : j_X4_readFactor_24 N rsum x1 x2 y0 s = some x) (hx : (fun q => F = pE g none (tS q.2) 0 0) x) : PW g l (pRoom (d + 1) 0 0) M_X4_readFactor F 24 [(0, .ref 27), (1, .int x1), (2, .int x2)] [.int y0] (tS s) 0 0 := by
  unfold j_X4_readFactor_24 at h
  refine PW.istore_n dX4_readFactor_24 rfl (Nat.le_of_ble_eq_true rfl) rfl ?_
  refine PW.iload_n 0 3 dX4_readFactor_25 rfl rfl ?_
  refine PW.if_lt (tgt := 48) dX4_readFactor_26 (by decide) (fun c6 => ?_) (fun c6 => ?_)
  · replace h := ifp h c6
    refine PW.iload_n 3 2 dX4_readFactor_48 rfl rfl ?_
    refine PW.bipush (v := 91) dX4_readFactor_49 (by decide) ?_
    refine PW.icmp_eq (tgt := 73) dX4_readFactor_51 (by decide) (fun c7 => ?_) (fun c7 => ?_)
    · replace h := ifp h c7
      refine PW.iload_n 2 1 dX4_readFactor_73 rfl rfl ?_
      refine PW.bipush (v := 6) dX4_readFactor_74 (by decide) ?_
      refine PW.icmp_lt (tgt := 97) dX4_readFactor_76 (by decide) (fun c8 => ?_) (fun c8 => ?_)
      · replace h := ifp h c8
        refine PW.aload_n 1 0 dX4_readFactor_97 rfl rfl rfl ?_
        refine CW.getr dX4_readFactor_98 fL_X4_9 LA_27 (Or.inl ⟨_, rfl⟩) rfl ?_
        refine PW.bipush (v := 91) dX4_readFactor_101 (by decide) ?_
        obtain ⟨r9, s10, q11, h⟩ := tbnd h
        refine CW.callVv (ci := 9) (st := []) [.int (91 : Int32)] dX4_readFactor_103 (p_X9_pass q11) MV_X9_pass mL_X4_37 (by decide) rfl LA_1 rfl rfl (Nat.le_of_ble_eq_true rfl) (by first | decide | omega) ?_
        refine PW.aload_n 1 0 dX4_readFactor_106 rfl rfl rfl ?_
        refine PW.iload_n 2 1 dX4_readFactor_107 rfl rfl ?_
        refine PW.iconst (v := 1) dX4_readFactor_108 (by decide) ?_
        refine PW.iadd dX4_readFactor_109 ?_
        obtain ⟨r12, s13, q14, h⟩ := obnd h
        refine CW.callVv (ci := 4) (st := []) [.int (x1 + (1 : Int32))] dX4_readFactor_110 (hrsum q14) MV_X4_readSum mL_X4_54 (by decide) rfl LA_27 rfl rfl (Nat.le_of_ble_eq_true rfl) (by first | decide | omega) ?_
        refine PW.aload_n 1 0 dX4_readFactor_113 rfl rfl rfl ?_
        refine CW.getr dX4_readFactor_114 fL_X4_9 LA_27 (Or.inl ⟨_, rfl⟩) rfl ?_
        refine PW.bipush (v := 93) dX4_readFactor_117 (by decide) ?_
        obtain ⟨r15, s16, q17, h⟩ := tbnd h
        refine CW.callVv (ci := 9) (st := []) [.int (93 : Int32)] dX4_readFactor_119 (p_X9_pass q17) MV_X9_pass mL_X4_37 (by decide) rfl LA_1 rfl rfl (Nat.le_of_ble_eq_true rfl) (by first | decide | omega) ?_
        cases h
        subst hx
        exact PW.vret dX4_readFactor_122 rfl (Nat.le_refl 0) (Nat.le_refl 0)
      · replace h := ifn h c8
        refine PW.aload_n 1 0 dX4_readFactor_79 rfl rfl rfl ?_
        refine CW.getr dX4_readFactor_80 fL_X4_9 LA_27 (Or.inl ⟨_, rfl⟩) rfl ?_
        refine PW.iconst (v := 5) dX4_readFactor_83 (by decide) ?_
        refine PW.aload_n 1 0 dX4_readFactor_84 rfl rfl rfl ?_
        refine CW.getr dX4_readFactor_85 fL_X4_9 LA_27 (Or.inl ⟨_, rfl⟩) rfl ?_
        refine CW.callVi (ci := 9) (st := [.int (5 : Int32), .ref 1]) [] dX4_readFactor_88 (p_X9_place rfl) MV_X9_place mL_X4_44 (by decide) rfl LA_1 rfl rfl (Nat.le_of_ble_eq_true rfl) (by first | decide | omega) ?_
        obtain ⟨r19, s20, q21, h⟩ := tbnd h
        refine CW.callVv (ci := 9) (st := []) [.int (5 : Int32), .int (f_X9_place s)] dX4_readFactor_91 (p_X9_fail q21) MV_X9_fail mL_X4_47 (by decide) rfl LA_1 rfl rfl (Nat.le_of_ble_eq_true rfl) (by first | decide | omega) ?_
        refine PW.goto (tgt := 122) dX4_readFactor_94 (by decide) ?_
        cases h
        subst hx
        exact PW.vret dX4_readFactor_122 rfl (Nat.le_refl 0) (Nat.le_refl 0)
    · replace h := ifn h c7
      refine PW.aload_n 1 0 dX4_readFactor_54 rfl rfl rfl ?_
      refine CW.getr dX4_readFactor_55 fL_X4_15 LA_27 (Or.inl ⟨_, rfl⟩) rfl ?_
      refine PW.iconst (v := 1) dX4_readFactor_58 (by decide) ?_
      refine PW.aload_n 1 0 dX4_readFactor_59 rfl rfl rfl ?_
      refine CW.getr dX4_readFactor_60 fL_X4_9 LA_27 (Or.inl ⟨_, rfl⟩) rfl ?_
      refine PW.iconst (v := 5) dX4_readFactor_63 (by decide) ?_
      obtain ⟨r22, s23, q24, h⟩ := obnd h
      refine CW.callVi (ci := 9) (st := [.int (1 : Int32), .ref s.1.2.2]) [.int (5 : Int32)] dX4_readFactor_64 (p_X9_number q24) MV_X9_number mL_X4_102 (by decide) rfl LA_1 rfl rfl (Nat.le_of_ble_eq_true rfl) (by first | decide | omega) ?_
      by_cases c25 : kd s.1.2.2 3
      rotate_left
      · have h := ifn h c25; cases h
      replace h := ifp h c25
      obtain ⟨r26, s27, q28, h⟩ := tbnd h
      refine CW.callVv (ci := 3) (st := []) [.int (1 : Int32), .int r22] dX4_readFactor_67 (p_X3_add c25 q28) MV_X3_add mL_X4_82 (by decide) rfl c25 rfl rfl (Nat.le_of_ble_eq_true rfl) (by first | decide | omega) ?_
      refine PW.goto (tgt := 122) dX4_readFactor_70 (by decide) ?_
      cases h
      subst hx
      exact PW.vret dX4_readFactor_122 rfl (Nat.le_refl 0) (Nat.le_refl 0)
  · replace h := ifn h c6
    refine PW.aload_n 1 0 dX4_readFactor_29 rfl rfl rfl ?_
    refine CW.getr dX4_readFactor_30 fL_X4_9 LA_27 (Or.inl ⟨_, rfl⟩) rfl ?_
    refine PW.iload_n 3 2 dX4_readFactor_33 rfl rfl ?_
    obtain ⟨r29, s30, q31, h⟩ := tbnd h
    refine CW.callVv (ci := 9) (st := []) [.int x2] dX4_readFactor_34 (p_X9_pass q31) MV_X9_pass mL_X4_37 (by decide) rfl LA_1 rfl rfl (Nat.le_of_ble_eq_true rfl) (by first | decide | omega) ?_
    refine PW.aload_n 1 0 dX4_readFactor_37 rfl rfl rfl ?_
    refine CW.getr dX4_readFactor_38 fL_X4_15 LA_27 (Or.inl ⟨_, rfl⟩) rfl ?_
    refine PW.iload_n 0 3 dX4_readFactor_41 rfl rfl ?_
    by_cases c32 : kd s30.1.2.2 3
    rotate_left
    · have h := ifn h c32; cases h
    replace h := ifp h c32
    obtain ⟨r33, s34, q35, h⟩ := tbnd h
    refine CW.callVv (ci := 3) (st := []) [.int y0] dX4_readFactor_42 (p_X3_addLetter c32 q35) MV_X3_addLetter mL_X4_99 (by decide) rfl c32 rfl rfl (Nat.le_of_ble_eq_true rfl) (by first | decide | omega) ?_
    refine PW.goto (tgt := 122) dX4_readFactor_45 (by decide) ?_
    cases h
    subst hx
    exact PW.vret dX4_readFactor_122 rfl (Nat.le_refl 0) (Nat.le_refl 0)
def f_X4_readFactor (N : Nat) (rsum : Int32 → cS → Option (Unit × cS)) (a0 : Int32) (s : cS) : Option (Unit × cS) :=
  if (sgn s) = (-1 : Int32) then
    j_X4_readFactor_24 N rsum a0 (sgn s) (-1 : Int32) s
  else
    ob (f_J0_indexOf_0f7a4 N (((sgn s).toUInt32 % 65536).toInt32) s) fun r3 s4 =>
    j_X4_readFactor_24 N rsum a0 (sgn s) r3 s4
set_option maxRecDepth 20000 in
set_option maxHeartbeats 4000000 in
theorem p_X4_readFactor {g : pG} {l : Launch} {N : Nat} {a0 : Int32} {s : cS} {q : Unit × cS} {rsum : Int32 → cS → Option (Unit × cS)} {d : Nat} {d0 : Nat} (hd : 20 ≤ d) (hd0 : d0 ≤ d) (hrsum : ∀ {o0 : Int32} {s : cS} {q : Unit × cS}, rsum o0 s = some q → PM g l d0 M_X4_readSum [.ref 27, .int o0] (tS s) none (tS q.2) 0 0) (h : f_X4_readFactor N rsum a0 s = some q) : PM g l (d + 1) M_X4_readFactor [.ref 27, .int a0] (tS s) none (tS q.2) 0 0 := by
  refine PM.of (by decide +kernel) (Nat.le_of_ble_eq_true rfl) ?_
  show PW g l (pRoom (d + 1) 0 0) M_X4_readFactor _ 0 [(0, .ref 27), (1, .int a0)] [] (tS s) 0 0
  unfold f_X4_readFactor at h
  generalize hF : pE g none (tS q.2) 0 0 = F
  have hx := hF.symm
  refine PW.aload_n 0 0 dX4_readFactor_0 rfl rfl rfl ?_
  refine CW.getr dX4_readFactor_1 fL_X4_9 LA_27 (Or.inl ⟨_, rfl⟩) rfl ?_
  refine CW.callVi (ci := 9) (st := []) [] dX4_readFactor_4 (ps_sign rfl) MV_X9_sign mL_X4_40 (by decide) rfl LA_1 rfl rfl (Nat.le_of_ble_eq_true rfl) (by first | decide | omega) ?_
  refine PW.istore_n dX4_readFactor_7 rfl (Nat.le_of_ble_eq_true rfl) rfl ?_
  refine PW.iload_n 0 2 dX4_readFactor_8 rfl rfl ?_
  refine PW.iconst (v := (-1)) dX4_readFactor_9 (by decide) ?_
  refine PW.icmp_ne (tgt := 17) dX4_readFactor_10 (by decide) (fun c2 => ?_) (fun c2 => ?_)
  · replace h := ifn h c2
    refine PW.ldcS dX4_readFactor_17 rfl ?_
    refine PW.iload_n 0 2 dX4_readFactor_19 rfl rfl ?_
    refine PW.i2c dX4_readFactor_20 ?_
    obtain ⟨r3, s4, q5, h⟩ := obnd h
    refine CW.callStri (st := []) [.int ((sgn s).toUInt32 % 65536).toInt32] dX4_readFactor_21 (p_J0_indexOf_0f7a4 q5) MV_J0_indexOf_0f7a4 mL_X4_93 rfl rfl rfl (Nat.le_of_ble_eq_true rfl) (by first | decide | omega) ?_
    exact PW.pick [1, 2, 0] rfl (ok_j_X4_readFactor_24 hd hd0 hrsum h hx)
  · replace h := ifp h c2
    refine PW.iconst (v := (-1)) dX4_readFactor_13 (by decide) ?_
    refine PW.goto (tgt := 24) dX4_readFactor_14 (by decide) ?_
    exact PW.pick [1, 2, 0] rfl (ok_j_X4_readFactor_24 hd hd0 hrsum h hx)
/-! X4_readTerm -/
def j_X4_readTerm_40 (rfactor : Int32 → cS → Option (Unit × cS)) (x1 : Int32) (x2 : Int32) (x3 : Int32) (s : cS) : Option (((Int32 × Int32) × cS) ⊕ (Unit × cS)) :=
  tb (f_X9_pass x2 s) fun r7 s8 =>
  ob (rfactor x1 s8) fun r10 s11 =>
  if kd s11.1.2.2 3 then
  tb (f_X3_add s11.1.2.2 x2 (0 : Int32) s11) fun r14 s15 =>
  some (.inl (((sgn s15), (x3 + (1 : Int32))), s15))
  else none
set_option maxRecDepth 20000 in
set_option maxHeartbeats 4000000 in
theorem ok_j_X4_readTerm_40 {g : pG} {l : Launch} {F : pF} {x1 : Int32} {x2 : Int32} {x3 : Int32} {s : cS} {x : (((Int32 × Int32) × cS) ⊕ (Unit × cS))} {rfactor : Int32 → cS → Option (Unit × cS)} {d : Nat} {d0 : Nat} (hd : 20 ≤ d) (hd0 : d0 ≤ d) (hrfactor : ∀ {o0 : Int32} {s : cS} {q : Unit × cS}, rfactor o0 s = some q → PM g l d0 M_X4_readFactor [.ref 27, .int o0] (tS s) none (tS q.2) 0 0) (h : j_X4_readTerm_40 rfactor x1 x2 x3 s = some x) (hx : (KL (fun (v : (Int32 × Int32) × cS) => PW g l (pRoom (d + 1) 0 0) M_X4_readTerm F 15 [(0, .ref 27), (1, .int x1), (2, .int v.1.1), (3, .int v.1.2)] [] (tS v.2) 0 0) (fun q => F = pE g none (tS q.2) 0 0)) x) : PW g l (pRoom (d + 1) 0 0) M_X4_readTerm F 40 [(0, .ref 27), (1, .int x1), (2, .int x2), (3, .int x3)] [] (tS s) 0 0 := by
  unfold j_X4_readTerm_40 at h
  refine PW.aload_n 0 0 dX4_readTerm_40 rfl rfl rfl ?_
  refine CW.getr dX4_readTerm_41 fL_X4_9 LA_27 (Or.inl ⟨_, rfl⟩) rfl ?_
  refine PW.iload_n 2 2 dX4_readTerm_44 rfl rfl ?_
  obtain ⟨r7, s8, q9, h⟩ := tbnd h
  refine CW.callVv (ci := 9) (st := []) [.int x2] dX4_readTerm_45 (p_X9_pass q9) MV_X9_pass mL_X4_37 (by decide) rfl LA_1 rfl rfl (Nat.le_of_ble_eq_true rfl) (by first | decide | omega) ?_
  refine PW.aload_n 0 0 dX4_readTerm_48 rfl rfl rfl ?_
  refine PW.iload_n 1 1 dX4_readTerm_49 rfl rfl ?_
  obtain ⟨r10, s11, q12, h⟩ := obnd h
  refine CW.callVv (ci := 4) (st := []) [.int x1] dX4_readTerm_50 (hrfactor q12) MV_X4_readFactor mL_X4_88 (by decide) rfl LA_27 rfl rfl (Nat.le_of_ble_eq_true rfl) (by first | decide | omega) ?_
  refine PW.aload_n 0 0 dX4_readTerm_53 rfl rfl rfl ?_
  refine CW.getr dX4_readTerm_54 fL_X4_15 LA_27 (Or.inl ⟨_, rfl⟩) rfl ?_
  refine PW.iload_n 2 2 dX4_readTerm_57 rfl rfl ?_
  refine PW.iconst (v := 0) dX4_readTerm_58 (by decide) ?_
  by_cases c13 : kd s11.1.2.2 3
  rotate_left
  · have h := ifn h c13; cases h
  replace h := ifp h c13
  obtain ⟨r14, s15, q16, h⟩ := tbnd h
  refine CW.callVv (ci := 3) (st := []) [.int x2, .int (0 : Int32)] dX4_readTerm_59 (p_X3_add c13 q16) MV_X3_add mL_X4_82 (by decide) rfl c13 rfl rfl (Nat.le_of_ble_eq_true rfl) (by first | decide | omega) ?_
  refine PW.aload_n 0 0 dX4_readTerm_62 rfl rfl rfl ?_
  refine CW.getr dX4_readTerm_63 fL_X4_9 LA_27 (Or.inl ⟨_, rfl⟩) rfl ?_
  refine CW.callVi (ci := 9) (st := []) [] dX4_readTerm_66 (ps_sign rfl) MV_X9_sign mL_X4_40 (by decide) rfl LA_1 rfl rfl (Nat.le_of_ble_eq_true rfl) (by first | decide | omega) ?_
  refine PW.istore_n dX4_readTerm_69 rfl (Nat.le_of_ble_eq_true rfl) rfl ?_
  refine PW.iinc (v := (x3 + (1 : Int32))) 3 dX4_readTerm_70 rfl (by first | rfl | decide) (Nat.le_of_ble_eq_true rfl) rfl ?_
  refine PW.goto (tgt := 15) dX4_readTerm_73 (by decide) ?_
  cases h
  exact PW.pick [2, 3, 1, 0] rfl hx
def b_X4_readTerm_15 (rfactor : Int32 → cS → Option (Unit × cS)) (x1 : Int32) (x2 : Int32) (x3 : Int32) (s : cS) : Option (((Int32 × Int32) × cS) ⊕ (Unit × cS)) :=
  if (160 : Int32) ≤ x3 then
    oR (
      some (((), s)))
  else
    if x2 = (42 : Int32) then
      j_X4_readTerm_40 rfactor x1 x2 x3 s
    else
      if x2 = (47 : Int32) then
        j_X4_readTerm_40 rfactor x1 x2 x3 s
      else
        if x2 = (37 : Int32) then
          j_X4_readTerm_40 rfactor x1 x2 x3 s
        else
          oR (
            some (((), s)))
set_option maxRecDepth 20000 in
set_option maxHeartbeats 4000000 in
theorem ok_b_X4_readTerm_15 {g : pG} {l : Launch} {F : pF} {x1 : Int32} {x2 : Int32} {x3 : Int32} {s : cS} {x : (((Int32 × Int32) × cS) ⊕ (Unit × cS))} {rfactor : Int32 → cS → Option (Unit × cS)} {d : Nat} {d0 : Nat} (hd : 20 ≤ d) (hd0 : d0 ≤ d) (hrfactor : ∀ {o0 : Int32} {s : cS} {q : Unit × cS}, rfactor o0 s = some q → PM g l d0 M_X4_readFactor [.ref 27, .int o0] (tS s) none (tS q.2) 0 0) (h : b_X4_readTerm_15 rfactor x1 x2 x3 s = some x) (hx : (KL (fun (v : (Int32 × Int32) × cS) => PW g l (pRoom (d + 1) 0 0) M_X4_readTerm F 15 [(0, .ref 27), (1, .int x1), (2, .int v.1.1), (3, .int v.1.2)] [] (tS v.2) 0 0) (fun q => F = pE g none (tS q.2) 0 0)) x) : PW g l (pRoom (d + 1) 0 0) M_X4_readTerm F 15 [(0, .ref 27), (1, .int x1), (2, .int x2), (3, .int x3)] [] (tS s) 0 0 := by
  unfold b_X4_readTerm_15 at h
  refine PW.iload_n 3 3 dX4_readTerm_15 rfl rfl ?_
  refine PW.sipush (v := 160) dX4_readTerm_16 (by decide) ?_
  refine PW.icmp_ge (tgt := 76) dX4_readTerm_19 (by decide) (fun c5 => ?_) (fun c5 => ?_)
  · replace h := ifp h c5
    obtain ⟨xo, hy, hxo⟩ := oRb h
    clear h
    subst hxo
    replace hx := KLr hx
    have h := hy
    clear hy
    cases h
    subst hx
    exact PW.vret dX4_readTerm_76 rfl (Nat.le_refl 0) (Nat.le_refl 0)
  · replace h := ifn h c5
    refine PW.iload_n 2 2 dX4_readTerm_22 rfl rfl ?_
    refine PW.bipush (v := 42) dX4_readTerm_23 (by decide) ?_
    refine PW.icmp_eq (tgt := 40) dX4_readTerm_25 (by decide) (fun c6 => ?_) (fun c6 => ?_)
    · replace h := ifp h c6
      exact PW.pick [0, 1, 2, 3] rfl (ok_j_X4_readTerm_40 hd hd0 hrfactor h hx)
    · replace h := ifn h c6
      refine PW.iload_n 2 2 dX4_readTerm_28 rfl rfl ?_
      refine PW.bipush (v := 47) dX4_readTerm_29 (by decide) ?_
      refine PW.icmp_eq (tgt := 40) dX4_readTerm_31 (by decide) (fun c18 => ?_) (fun c18 => ?_)
      · replace h := ifp h c18
        exact PW.pick [0, 1, 2, 3] rfl (ok_j_X4_readTerm_40 hd hd0 hrfactor h hx)
      · replace h := ifn h c18
        refine PW.iload_n 2 2 dX4_readTerm_34 rfl rfl ?_
        refine PW.bipush (v := 37) dX4_readTerm_35 (by decide) ?_
        refine PW.icmp_ne (tgt := 76) dX4_readTerm_37 (by decide) (fun c19 => ?_) (fun c19 => ?_)
        · replace h := ifn h c19
          obtain ⟨xo, hy, hxo⟩ := oRb h
          clear h
          subst hxo
          replace hx := KLr hx
          have h := hy
          clear hy
          cases h
          subst hx
          exact PW.vret dX4_readTerm_76 rfl (Nat.le_refl 0) (Nat.le_refl 0)
        · replace h := ifp h c19
          exact PW.pick [0, 1, 2, 3] rfl (ok_j_X4_readTerm_40 hd hd0 hrfactor h hx)
def w_X4_readTerm_15 (N : Nat) (rfactor : Int32 → cS → Option (Unit × cS)) (x1 : Int32) (x2 : Int32) (x3 : Int32) (s : cS) : Option (Unit × cS) := itr (fun (v : (Int32 × Int32) × cS) => b_X4_readTerm_15 rfactor x1 v.1.1 v.1.2 v.2) N ((x2, x3), s)
theorem ok_w_X4_readTerm_15 {g : pG} {l : Launch} {F : pF} {N : Nat} {x1 : Int32} {x2 : Int32} {x3 : Int32} {s : cS} {x : (Unit × cS)} {rfactor : Int32 → cS → Option (Unit × cS)} {d : Nat} {d0 : Nat} (hd : 20 ≤ d) (hd0 : d0 ≤ d) (hrfactor : ∀ {o0 : Int32} {s : cS} {q : Unit × cS}, rfactor o0 s = some q → PM g l d0 M_X4_readFactor [.ref 27, .int o0] (tS s) none (tS q.2) 0 0) (h : w_X4_readTerm_15 N rfactor x1 x2 x3 s = some x) (hx : (fun q => F = pE g none (tS q.2) 0 0) x) : PW g l (pRoom (d + 1) 0 0) M_X4_readTerm F 15 [(0, .ref 27), (1, .int x1), (2, .int x2), (3, .int x3)] [] (tS s) 0 0 :=
  okIter (P := (fun (v : (Int32 × Int32) × cS) => PW g l (pRoom (d + 1) 0 0) M_X4_readTerm F 15 [(0, .ref 27), (1, .int x1), (2, .int v.1.1), (3, .int v.1.2)] [] (tS v.2) 0 0)) (K := (fun q => F = pE g none (tS q.2) 0 0)) (fun v y hB hy => ok_b_X4_readTerm_15 hd hd0 hrfactor hB hy) N ((x2, x3), s) x h hx
def f_X4_readTerm (N : Nat) (rfactor : Int32 → cS → Option (Unit × cS)) (a0 : Int32) (s : cS) : Option (Unit × cS) :=
  ob (rfactor a0 s) fun r1 s2 =>
  w_X4_readTerm_15 N rfactor a0 (sgn s2) (0 : Int32) s2
set_option maxRecDepth 20000 in
set_option maxHeartbeats 4000000 in
theorem p_X4_readTerm {g : pG} {l : Launch} {N : Nat} {a0 : Int32} {s : cS} {q : Unit × cS} {rfactor : Int32 → cS → Option (Unit × cS)} {d : Nat} {d0 : Nat} (hd : 20 ≤ d) (hd0 : d0 ≤ d) (hrfactor : ∀ {o0 : Int32} {s : cS} {q : Unit × cS}, rfactor o0 s = some q → PM g l d0 M_X4_readFactor [.ref 27, .int o0] (tS s) none (tS q.2) 0 0) (h : f_X4_readTerm N rfactor a0 s = some q) : PM g l (d + 1) M_X4_readTerm [.ref 27, .int a0] (tS s) none (tS q.2) 0 0 := by
  refine PM.of (by decide +kernel) (Nat.le_of_ble_eq_true rfl) ?_
  show PW g l (pRoom (d + 1) 0 0) M_X4_readTerm _ 0 [(0, .ref 27), (1, .int a0)] [] (tS s) 0 0
  unfold f_X4_readTerm at h
  generalize hF : pE g none (tS q.2) 0 0 = F
  have hx := hF.symm
  refine PW.aload_n 0 0 dX4_readTerm_0 rfl rfl rfl ?_
  refine PW.iload_n 1 1 dX4_readTerm_1 rfl rfl ?_
  obtain ⟨r1, s2, q3, h⟩ := obnd h
  refine CW.callVv (ci := 4) (st := []) [.int a0] dX4_readTerm_2 (hrfactor q3) MV_X4_readFactor mL_X4_88 (by decide) rfl LA_27 rfl rfl (Nat.le_of_ble_eq_true rfl) (by first | decide | omega) ?_
  refine PW.aload_n 0 0 dX4_readTerm_5 rfl rfl rfl ?_
  refine CW.getr dX4_readTerm_6 fL_X4_9 LA_27 (Or.inl ⟨_, rfl⟩) rfl ?_
  refine CW.callVi (ci := 9) (st := []) [] dX4_readTerm_9 (ps_sign rfl) MV_X9_sign mL_X4_40 (by decide) rfl LA_1 rfl rfl (Nat.le_of_ble_eq_true rfl) (by first | decide | omega) ?_
  refine PW.istore_n dX4_readTerm_12 rfl (Nat.le_of_ble_eq_true rfl) rfl ?_
  refine PW.iconst (v := 0) dX4_readTerm_13 (by decide) ?_
  refine PW.istore_n dX4_readTerm_14 rfl (Nat.le_of_ble_eq_true rfl) rfl ?_
  exact PW.pick [2, 3, 1, 0] rfl (ok_w_X4_readTerm_15 hd hd0 hrfactor h hx)
/-! X4_readSum -/
def j_X4_readSum_34 (rterm : Int32 → cS → Option (Unit × cS)) (x1 : Int32) (x2 : Int32) (x3 : Int32) (s : cS) : Option (((Int32 × Int32) × cS) ⊕ (Unit × cS)) :=
  tb (f_X9_pass x2 s) fun r7 s8 =>
  ob (rterm x1 s8) fun r10 s11 =>
  if kd s11.1.2.2 3 then
  tb (f_X3_add s11.1.2.2 x2 (0 : Int32) s11) fun r14 s15 =>
  some (.inl (((sgn s15), (x3 + (1 : Int32))), s15))
  else none
set_option maxRecDepth 20000 in
set_option maxHeartbeats 4000000 in
theorem ok_j_X4_readSum_34 {g : pG} {l : Launch} {F : pF} {x1 : Int32} {x2 : Int32} {x3 : Int32} {s : cS} {x : (((Int32 × Int32) × cS) ⊕ (Unit × cS))} {rterm : Int32 → cS → Option (Unit × cS)} {d : Nat} {d0 : Nat} (hd : 20 ≤ d) (hd0 : d0 ≤ d) (hrterm : ∀ {o0 : Int32} {s : cS} {q : Unit × cS}, rterm o0 s = some q → PM g l d0 M_X4_readTerm [.ref 27, .int o0] (tS s) none (tS q.2) 0 0) (h : j_X4_readSum_34 rterm x1 x2 x3 s = some x) (hx : (KL (fun (v : (Int32 × Int32) × cS) => PW g l (pRoom (d + 1) 0 0) M_X4_readSum F 15 [(0, .ref 27), (1, .int x1), (2, .int v.1.1), (3, .int v.1.2)] [] (tS v.2) 0 0) (fun q => F = pE g none (tS q.2) 0 0)) x) : PW g l (pRoom (d + 1) 0 0) M_X4_readSum F 34 [(0, .ref 27), (1, .int x1), (2, .int x2), (3, .int x3)] [] (tS s) 0 0 := by
  unfold j_X4_readSum_34 at h
  refine PW.aload_n 0 0 dX4_readSum_34 rfl rfl rfl ?_
  refine CW.getr dX4_readSum_35 fL_X4_9 LA_27 (Or.inl ⟨_, rfl⟩) rfl ?_
  refine PW.iload_n 2 2 dX4_readSum_38 rfl rfl ?_
  obtain ⟨r7, s8, q9, h⟩ := tbnd h
  refine CW.callVv (ci := 9) (st := []) [.int x2] dX4_readSum_39 (p_X9_pass q9) MV_X9_pass mL_X4_37 (by decide) rfl LA_1 rfl rfl (Nat.le_of_ble_eq_true rfl) (by first | decide | omega) ?_
  refine PW.aload_n 0 0 dX4_readSum_42 rfl rfl rfl ?_
  refine PW.iload_n 1 1 dX4_readSum_43 rfl rfl ?_
  obtain ⟨r10, s11, q12, h⟩ := obnd h
  refine CW.callVv (ci := 4) (st := []) [.int x1] dX4_readSum_44 (hrterm q12) MV_X4_readTerm mL_X4_85 (by decide) rfl LA_27 rfl rfl (Nat.le_of_ble_eq_true rfl) (by first | decide | omega) ?_
  refine PW.aload_n 0 0 dX4_readSum_47 rfl rfl rfl ?_
  refine CW.getr dX4_readSum_48 fL_X4_15 LA_27 (Or.inl ⟨_, rfl⟩) rfl ?_
  refine PW.iload_n 2 2 dX4_readSum_51 rfl rfl ?_
  refine PW.iconst (v := 0) dX4_readSum_52 (by decide) ?_
  by_cases c13 : kd s11.1.2.2 3
  rotate_left
  · have h := ifn h c13; cases h
  replace h := ifp h c13
  obtain ⟨r14, s15, q16, h⟩ := tbnd h
  refine CW.callVv (ci := 3) (st := []) [.int x2, .int (0 : Int32)] dX4_readSum_53 (p_X3_add c13 q16) MV_X3_add mL_X4_82 (by decide) rfl c13 rfl rfl (Nat.le_of_ble_eq_true rfl) (by first | decide | omega) ?_
  refine PW.aload_n 0 0 dX4_readSum_56 rfl rfl rfl ?_
  refine CW.getr dX4_readSum_57 fL_X4_9 LA_27 (Or.inl ⟨_, rfl⟩) rfl ?_
  refine CW.callVi (ci := 9) (st := []) [] dX4_readSum_60 (ps_sign rfl) MV_X9_sign mL_X4_40 (by decide) rfl LA_1 rfl rfl (Nat.le_of_ble_eq_true rfl) (by first | decide | omega) ?_
  refine PW.istore_n dX4_readSum_63 rfl (Nat.le_of_ble_eq_true rfl) rfl ?_
  refine PW.iinc (v := (x3 + (1 : Int32))) 3 dX4_readSum_64 rfl (by first | rfl | decide) (Nat.le_of_ble_eq_true rfl) rfl ?_
  refine PW.goto (tgt := 15) dX4_readSum_67 (by decide) ?_
  cases h
  exact PW.pick [2, 3, 1, 0] rfl hx
def b_X4_readSum_15 (rterm : Int32 → cS → Option (Unit × cS)) (x1 : Int32) (x2 : Int32) (x3 : Int32) (s : cS) : Option (((Int32 × Int32) × cS) ⊕ (Unit × cS)) :=
  if (160 : Int32) ≤ x3 then
    oR (
      some (((), s)))
  else
    if x2 = (43 : Int32) then
      j_X4_readSum_34 rterm x1 x2 x3 s
    else
      if x2 = (45 : Int32) then
        j_X4_readSum_34 rterm x1 x2 x3 s
      else
        oR (
          some (((), s)))
set_option maxRecDepth 20000 in
set_option maxHeartbeats 4000000 in
theorem ok_b_X4_readSum_15 {g : pG} {l : Launch} {F : pF} {x1 : Int32} {x2 : Int32} {x3 : Int32} {s : cS} {x : (((Int32 × Int32) × cS) ⊕ (Unit × cS))} {rterm : Int32 → cS → Option (Unit × cS)} {d : Nat} {d0 : Nat} (hd : 20 ≤ d) (hd0 : d0 ≤ d) (hrterm : ∀ {o0 : Int32} {s : cS} {q : Unit × cS}, rterm o0 s = some q → PM g l d0 M_X4_readTerm [.ref 27, .int o0] (tS s) none (tS q.2) 0 0) (h : b_X4_readSum_15 rterm x1 x2 x3 s = some x) (hx : (KL (fun (v : (Int32 × Int32) × cS) => PW g l (pRoom (d + 1) 0 0) M_X4_readSum F 15 [(0, .ref 27), (1, .int x1), (2, .int v.1.1), (3, .int v.1.2)] [] (tS v.2) 0 0) (fun q => F = pE g none (tS q.2) 0 0)) x) : PW g l (pRoom (d + 1) 0 0) M_X4_readSum F 15 [(0, .ref 27), (1, .int x1), (2, .int x2), (3, .int x3)] [] (tS s) 0 0 := by
  unfold b_X4_readSum_15 at h
  refine PW.iload_n 3 3 dX4_readSum_15 rfl rfl ?_
  refine PW.sipush (v := 160) dX4_readSum_16 (by decide) ?_
  refine PW.icmp_ge (tgt := 70) dX4_readSum_19 (by decide) (fun c5 => ?_) (fun c5 => ?_)
  · replace h := ifp h c5
    obtain ⟨xo, hy, hxo⟩ := oRb h
    clear h
    subst hxo
    replace hx := KLr hx
    have h := hy
    clear hy
    cases h
    subst hx
    exact PW.vret dX4_readSum_70 rfl (Nat.le_refl 0) (Nat.le_refl 0)
  · replace h := ifn h c5
    refine PW.iload_n 2 2 dX4_readSum_22 rfl rfl ?_
    refine PW.bipush (v := 43) dX4_readSum_23 (by decide) ?_
    refine PW.icmp_eq (tgt := 34) dX4_readSum_25 (by decide) (fun c6 => ?_) (fun c6 => ?_)
    · replace h := ifp h c6
      exact PW.pick [0, 1, 2, 3] rfl (ok_j_X4_readSum_34 hd hd0 hrterm h hx)
    · replace h := ifn h c6
      refine PW.iload_n 2 2 dX4_readSum_28 rfl rfl ?_
      refine PW.bipush (v := 45) dX4_readSum_29 (by decide) ?_
      refine PW.icmp_ne (tgt := 70) dX4_readSum_31 (by decide) (fun c18 => ?_) (fun c18 => ?_)
      · replace h := ifn h c18
        obtain ⟨xo, hy, hxo⟩ := oRb h
        clear h
        subst hxo
        replace hx := KLr hx
        have h := hy
        clear hy
        cases h
        subst hx
        exact PW.vret dX4_readSum_70 rfl (Nat.le_refl 0) (Nat.le_refl 0)
      · replace h := ifp h c18
        exact PW.pick [0, 1, 2, 3] rfl (ok_j_X4_readSum_34 hd hd0 hrterm h hx)
def w_X4_readSum_15 (N : Nat) (rterm : Int32 → cS → Option (Unit × cS)) (x1 : Int32) (x2 : Int32) (x3 : Int32) (s : cS) : Option (Unit × cS) := itr (fun (v : (Int32 × Int32) × cS) => b_X4_readSum_15 rterm x1 v.1.1 v.1.2 v.2) N ((x2, x3), s)
theorem ok_w_X4_readSum_15 {g : pG} {l : Launch} {F : pF} {N : Nat} {x1 : Int32} {x2 : Int32} {x3 : Int32} {s : cS} {x : (Unit × cS)} {rterm : Int32 → cS → Option (Unit × cS)} {d : Nat} {d0 : Nat} (hd : 20 ≤ d) (hd0 : d0 ≤ d) (hrterm : ∀ {o0 : Int32} {s : cS} {q : Unit × cS}, rterm o0 s = some q → PM g l d0 M_X4_readTerm [.ref 27, .int o0] (tS s) none (tS q.2) 0 0) (h : w_X4_readSum_15 N rterm x1 x2 x3 s = some x) (hx : (fun q => F = pE g none (tS q.2) 0 0) x) : PW g l (pRoom (d + 1) 0 0) M_X4_readSum F 15 [(0, .ref 27), (1, .int x1), (2, .int x2), (3, .int x3)] [] (tS s) 0 0 :=
  okIter (P := (fun (v : (Int32 × Int32) × cS) => PW g l (pRoom (d + 1) 0 0) M_X4_readSum F 15 [(0, .ref 27), (1, .int x1), (2, .int v.1.1), (3, .int v.1.2)] [] (tS v.2) 0 0)) (K := (fun q => F = pE g none (tS q.2) 0 0)) (fun v y hB hy => ok_b_X4_readSum_15 hd hd0 hrterm hB hy) N ((x2, x3), s) x h hx
def f_X4_readSum (N : Nat) (rterm : Int32 → cS → Option (Unit × cS)) (a0 : Int32) (s : cS) : Option (Unit × cS) :=
  ob (rterm a0 s) fun r1 s2 =>
  w_X4_readSum_15 N rterm a0 (sgn s2) (0 : Int32) s2
set_option maxRecDepth 20000 in
set_option maxHeartbeats 4000000 in
theorem p_X4_readSum {g : pG} {l : Launch} {N : Nat} {a0 : Int32} {s : cS} {q : Unit × cS} {rterm : Int32 → cS → Option (Unit × cS)} {d : Nat} {d0 : Nat} (hd : 20 ≤ d) (hd0 : d0 ≤ d) (hrterm : ∀ {o0 : Int32} {s : cS} {q : Unit × cS}, rterm o0 s = some q → PM g l d0 M_X4_readTerm [.ref 27, .int o0] (tS s) none (tS q.2) 0 0) (h : f_X4_readSum N rterm a0 s = some q) : PM g l (d + 1) M_X4_readSum [.ref 27, .int a0] (tS s) none (tS q.2) 0 0 := by
  refine PM.of (by decide +kernel) (Nat.le_of_ble_eq_true rfl) ?_
  show PW g l (pRoom (d + 1) 0 0) M_X4_readSum _ 0 [(0, .ref 27), (1, .int a0)] [] (tS s) 0 0
  unfold f_X4_readSum at h
  generalize hF : pE g none (tS q.2) 0 0 = F
  have hx := hF.symm
  refine PW.aload_n 0 0 dX4_readSum_0 rfl rfl rfl ?_
  refine PW.iload_n 1 1 dX4_readSum_1 rfl rfl ?_
  obtain ⟨r1, s2, q3, h⟩ := obnd h
  refine CW.callVv (ci := 4) (st := []) [.int a0] dX4_readSum_2 (hrterm q3) MV_X4_readTerm mL_X4_85 (by decide) rfl LA_27 rfl rfl (Nat.le_of_ble_eq_true rfl) (by first | decide | omega) ?_
  refine PW.aload_n 0 0 dX4_readSum_5 rfl rfl rfl ?_
  refine CW.getr dX4_readSum_6 fL_X4_9 LA_27 (Or.inl ⟨_, rfl⟩) rfl ?_
  refine CW.callVi (ci := 9) (st := []) [] dX4_readSum_9 (ps_sign rfl) MV_X9_sign mL_X4_40 (by decide) rfl LA_1 rfl rfl (Nat.le_of_ble_eq_true rfl) (by first | decide | omega) ?_
  refine PW.istore_n dX4_readSum_12 rfl (Nat.le_of_ble_eq_true rfl) rfl ?_
  refine PW.iconst (v := 0) dX4_readSum_13 (by decide) ?_
  refine PW.istore_n dX4_readSum_14 rfl (Nat.le_of_ble_eq_true rfl) rfl ?_
  exact PW.pick [2, 3, 1, 0] rfl (ok_w_X4_readSum_15 hd hd0 hrterm h hx)
/-! X4_readInside -/
def f_X4_readInside (rpiece : Int32 → cS → Option (Unit × cS)) (rchoice : Int32 → cS → Option (Unit × cS)) (a0 : Int32) (a1 : Int32) (s : cS) : Option (Unit × cS) :=
  if a1 < (6 : Int32) then
    tb (f_X9_pass a0 s) fun r2 s3 =>
    if a0 = (33 : Int32) then
      ob (rpiece (a1 + (1 : Int32)) s3) fun r12 s13 =>
      if kd s13.1.2.2 3 then
      tb (f_X3_add s13.1.2.2 (3 : Int32) (0 : Int32) s13) fun r16 s17 =>
      some (((), s17))
      else none
    else
      ob (rchoice (a1 + (1 : Int32)) s3) fun r6 s7 =>
      tb (f_X9_pass (41 : Int32) s7) fun r9 s10 =>
      some (((), s10))
  else
    tb (f_X9_fail (5 : Int32) (f_X9_place s) s) fun r20 s21 =>
    some (((), s21))
set_option maxRecDepth 20000 in
set_option maxHeartbeats 4000000 in
theorem p_X4_readInside {g : pG} {l : Launch} {a0 : Int32} {a1 : Int32} {s : cS} {q : Unit × cS} {rpiece : Int32 → cS → Option (Unit × cS)} {rchoice : Int32 → cS → Option (Unit × cS)} {d : Nat} {d0 : Nat} {d1 : Nat} (hd : 20 ≤ d) (hd0 : d0 ≤ d) (hd1 : d1 ≤ d) (hrpiece : ∀ {o0 : Int32} {s : cS} {q : Unit × cS}, rpiece o0 s = some q → PM g l d0 M_X4_readPiece [.ref 27, .int o0] (tS s) none (tS q.2) 0 0) (hrchoice : ∀ {o0 : Int32} {s : cS} {q : Unit × cS}, rchoice o0 s = some q → PM g l d1 M_X4_readChoice [.ref 27, .int o0] (tS s) none (tS q.2) 0 0) (h : f_X4_readInside rpiece rchoice a0 a1 s = some q) : PM g l (d + 1) M_X4_readInside [.ref 27, .int a0, .int a1] (tS s) none (tS q.2) 0 0 := by
  refine PM.of (by decide +kernel) (Nat.le_of_ble_eq_true rfl) ?_
  show PW g l (pRoom (d + 1) 0 0) M_X4_readInside _ 0 [(0, .ref 27), (1, .int a0), (2, .int a1)] [] (tS s) 0 0
  unfold f_X4_readInside at h
  generalize hF : pE g none (tS q.2) 0 0 = F
  have hx := hF.symm
  refine PW.iload_n 2 2 dX4_readInside_0 rfl rfl ?_
  refine PW.bipush (v := 6) dX4_readInside_1 (by decide) ?_
  refine PW.icmp_lt (tgt := 22) dX4_readInside_3 (by decide) (fun c1 => ?_) (fun c1 => ?_)
  · replace h := ifp h c1
    refine PW.aload_n 0 0 dX4_readInside_22 rfl rfl rfl ?_
    refine CW.getr dX4_readInside_23 fL_X4_9 LA_27 (Or.inl ⟨_, rfl⟩) rfl ?_
    refine PW.iload_n 1 1 dX4_readInside_26 rfl rfl ?_
    obtain ⟨r2, s3, q4, h⟩ := tbnd h
    refine CW.callVv (ci := 9) (st := []) [.int a0] dX4_readInside_27 (p_X9_pass q4) MV_X9_pass mL_X4_37 (by decide) rfl LA_1 rfl rfl (Nat.le_of_ble_eq_true rfl) (by first | decide | omega) ?_
    refine PW.iload_n 1 1 dX4_readInside_30 rfl rfl ?_
    refine PW.bipush (v := 33) dX4_readInside_31 (by decide) ?_
    refine PW.icmp_ne (tgt := 55) dX4_readInside_33 (by decide) (fun c5 => ?_) (fun c5 => ?_)
    · replace h := ifn h c5
      refine PW.aload_n 0 0 dX4_readInside_55 rfl rfl rfl ?_
      refine PW.iload_n 2 2 dX4_readInside_56 rfl rfl ?_
      refine PW.iconst (v := 1) dX4_readInside_57 (by decide) ?_
      refine PW.iadd dX4_readInside_58 ?_
      obtain ⟨r6, s7, q8, h⟩ := obnd h
      refine CW.callVv (ci := 4) (st := []) [.int (a1 + (1 : Int32))] dX4_readInside_59 (hrchoice q8) MV_X4_readChoice mL_X4_60 (by decide) rfl LA_27 rfl rfl (Nat.le_of_ble_eq_true rfl) (by first | decide | omega) ?_
      refine PW.aload_n 0 0 dX4_readInside_62 rfl rfl rfl ?_
      refine CW.getr dX4_readInside_63 fL_X4_9 LA_27 (Or.inl ⟨_, rfl⟩) rfl ?_
      refine PW.bipush (v := 41) dX4_readInside_66 (by decide) ?_
      obtain ⟨r9, s10, q11, h⟩ := tbnd h
      refine CW.callVv (ci := 9) (st := []) [.int (41 : Int32)] dX4_readInside_68 (p_X9_pass q11) MV_X9_pass mL_X4_37 (by decide) rfl LA_1 rfl rfl (Nat.le_of_ble_eq_true rfl) (by first | decide | omega) ?_
      cases h
      subst hx
      exact PW.vret dX4_readInside_71 rfl (Nat.le_refl 0) (Nat.le_refl 0)
    · replace h := ifp h c5
      refine PW.aload_n 0 0 dX4_readInside_36 rfl rfl rfl ?_
      refine PW.iload_n 2 2 dX4_readInside_37 rfl rfl ?_
      refine PW.iconst (v := 1) dX4_readInside_38 (by decide) ?_
      refine PW.iadd dX4_readInside_39 ?_
      obtain ⟨r12, s13, q14, h⟩ := obnd h
      refine CW.callVv (ci := 4) (st := []) [.int (a1 + (1 : Int32))] dX4_readInside_40 (hrpiece q14) MV_X4_readPiece mL_X4_76 (by decide) rfl LA_27 rfl rfl (Nat.le_of_ble_eq_true rfl) (by first | decide | omega) ?_
      refine PW.aload_n 0 0 dX4_readInside_43 rfl rfl rfl ?_
      refine CW.getr dX4_readInside_44 fL_X4_15 LA_27 (Or.inl ⟨_, rfl⟩) rfl ?_
      refine PW.iconst (v := 3) dX4_readInside_47 (by decide) ?_
      refine PW.iconst (v := 0) dX4_readInside_48 (by decide) ?_
      by_cases c15 : kd s13.1.2.2 3
      rotate_left
      · have h := ifn h c15; cases h
      replace h := ifp h c15
      obtain ⟨r16, s17, q18, h⟩ := tbnd h
      refine CW.callVv (ci := 3) (st := []) [.int (3 : Int32), .int (0 : Int32)] dX4_readInside_49 (p_X3_add c15 q18) MV_X3_add mL_X4_82 (by decide) rfl c15 rfl rfl (Nat.le_of_ble_eq_true rfl) (by first | decide | omega) ?_
      refine PW.goto (tgt := 71) dX4_readInside_52 (by decide) ?_
      cases h
      subst hx
      exact PW.vret dX4_readInside_71 rfl (Nat.le_refl 0) (Nat.le_refl 0)
  · replace h := ifn h c1
    refine PW.aload_n 0 0 dX4_readInside_6 rfl rfl rfl ?_
    refine CW.getr dX4_readInside_7 fL_X4_9 LA_27 (Or.inl ⟨_, rfl⟩) rfl ?_
    refine PW.iconst (v := 5) dX4_readInside_10 (by decide) ?_
    refine PW.aload_n 0 0 dX4_readInside_11 rfl rfl rfl ?_
    refine CW.getr dX4_readInside_12 fL_X4_9 LA_27 (Or.inl ⟨_, rfl⟩) rfl ?_
    refine CW.callVi (ci := 9) (st := [.int (5 : Int32), .ref 1]) [] dX4_readInside_15 (p_X9_place rfl) MV_X9_place mL_X4_44 (by decide) rfl LA_1 rfl rfl (Nat.le_of_ble_eq_true rfl) (by first | decide | omega) ?_
    obtain ⟨r20, s21, q22, h⟩ := tbnd h
    refine CW.callVv (ci := 9) (st := []) [.int (5 : Int32), .int (f_X9_place s)] dX4_readInside_18 (p_X9_fail q22) MV_X9_fail mL_X4_47 (by decide) rfl LA_1 rfl rfl (Nat.le_of_ble_eq_true rfl) (by first | decide | omega) ?_
    cases h
    subst hx
    exact PW.vret dX4_readInside_21 rfl (Nat.le_refl 0) (Nat.le_refl 0)
/-! X4_readPiece -/
def j_X4_readPiece_20 (rinside : Int32 → Int32 → cS → Option (Unit × cS)) (rsum : Int32 → cS → Option (Unit × cS)) (x1 : Int32) (x2 : Int32) (s : cS) : Option (Unit × cS) :=
  ob (rinside x2 x1 s) fun r3 s4 =>
  some (((), s4))
set_option maxRecDepth 20000 in
set_option maxHeartbeats 4000000 in
theorem ok_j_X4_readPiece_20 {g : pG} {l : Launch} {F : pF} {x1 : Int32} {x2 : Int32} {s : cS} {x : (Unit × cS)} {rinside : Int32 → Int32 → cS → Option (Unit × cS)} {rsum : Int32 → cS → Option (Unit × cS)} {d : Nat} {d0 : Nat} {d1 : Nat} (hd : 20 ≤ d) (hd0 : d0 ≤ d) (hd1 : d1 ≤ d) (hrinside : ∀ {o0 o1 : Int32} {s : cS} {q : Unit × cS}, rinside o0 o1 s = some q → PM g l d0 M_X4_readInside [.ref 27, .int o0, .int o1] (tS s) none (tS q.2) 0 0) (hrsum : ∀ {o0 : Int32} {s : cS} {q : Unit × cS}, rsum o0 s = some q → PM g l d1 M_X4_readSum [.ref 27, .int o0] (tS s) none (tS q.2) 0 0) (h : j_X4_readPiece_20 rinside rsum x1 x2 s = some x) (hx : (fun q => F = pE g none (tS q.2) 0 0) x) : PW g l (pRoom (d + 1) 0 0) M_X4_readPiece F 20 [(0, .ref 27), (1, .int x1), (2, .int x2)] [] (tS s) 0 0 := by
  unfold j_X4_readPiece_20 at h
  refine PW.aload_n 0 0 dX4_readPiece_20 rfl rfl rfl ?_
  refine PW.iload_n 2 2 dX4_readPiece_21 rfl rfl ?_
  refine PW.iload_n 1 1 dX4_readPiece_22 rfl rfl ?_
  obtain ⟨r3, s4, q5, h⟩ := obnd h
  refine CW.callVv (ci := 4) (st := []) [.int x2, .int x1] dX4_readPiece_23 (hrinside q5) MV_X4_readInside mL_X4_79 (by decide) rfl LA_27 rfl rfl (Nat.le_of_ble_eq_true rfl) (by first | decide | omega) ?_
  cases h
  subst hx
  exact PW.vret dX4_readPiece_26 rfl (Nat.le_refl 0) (Nat.le_refl 0)
def j_X4_readPiece_74 (rinside : Int32 → Int32 → cS → Option (Unit × cS)) (rsum : Int32 → cS → Option (Unit × cS)) (x1 : Int32) (x3 : Int32) (s : cS) : Option (Unit × cS) :=
  tb (f_X9_pass x3 s) fun r12 s13 =>
  ob (rsum x1 s13) fun r15 s16 =>
  if kd s16.1.2.2 3 then
  tb (f_X3_add s16.1.2.2 x3 (0 : Int32) s16) fun r19 s20 =>
  some (((), s20))
  else none
set_option maxRecDepth 20000 in
set_option maxHeartbeats 4000000 in
theorem ok_j_X4_readPiece_74 {g : pG} {l : Launch} {F : pF} {x1 : Int32} {x3 : Int32} {s : cS} {x : (Unit × cS)} {rinside : Int32 → Int32 → cS → Option (Unit × cS)} {rsum : Int32 → cS → Option (Unit × cS)} {d : Nat} {d0 : Nat} {d1 : Nat} (hd : 20 ≤ d) (hd0 : d0 ≤ d) (hd1 : d1 ≤ d) (hrinside : ∀ {o0 o1 : Int32} {s : cS} {q : Unit × cS}, rinside o0 o1 s = some q → PM g l d0 M_X4_readInside [.ref 27, .int o0, .int o1] (tS s) none (tS q.2) 0 0) (hrsum : ∀ {o0 : Int32} {s : cS} {q : Unit × cS}, rsum o0 s = some q → PM g l d1 M_X4_readSum [.ref 27, .int o0] (tS s) none (tS q.2) 0 0) (h : j_X4_readPiece_74 rinside rsum x1 x3 s = some x) (hx : (fun q => F = pE g none (tS q.2) 0 0) x) : PW g l (pRoom (d + 1) 0 0) M_X4_readPiece F 74 [(0, .ref 27), (1, .int x1), (3, .int x3)] [] (tS s) 0 0 := by
  unfold j_X4_readPiece_74 at h
  refine PW.aload_n 0 0 dX4_readPiece_74 rfl rfl rfl ?_
  refine CW.getr dX4_readPiece_75 fL_X4_9 LA_27 (Or.inl ⟨_, rfl⟩) rfl ?_
  refine PW.iload_n 2 3 dX4_readPiece_78 rfl rfl ?_
  obtain ⟨r12, s13, q14, h⟩ := tbnd h
  refine CW.callVv (ci := 9) (st := []) [.int x3] dX4_readPiece_79 (p_X9_pass q14) MV_X9_pass mL_X4_37 (by decide) rfl LA_1 rfl rfl (Nat.le_of_ble_eq_true rfl) (by first | decide | omega) ?_
  refine PW.aload_n 0 0 dX4_readPiece_82 rfl rfl rfl ?_
  refine PW.iload_n 1 1 dX4_readPiece_83 rfl rfl ?_
  obtain ⟨r15, s16, q17, h⟩ := obnd h
  refine CW.callVv (ci := 4) (st := []) [.int x1] dX4_readPiece_84 (hrsum q17) MV_X4_readSum mL_X4_54 (by decide) rfl LA_27 rfl rfl (Nat.le_of_ble_eq_true rfl) (by first | decide | omega) ?_
  refine PW.aload_n 0 0 dX4_readPiece_87 rfl rfl rfl ?_
  refine CW.getr dX4_readPiece_88 fL_X4_15 LA_27 (Or.inl ⟨_, rfl⟩) rfl ?_
  refine PW.iload_n 2 3 dX4_readPiece_91 rfl rfl ?_
  refine PW.iconst (v := 0) dX4_readPiece_92 (by decide) ?_
  by_cases c18 : kd s16.1.2.2 3
  rotate_left
  · have h := ifn h c18; cases h
  replace h := ifp h c18
  obtain ⟨r19, s20, q21, h⟩ := tbnd h
  refine CW.callVv (ci := 3) (st := []) [.int x3, .int (0 : Int32)] dX4_readPiece_93 (p_X3_add c18 q21) MV_X3_add mL_X4_82 (by decide) rfl c18 rfl rfl (Nat.le_of_ble_eq_true rfl) (by first | decide | omega) ?_
  cases h
  subst hx
  exact PW.vret dX4_readPiece_96 rfl (Nat.le_refl 0) (Nat.le_refl 0)
def f_X4_readPiece (rinside : Int32 → Int32 → cS → Option (Unit × cS)) (rsum : Int32 → cS → Option (Unit × cS)) (a0 : Int32) (s : cS) : Option (Unit × cS) :=
  if (sgn s) = (33 : Int32) then
    j_X4_readPiece_20 rinside rsum a0 (sgn s) s
  else
    if (sgn s) = (40 : Int32) then
      j_X4_readPiece_20 rinside rsum a0 (sgn s) s
    else
      ob (rsum a0 s) fun r7 s8 =>
      if (sgn s8) = (60 : Int32) then
        j_X4_readPiece_74 rinside rsum a0 (sgn s8) s8
      else
        if (sgn s8) = (62 : Int32) then
          j_X4_readPiece_74 rinside rsum a0 (sgn s8) s8
        else
          if (sgn s8) = (61 : Int32) then
            j_X4_readPiece_74 rinside rsum a0 (sgn s8) s8
          else
            tb (f_X9_fail (1 : Int32) (f_X9_place s8) s8) fun r25 s26 =>
            some (((), s26))
set_option maxRecDepth 20000 in
set_option maxHeartbeats 4000000 in
theorem p_X4_readPiece {g : pG} {l : Launch} {a0 : Int32} {s : cS} {q : Unit × cS} {rinside : Int32 → Int32 → cS → Option (Unit × cS)} {rsum : Int32 → cS → Option (Unit × cS)} {d : Nat} {d0 : Nat} {d1 : Nat} (hd : 20 ≤ d) (hd0 : d0 ≤ d) (hd1 : d1 ≤ d) (hrinside : ∀ {o0 o1 : Int32} {s : cS} {q : Unit × cS}, rinside o0 o1 s = some q → PM g l d0 M_X4_readInside [.ref 27, .int o0, .int o1] (tS s) none (tS q.2) 0 0) (hrsum : ∀ {o0 : Int32} {s : cS} {q : Unit × cS}, rsum o0 s = some q → PM g l d1 M_X4_readSum [.ref 27, .int o0] (tS s) none (tS q.2) 0 0) (h : f_X4_readPiece rinside rsum a0 s = some q) : PM g l (d + 1) M_X4_readPiece [.ref 27, .int a0] (tS s) none (tS q.2) 0 0 := by
  refine PM.of (by decide +kernel) (Nat.le_of_ble_eq_true rfl) ?_
  show PW g l (pRoom (d + 1) 0 0) M_X4_readPiece _ 0 [(0, .ref 27), (1, .int a0)] [] (tS s) 0 0
  unfold f_X4_readPiece at h
  generalize hF : pE g none (tS q.2) 0 0 = F
  have hx := hF.symm
  refine PW.aload_n 0 0 dX4_readPiece_0 rfl rfl rfl ?_
  refine CW.getr dX4_readPiece_1 fL_X4_9 LA_27 (Or.inl ⟨_, rfl⟩) rfl ?_
  refine CW.callVi (ci := 9) (st := []) [] dX4_readPiece_4 (ps_sign rfl) MV_X9_sign mL_X4_40 (by decide) rfl LA_1 rfl rfl (Nat.le_of_ble_eq_true rfl) (by first | decide | omega) ?_
  refine PW.istore_n dX4_readPiece_7 rfl (Nat.le_of_ble_eq_true rfl) rfl ?_
  refine PW.iload_n 0 2 dX4_readPiece_8 rfl rfl ?_
  refine PW.bipush (v := 33) dX4_readPiece_9 (by decide) ?_
  refine PW.icmp_eq (tgt := 20) dX4_readPiece_11 (by decide) (fun c2 => ?_) (fun c2 => ?_)
  · replace h := ifp h c2
    exact PW.pick [1, 2, 0] rfl (ok_j_X4_readPiece_20 hd hd0 hd1 hrinside hrsum h hx)
  · replace h := ifn h c2
    refine PW.iload_n 0 2 dX4_readPiece_14 rfl rfl ?_
    refine PW.bipush (v := 40) dX4_readPiece_15 (by decide) ?_
    refine PW.icmp_ne (tgt := 27) dX4_readPiece_17 (by decide) (fun c6 => ?_) (fun c6 => ?_)
    · replace h := ifn h c6
      refine PW.aload_n 1 0 dX4_readPiece_27 rfl rfl rfl ?_
      refine PW.iload_n 2 1 dX4_readPiece_28 rfl rfl ?_
      obtain ⟨r7, s8, q9, h⟩ := obnd h
      refine CW.callVv (ci := 4) (st := []) [.int a0] dX4_readPiece_29 (hrsum q9) MV_X4_readSum mL_X4_54 (by decide) rfl LA_27 rfl rfl (Nat.le_of_ble_eq_true rfl) (by first | decide | omega) ?_
      refine PW.aload_n 1 0 dX4_readPiece_32 rfl rfl rfl ?_
      refine CW.getr dX4_readPiece_33 fL_X4_9 LA_27 (Or.inl ⟨_, rfl⟩) rfl ?_
      refine CW.callVi (ci := 9) (st := []) [] dX4_readPiece_36 (ps_sign rfl) MV_X9_sign mL_X4_40 (by decide) rfl LA_1 rfl rfl (Nat.le_of_ble_eq_true rfl) (by first | decide | omega) ?_
      refine PW.istore_n dX4_readPiece_39 rfl (Nat.le_of_ble_eq_true rfl) rfl ?_
      refine PW.iload_n 0 3 dX4_readPiece_40 rfl rfl ?_
      refine PW.bipush (v := 60) dX4_readPiece_41 (by decide) ?_
      refine PW.icmp_eq (tgt := 74) dX4_readPiece_43 (by decide) (fun c11 => ?_) (fun c11 => ?_)
      · replace h := ifp h c11
        exact PW.pick [2, 3, 0] rfl (ok_j_X4_readPiece_74 hd hd0 hd1 hrinside hrsum h hx)
      · replace h := ifn h c11
        refine PW.iload_n 0 3 dX4_readPiece_46 rfl rfl ?_
        refine PW.bipush (v := 62) dX4_readPiece_47 (by decide) ?_
        refine PW.icmp_eq (tgt := 74) dX4_readPiece_49 (by decide) (fun c22 => ?_) (fun c22 => ?_)
        · replace h := ifp h c22
          exact PW.pick [2, 3, 0] rfl (ok_j_X4_readPiece_74 hd hd0 hd1 hrinside hrsum h hx)
        · replace h := ifn h c22
          refine PW.iload_n 0 3 dX4_readPiece_52 rfl rfl ?_
          refine PW.bipush (v := 61) dX4_readPiece_53 (by decide) ?_
          refine PW.icmp_eq (tgt := 74) dX4_readPiece_55 (by decide) (fun c23 => ?_) (fun c23 => ?_)
          · replace h := ifp h c23
            exact PW.pick [2, 3, 0] rfl (ok_j_X4_readPiece_74 hd hd0 hd1 hrinside hrsum h hx)
          · replace h := ifn h c23
            refine PW.aload_n 2 0 dX4_readPiece_58 rfl rfl rfl ?_
            refine CW.getr dX4_readPiece_59 fL_X4_9 LA_27 (Or.inl ⟨_, rfl⟩) rfl ?_
            refine PW.iconst (v := 1) dX4_readPiece_62 (by decide) ?_
            refine PW.aload_n 2 0 dX4_readPiece_63 rfl rfl rfl ?_
            refine CW.getr dX4_readPiece_64 fL_X4_9 LA_27 (Or.inl ⟨_, rfl⟩) rfl ?_
            refine CW.callVi (ci := 9) (st := [.int (1 : Int32), .ref 1]) [] dX4_readPiece_67 (p_X9_place rfl) MV_X9_place mL_X4_44 (by decide) rfl LA_1 rfl rfl (Nat.le_of_ble_eq_true rfl) (by first | decide | omega) ?_
            obtain ⟨r25, s26, q27, h⟩ := tbnd h
            refine CW.callVv (ci := 9) (st := []) [.int (1 : Int32), .int (f_X9_place s8)] dX4_readPiece_70 (p_X9_fail q27) MV_X9_fail mL_X4_47 (by decide) rfl LA_1 rfl rfl (Nat.le_of_ble_eq_true rfl) (by first | decide | omega) ?_
            cases h
            subst hx
            exact PW.vret dX4_readPiece_73 rfl (Nat.le_refl 0) (Nat.le_refl 0)
    · replace h := ifp h c6
      exact PW.pick [1, 2, 0] rfl (ok_j_X4_readPiece_20 hd hd0 hd1 hrinside hrsum h hx)
/-! X4_readPart -/
def j_X4_readPart_58 (N : Nat) (rpiece : Int32 → cS → Option (Unit × cS)) (x2 : Int32) (s : cS) : Option (Unit × cS) :=
  if kd s.1.2.2 3 then
  ob (f_X3_endSkipsHere N s.1.2.2 x2 s) fun r6 s7 =>
  some (((), s7))
  else none
set_option maxRecDepth 20000 in
set_option maxHeartbeats 4000000 in
theorem ok_j_X4_readPart_58 {g : pG} {l : Launch} {F : pF} {N : Nat} {x2 : Int32} {s : cS} {x : (Unit × cS)} {rpiece : Int32 → cS → Option (Unit × cS)} {d : Nat} {d0 : Nat} (hd : 20 ≤ d) (hd0 : d0 ≤ d) (hrpiece : ∀ {o0 : Int32} {s : cS} {q : Unit × cS}, rpiece o0 s = some q → PM g l d0 M_X4_readPiece [.ref 27, .int o0] (tS s) none (tS q.2) 0 0) (h : j_X4_readPart_58 N rpiece x2 s = some x) (hx : (fun q => F = pE g none (tS q.2) 0 0) x) : PW g l (pRoom (d + 1) 0 0) M_X4_readPart F 58 [(0, .ref 27), (2, .int x2)] [] (tS s) 0 0 := by
  unfold j_X4_readPart_58 at h
  refine PW.aload_n 0 0 dX4_readPart_58 rfl rfl rfl ?_
  refine CW.getr dX4_readPart_59 fL_X4_15 LA_27 (Or.inl ⟨_, rfl⟩) rfl ?_
  refine PW.iload_n 1 2 dX4_readPart_62 rfl rfl ?_
  by_cases c5 : kd s.1.2.2 3
  rotate_left
  · have h := ifn h c5; cases h
  replace h := ifp h c5
  obtain ⟨r6, s7, q8, h⟩ := obnd h
  refine CW.callVv (ci := 3) (st := []) [.int x2] dX4_readPart_63 (p_X3_endSkipsHere c5 q8) MV_X3_endSkipsHere mL_X4_73 (by decide) rfl c5 rfl rfl (Nat.le_of_ble_eq_true rfl) (by first | decide | omega) ?_
  cases h
  subst hx
  exact PW.vret dX4_readPart_66 rfl (Nat.le_refl 0) (Nat.le_refl 0)
def b_X4_readPart_9 (N : Nat) (rpiece : Int32 → cS → Option (Unit × cS)) (x1 : Int32) (x2 : Int32) (x3 : Int32) (s : cS) : Option (((Int32 × Int32) × cS) ⊕ (Unit × cS)) :=
  if (160 : Int32) ≤ x3 then
    oR (
      j_X4_readPart_58 N rpiece x2 s)
  else
    if (sgn s) = (38 : Int32) then
      tb (f_X9_pass (38 : Int32) s) fun r11 s12 =>
      if kd s12.1.2.2 3 then
      tb (f_X3_addSkip s12.1.2.2 (5 : Int32) x2 s12) fun r15 s16 =>
      ob (rpiece x1 s16) fun r18 s19 =>
      some (.inl ((r15, (x3 + (1 : Int32))), s19))
      else none
    else
      oR (
        j_X4_readPart_58 N rpiece x2 s)
set_option maxRecDepth 20000 in
set_option maxHeartbeats 4000000 in
theorem ok_b_X4_readPart_9 {g : pG} {l : Launch} {F : pF} {N : Nat} {x1 : Int32} {x2 : Int32} {x3 : Int32} {s : cS} {x : (((Int32 × Int32) × cS) ⊕ (Unit × cS))} {rpiece : Int32 → cS → Option (Unit × cS)} {d : Nat} {d0 : Nat} (hd : 20 ≤ d) (hd0 : d0 ≤ d) (hrpiece : ∀ {o0 : Int32} {s : cS} {q : Unit × cS}, rpiece o0 s = some q → PM g l d0 M_X4_readPiece [.ref 27, .int o0] (tS s) none (tS q.2) 0 0) (h : b_X4_readPart_9 N rpiece x1 x2 x3 s = some x) (hx : (KL (fun (v : (Int32 × Int32) × cS) => PW g l (pRoom (d + 1) 0 0) M_X4_readPart F 9 [(0, .ref 27), (1, .int x1), (2, .int v.1.1), (3, .int v.1.2)] [] (tS v.2) 0 0) (fun q => F = pE g none (tS q.2) 0 0)) x) : PW g l (pRoom (d + 1) 0 0) M_X4_readPart F 9 [(0, .ref 27), (1, .int x1), (2, .int x2), (3, .int x3)] [] (tS s) 0 0 := by
  unfold b_X4_readPart_9 at h
  refine PW.iload_n 3 3 dX4_readPart_9 rfl rfl ?_
  refine PW.sipush (v := 160) dX4_readPart_10 (by decide) ?_
  refine PW.icmp_ge (tgt := 58) dX4_readPart_13 (by decide) (fun c4 => ?_) (fun c4 => ?_)
  · replace h := ifp h c4
    obtain ⟨xo, hy, hxo⟩ := oRb h
    clear h
    subst hxo
    replace hx := KLr hx
    have h := hy
    clear hy
    exact PW.pick [0, 2] rfl (ok_j_X4_readPart_58 hd hd0 hrpiece h hx)
  · replace h := ifn h c4
    refine PW.aload_n 0 0 dX4_readPart_16 rfl rfl rfl ?_
    refine CW.getr dX4_readPart_17 fL_X4_9 LA_27 (Or.inl ⟨_, rfl⟩) rfl ?_
    refine CW.callVi (ci := 9) (st := []) [] dX4_readPart_20 (ps_sign rfl) MV_X9_sign mL_X4_40 (by decide) rfl LA_1 rfl rfl (Nat.le_of_ble_eq_true rfl) (by first | decide | omega) ?_
    refine PW.bipush (v := 38) dX4_readPart_23 (by decide) ?_
    refine PW.icmp_ne (tgt := 58) dX4_readPart_25 (by decide) (fun c10 => ?_) (fun c10 => ?_)
    · replace h := ifn h c10
      obtain ⟨xo, hy, hxo⟩ := oRb h
      clear h
      subst hxo
      replace hx := KLr hx
      have h := hy
      clear hy
      exact PW.pick [0, 2] rfl (ok_j_X4_readPart_58 hd hd0 hrpiece h hx)
    · replace h := ifp h c10
      refine PW.aload_n 0 0 dX4_readPart_28 rfl rfl rfl ?_
      refine CW.getr dX4_readPart_29 fL_X4_9 LA_27 (Or.inl ⟨_, rfl⟩) rfl ?_
      refine PW.bipush (v := 38) dX4_readPart_32 (by decide) ?_
      obtain ⟨r11, s12, q13, h⟩ := tbnd h
      refine CW.callVv (ci := 9) (st := []) [.int (38 : Int32)] dX4_readPart_34 (p_X9_pass q13) MV_X9_pass mL_X4_37 (by decide) rfl LA_1 rfl rfl (Nat.le_of_ble_eq_true rfl) (by first | decide | omega) ?_
      refine PW.aload_n 0 0 dX4_readPart_37 rfl rfl rfl ?_
      refine CW.getr dX4_readPart_38 fL_X4_15 LA_27 (Or.inl ⟨_, rfl⟩) rfl ?_
      refine PW.iconst (v := 5) dX4_readPart_41 (by decide) ?_
      refine PW.iload_n 2 2 dX4_readPart_42 rfl rfl ?_
      by_cases c14 : kd s12.1.2.2 3
      rotate_left
      · have h := ifn h c14; cases h
      replace h := ifp h c14
      obtain ⟨r15, s16, q17, h⟩ := tbnd h
      refine CW.callVi (ci := 3) (st := []) [.int (5 : Int32), .int x2] dX4_readPart_43 (p_X3_addSkip c14 q17) MV_X3_addSkip mL_X4_69 (by decide) rfl c14 rfl rfl (Nat.le_of_ble_eq_true rfl) (by first | decide | omega) ?_
      refine PW.istore_n dX4_readPart_46 rfl (Nat.le_of_ble_eq_true rfl) rfl ?_
      refine PW.aload_n 1 0 dX4_readPart_47 rfl rfl rfl ?_
      refine PW.iload_n 2 1 dX4_readPart_48 rfl rfl ?_
      obtain ⟨r18, s19, q20, h⟩ := obnd h
      refine CW.callVv (ci := 4) (st := []) [.int x1] dX4_readPart_49 (hrpiece q20) MV_X4_readPiece mL_X4_76 (by decide) rfl LA_27 rfl rfl (Nat.le_of_ble_eq_true rfl) (by first | decide | omega) ?_
      refine PW.iinc (v := (x3 + (1 : Int32))) 3 dX4_readPart_52 rfl (by first | rfl | decide) (Nat.le_of_ble_eq_true rfl) rfl ?_
      refine PW.goto (tgt := 9) dX4_readPart_55 (by decide) ?_
      cases h
      exact PW.pick [2, 3, 1, 0] rfl hx
def w_X4_readPart_9 (N : Nat) (rpiece : Int32 → cS → Option (Unit × cS)) (x1 : Int32) (x2 : Int32) (x3 : Int32) (s : cS) : Option (Unit × cS) := itr (fun (v : (Int32 × Int32) × cS) => b_X4_readPart_9 N rpiece x1 v.1.1 v.1.2 v.2) N ((x2, x3), s)
theorem ok_w_X4_readPart_9 {g : pG} {l : Launch} {F : pF} {N : Nat} {x1 : Int32} {x2 : Int32} {x3 : Int32} {s : cS} {x : (Unit × cS)} {rpiece : Int32 → cS → Option (Unit × cS)} {d : Nat} {d0 : Nat} (hd : 20 ≤ d) (hd0 : d0 ≤ d) (hrpiece : ∀ {o0 : Int32} {s : cS} {q : Unit × cS}, rpiece o0 s = some q → PM g l d0 M_X4_readPiece [.ref 27, .int o0] (tS s) none (tS q.2) 0 0) (h : w_X4_readPart_9 N rpiece x1 x2 x3 s = some x) (hx : (fun q => F = pE g none (tS q.2) 0 0) x) : PW g l (pRoom (d + 1) 0 0) M_X4_readPart F 9 [(0, .ref 27), (1, .int x1), (2, .int x2), (3, .int x3)] [] (tS s) 0 0 :=
  okIter (P := (fun (v : (Int32 × Int32) × cS) => PW g l (pRoom (d + 1) 0 0) M_X4_readPart F 9 [(0, .ref 27), (1, .int x1), (2, .int v.1.1), (3, .int v.1.2)] [] (tS v.2) 0 0)) (K := (fun q => F = pE g none (tS q.2) 0 0)) (fun v y hB hy => ok_b_X4_readPart_9 hd hd0 hrpiece hB hy) N ((x2, x3), s) x h hx
def f_X4_readPart (N : Nat) (rpiece : Int32 → cS → Option (Unit × cS)) (a0 : Int32) (s : cS) : Option (Unit × cS) :=
  ob (rpiece a0 s) fun r1 s2 =>
  w_X4_readPart_9 N rpiece a0 (-1 : Int32) (0 : Int32) s2
set_option maxRecDepth 20000 in
set_option maxHeartbeats 4000000 in
theorem p_X4_readPart {g : pG} {l : Launch} {N : Nat} {a0 : Int32} {s : cS} {q : Unit × cS} {rpiece : Int32 → cS → Option (Unit × cS)} {d : Nat} {d0 : Nat} (hd : 20 ≤ d) (hd0 : d0 ≤ d) (hrpiece : ∀ {o0 : Int32} {s : cS} {q : Unit × cS}, rpiece o0 s = some q → PM g l d0 M_X4_readPiece [.ref 27, .int o0] (tS s) none (tS q.2) 0 0) (h : f_X4_readPart N rpiece a0 s = some q) : PM g l (d + 1) M_X4_readPart [.ref 27, .int a0] (tS s) none (tS q.2) 0 0 := by
  refine PM.of (by decide +kernel) (Nat.le_of_ble_eq_true rfl) ?_
  show PW g l (pRoom (d + 1) 0 0) M_X4_readPart _ 0 [(0, .ref 27), (1, .int a0)] [] (tS s) 0 0
  unfold f_X4_readPart at h
  generalize hF : pE g none (tS q.2) 0 0 = F
  have hx := hF.symm
  refine PW.iconst (v := (-1)) dX4_readPart_0 (by decide) ?_
  refine PW.istore_n dX4_readPart_1 rfl (Nat.le_of_ble_eq_true rfl) rfl ?_
  refine PW.aload_n 1 0 dX4_readPart_2 rfl rfl rfl ?_
  refine PW.iload_n 2 1 dX4_readPart_3 rfl rfl ?_
  obtain ⟨r1, s2, q3, h⟩ := obnd h
  refine CW.callVv (ci := 4) (st := []) [.int a0] dX4_readPart_4 (hrpiece q3) MV_X4_readPiece mL_X4_76 (by decide) rfl LA_27 rfl rfl (Nat.le_of_ble_eq_true rfl) (by first | decide | omega) ?_
  refine PW.iconst (v := 0) dX4_readPart_7 (by decide) ?_
  refine PW.istore_n dX4_readPart_8 rfl (Nat.le_of_ble_eq_true rfl) rfl ?_
  exact PW.pick [2, 3, 1, 0] rfl (ok_w_X4_readPart_9 hd hd0 hrpiece h hx)
/-! X4_readChoice -/
def j_X4_readChoice_58 (N : Nat) (rpart : Int32 → cS → Option (Unit × cS)) (x2 : Int32) (s : cS) : Option (Unit × cS) :=
  if kd s.1.2.2 3 then
  ob (f_X3_endSkipsHere N s.1.2.2 x2 s) fun r6 s7 =>
  some (((), s7))
  else none
set_option maxRecDepth 20000 in
set_option maxHeartbeats 4000000 in
theorem ok_j_X4_readChoice_58 {g : pG} {l : Launch} {F : pF} {N : Nat} {x2 : Int32} {s : cS} {x : (Unit × cS)} {rpart : Int32 → cS → Option (Unit × cS)} {d : Nat} {d0 : Nat} (hd : 20 ≤ d) (hd0 : d0 ≤ d) (hrpart : ∀ {o0 : Int32} {s : cS} {q : Unit × cS}, rpart o0 s = some q → PM g l d0 M_X4_readPart [.ref 27, .int o0] (tS s) none (tS q.2) 0 0) (h : j_X4_readChoice_58 N rpart x2 s = some x) (hx : (fun q => F = pE g none (tS q.2) 0 0) x) : PW g l (pRoom (d + 1) 0 0) M_X4_readChoice F 58 [(0, .ref 27), (2, .int x2)] [] (tS s) 0 0 := by
  unfold j_X4_readChoice_58 at h
  refine PW.aload_n 0 0 dX4_readChoice_58 rfl rfl rfl ?_
  refine CW.getr dX4_readChoice_59 fL_X4_15 LA_27 (Or.inl ⟨_, rfl⟩) rfl ?_
  refine PW.iload_n 1 2 dX4_readChoice_62 rfl rfl ?_
  by_cases c5 : kd s.1.2.2 3
  rotate_left
  · have h := ifn h c5; cases h
  replace h := ifp h c5
  obtain ⟨r6, s7, q8, h⟩ := obnd h
  refine CW.callVv (ci := 3) (st := []) [.int x2] dX4_readChoice_63 (p_X3_endSkipsHere c5 q8) MV_X3_endSkipsHere mL_X4_73 (by decide) rfl c5 rfl rfl (Nat.le_of_ble_eq_true rfl) (by first | decide | omega) ?_
  cases h
  subst hx
  exact PW.vret dX4_readChoice_66 rfl (Nat.le_refl 0) (Nat.le_refl 0)
def b_X4_readChoice_9 (N : Nat) (rpart : Int32 → cS → Option (Unit × cS)) (x1 : Int32) (x2 : Int32) (x3 : Int32) (s : cS) : Option (((Int32 × Int32) × cS) ⊕ (Unit × cS)) :=
  if (160 : Int32) ≤ x3 then
    oR (
      j_X4_readChoice_58 N rpart x2 s)
  else
    if (sgn s) = (124 : Int32) then
      tb (f_X9_pass (124 : Int32) s) fun r11 s12 =>
      if kd s12.1.2.2 3 then
      tb (f_X3_addSkip s12.1.2.2 (4 : Int32) x2 s12) fun r15 s16 =>
      ob (rpart x1 s16) fun r18 s19 =>
      some (.inl ((r15, (x3 + (1 : Int32))), s19))
      else none
    else
      oR (
        j_X4_readChoice_58 N rpart x2 s)
set_option maxRecDepth 20000 in
set_option maxHeartbeats 4000000 in
theorem ok_b_X4_readChoice_9 {g : pG} {l : Launch} {F : pF} {N : Nat} {x1 : Int32} {x2 : Int32} {x3 : Int32} {s : cS} {x : (((Int32 × Int32) × cS) ⊕ (Unit × cS))} {rpart : Int32 → cS → Option (Unit × cS)} {d : Nat} {d0 : Nat} (hd : 20 ≤ d) (hd0 : d0 ≤ d) (hrpart : ∀ {o0 : Int32} {s : cS} {q : Unit × cS}, rpart o0 s = some q → PM g l d0 M_X4_readPart [.ref 27, .int o0] (tS s) none (tS q.2) 0 0) (h : b_X4_readChoice_9 N rpart x1 x2 x3 s = some x) (hx : (KL (fun (v : (Int32 × Int32) × cS) => PW g l (pRoom (d + 1) 0 0) M_X4_readChoice F 9 [(0, .ref 27), (1, .int x1), (2, .int v.1.1), (3, .int v.1.2)] [] (tS v.2) 0 0) (fun q => F = pE g none (tS q.2) 0 0)) x) : PW g l (pRoom (d + 1) 0 0) M_X4_readChoice F 9 [(0, .ref 27), (1, .int x1), (2, .int x2), (3, .int x3)] [] (tS s) 0 0 := by
  unfold b_X4_readChoice_9 at h
  refine PW.iload_n 3 3 dX4_readChoice_9 rfl rfl ?_
  refine PW.sipush (v := 160) dX4_readChoice_10 (by decide) ?_
  refine PW.icmp_ge (tgt := 58) dX4_readChoice_13 (by decide) (fun c4 => ?_) (fun c4 => ?_)
  · replace h := ifp h c4
    obtain ⟨xo, hy, hxo⟩ := oRb h
    clear h
    subst hxo
    replace hx := KLr hx
    have h := hy
    clear hy
    exact PW.pick [0, 2] rfl (ok_j_X4_readChoice_58 hd hd0 hrpart h hx)
  · replace h := ifn h c4
    refine PW.aload_n 0 0 dX4_readChoice_16 rfl rfl rfl ?_
    refine CW.getr dX4_readChoice_17 fL_X4_9 LA_27 (Or.inl ⟨_, rfl⟩) rfl ?_
    refine CW.callVi (ci := 9) (st := []) [] dX4_readChoice_20 (ps_sign rfl) MV_X9_sign mL_X4_40 (by decide) rfl LA_1 rfl rfl (Nat.le_of_ble_eq_true rfl) (by first | decide | omega) ?_
    refine PW.bipush (v := 124) dX4_readChoice_23 (by decide) ?_
    refine PW.icmp_ne (tgt := 58) dX4_readChoice_25 (by decide) (fun c10 => ?_) (fun c10 => ?_)
    · replace h := ifn h c10
      obtain ⟨xo, hy, hxo⟩ := oRb h
      clear h
      subst hxo
      replace hx := KLr hx
      have h := hy
      clear hy
      exact PW.pick [0, 2] rfl (ok_j_X4_readChoice_58 hd hd0 hrpart h hx)
    · replace h := ifp h c10
      refine PW.aload_n 0 0 dX4_readChoice_28 rfl rfl rfl ?_
      refine CW.getr dX4_readChoice_29 fL_X4_9 LA_27 (Or.inl ⟨_, rfl⟩) rfl ?_
      refine PW.bipush (v := 124) dX4_readChoice_32 (by decide) ?_
      obtain ⟨r11, s12, q13, h⟩ := tbnd h
      refine CW.callVv (ci := 9) (st := []) [.int (124 : Int32)] dX4_readChoice_34 (p_X9_pass q13) MV_X9_pass mL_X4_37 (by decide) rfl LA_1 rfl rfl (Nat.le_of_ble_eq_true rfl) (by first | decide | omega) ?_
      refine PW.aload_n 0 0 dX4_readChoice_37 rfl rfl rfl ?_
      refine CW.getr dX4_readChoice_38 fL_X4_15 LA_27 (Or.inl ⟨_, rfl⟩) rfl ?_
      refine PW.iconst (v := 4) dX4_readChoice_41 (by decide) ?_
      refine PW.iload_n 2 2 dX4_readChoice_42 rfl rfl ?_
      by_cases c14 : kd s12.1.2.2 3
      rotate_left
      · have h := ifn h c14; cases h
      replace h := ifp h c14
      obtain ⟨r15, s16, q17, h⟩ := tbnd h
      refine CW.callVi (ci := 3) (st := []) [.int (4 : Int32), .int x2] dX4_readChoice_43 (p_X3_addSkip c14 q17) MV_X3_addSkip mL_X4_69 (by decide) rfl c14 rfl rfl (Nat.le_of_ble_eq_true rfl) (by first | decide | omega) ?_
      refine PW.istore_n dX4_readChoice_46 rfl (Nat.le_of_ble_eq_true rfl) rfl ?_
      refine PW.aload_n 1 0 dX4_readChoice_47 rfl rfl rfl ?_
      refine PW.iload_n 2 1 dX4_readChoice_48 rfl rfl ?_
      obtain ⟨r18, s19, q20, h⟩ := obnd h
      refine CW.callVv (ci := 4) (st := []) [.int x1] dX4_readChoice_49 (hrpart q20) MV_X4_readPart mL_X4_66 (by decide) rfl LA_27 rfl rfl (Nat.le_of_ble_eq_true rfl) (by first | decide | omega) ?_
      refine PW.iinc (v := (x3 + (1 : Int32))) 3 dX4_readChoice_52 rfl (by first | rfl | decide) (Nat.le_of_ble_eq_true rfl) rfl ?_
      refine PW.goto (tgt := 9) dX4_readChoice_55 (by decide) ?_
      cases h
      exact PW.pick [2, 3, 1, 0] rfl hx
def w_X4_readChoice_9 (N : Nat) (rpart : Int32 → cS → Option (Unit × cS)) (x1 : Int32) (x2 : Int32) (x3 : Int32) (s : cS) : Option (Unit × cS) := itr (fun (v : (Int32 × Int32) × cS) => b_X4_readChoice_9 N rpart x1 v.1.1 v.1.2 v.2) N ((x2, x3), s)
theorem ok_w_X4_readChoice_9 {g : pG} {l : Launch} {F : pF} {N : Nat} {x1 : Int32} {x2 : Int32} {x3 : Int32} {s : cS} {x : (Unit × cS)} {rpart : Int32 → cS → Option (Unit × cS)} {d : Nat} {d0 : Nat} (hd : 20 ≤ d) (hd0 : d0 ≤ d) (hrpart : ∀ {o0 : Int32} {s : cS} {q : Unit × cS}, rpart o0 s = some q → PM g l d0 M_X4_readPart [.ref 27, .int o0] (tS s) none (tS q.2) 0 0) (h : w_X4_readChoice_9 N rpart x1 x2 x3 s = some x) (hx : (fun q => F = pE g none (tS q.2) 0 0) x) : PW g l (pRoom (d + 1) 0 0) M_X4_readChoice F 9 [(0, .ref 27), (1, .int x1), (2, .int x2), (3, .int x3)] [] (tS s) 0 0 :=
  okIter (P := (fun (v : (Int32 × Int32) × cS) => PW g l (pRoom (d + 1) 0 0) M_X4_readChoice F 9 [(0, .ref 27), (1, .int x1), (2, .int v.1.1), (3, .int v.1.2)] [] (tS v.2) 0 0)) (K := (fun q => F = pE g none (tS q.2) 0 0)) (fun v y hB hy => ok_b_X4_readChoice_9 hd hd0 hrpart hB hy) N ((x2, x3), s) x h hx
def f_X4_readChoice (N : Nat) (rpart : Int32 → cS → Option (Unit × cS)) (a0 : Int32) (s : cS) : Option (Unit × cS) :=
  ob (rpart a0 s) fun r1 s2 =>
  w_X4_readChoice_9 N rpart a0 (-1 : Int32) (0 : Int32) s2
set_option maxRecDepth 20000 in
set_option maxHeartbeats 4000000 in
theorem p_X4_readChoice {g : pG} {l : Launch} {N : Nat} {a0 : Int32} {s : cS} {q : Unit × cS} {rpart : Int32 → cS → Option (Unit × cS)} {d : Nat} {d0 : Nat} (hd : 20 ≤ d) (hd0 : d0 ≤ d) (hrpart : ∀ {o0 : Int32} {s : cS} {q : Unit × cS}, rpart o0 s = some q → PM g l d0 M_X4_readPart [.ref 27, .int o0] (tS s) none (tS q.2) 0 0) (h : f_X4_readChoice N rpart a0 s = some q) : PM g l (d + 1) M_X4_readChoice [.ref 27, .int a0] (tS s) none (tS q.2) 0 0 := by
  refine PM.of (by decide +kernel) (Nat.le_of_ble_eq_true rfl) ?_
  show PW g l (pRoom (d + 1) 0 0) M_X4_readChoice _ 0 [(0, .ref 27), (1, .int a0)] [] (tS s) 0 0
  unfold f_X4_readChoice at h
  generalize hF : pE g none (tS q.2) 0 0 = F
  have hx := hF.symm
  refine PW.iconst (v := (-1)) dX4_readChoice_0 (by decide) ?_
  refine PW.istore_n dX4_readChoice_1 rfl (Nat.le_of_ble_eq_true rfl) rfl ?_
  refine PW.aload_n 1 0 dX4_readChoice_2 rfl rfl rfl ?_
  refine PW.iload_n 2 1 dX4_readChoice_3 rfl rfl ?_
  obtain ⟨r1, s2, q3, h⟩ := obnd h
  refine CW.callVv (ci := 4) (st := []) [.int a0] dX4_readChoice_4 (hrpart q3) MV_X4_readPart mL_X4_66 (by decide) rfl LA_27 rfl rfl (Nat.le_of_ble_eq_true rfl) (by first | decide | omega) ?_
  refine PW.iconst (v := 0) dX4_readChoice_7 (by decide) ?_
  refine PW.istore_n dX4_readChoice_8 rfl (Nat.le_of_ble_eq_true rfl) rfl ?_
  exact PW.pick [2, 3, 1, 0] rfl (ok_w_X4_readChoice_9 hd hd0 hrpart h hx)
/-! X4_readClause -/
def j_X4_readClause_42 (rsum : Int32 → cS → Option (Unit × cS)) (rchoice : Int32 → cS → Option (Unit × cS)) (x1 : Int32) (x2 : Int32) (s : cS) : Option (Unit × cS) :=
  if x1 < (12 : Int32) then
    tb (f_X9_pass x2 s) fun r4 s5 =>
    if kd s5.1.2.2 3 then
    tb (f_X3_openClause s5.1.2.2 x2 s5) fun r8 s9 =>
    ob (rsum (0 : Int32) s9) fun r11 s12 =>
    if kd s12.1.2.2 3 then
    tb (f_X3_openCondition s12.1.2.2 s12) fun r15 s16 =>
    tb (f_X9_pass (40 : Int32) s16) fun r18 s19 =>
    ob (rchoice (1 : Int32) s19) fun r21 s22 =>
    tb (f_X9_pass (41 : Int32) s22) fun r24 s25 =>
    if kd s25.1.2.2 3 then
    tb (f_X3_closeClause s25.1.2.2 s25) fun r28 s29 =>
    some (((), s29))
    else none
    else none
    else none
  else
    tb (f_X9_fail (4 : Int32) (f_X9_place s) s) fun r32 s33 =>
    some (((), s33))
set_option maxRecDepth 20000 in
set_option maxHeartbeats 4000000 in
theorem ok_j_X4_readClause_42 {g : pG} {l : Launch} {F : pF} {x1 : Int32} {x2 : Int32} {s : cS} {x : (Unit × cS)} {rsum : Int32 → cS → Option (Unit × cS)} {rchoice : Int32 → cS → Option (Unit × cS)} {d : Nat} {d0 : Nat} {d1 : Nat} (hd : 20 ≤ d) (hd0 : d0 ≤ d) (hd1 : d1 ≤ d) (hrsum : ∀ {o0 : Int32} {s : cS} {q : Unit × cS}, rsum o0 s = some q → PM g l d0 M_X4_readSum [.ref 27, .int o0] (tS s) none (tS q.2) 0 0) (hrchoice : ∀ {o0 : Int32} {s : cS} {q : Unit × cS}, rchoice o0 s = some q → PM g l d1 M_X4_readChoice [.ref 27, .int o0] (tS s) none (tS q.2) 0 0) (h : j_X4_readClause_42 rsum rchoice x1 x2 s = some x) (hx : (fun q => F = pE g none (tS q.2) 0 0) x) : PW g l (pRoom (d + 1) 0 0) M_X4_readClause F 42 [(0, .ref 27), (1, .int x1), (2, .int x2)] [] (tS s) 0 0 := by
  unfold j_X4_readClause_42 at h
  refine PW.iload_n 1 1 dX4_readClause_42 rfl rfl ?_
  refine PW.bipush (v := 12) dX4_readClause_43 (by decide) ?_
  refine PW.icmp_lt (tgt := 64) dX4_readClause_45 (by decide) (fun c3 => ?_) (fun c3 => ?_)
  · replace h := ifp h c3
    refine PW.aload_n 0 0 dX4_readClause_64 rfl rfl rfl ?_
    refine CW.getr dX4_readClause_65 fL_X4_9 LA_27 (Or.inl ⟨_, rfl⟩) rfl ?_
    refine PW.iload_n 2 2 dX4_readClause_68 rfl rfl ?_
    obtain ⟨r4, s5, q6, h⟩ := tbnd h
    refine CW.callVv (ci := 9) (st := []) [.int x2] dX4_readClause_69 (p_X9_pass q6) MV_X9_pass mL_X4_37 (by decide) rfl LA_1 rfl rfl (Nat.le_of_ble_eq_true rfl) (by first | decide | omega) ?_
    refine PW.aload_n 0 0 dX4_readClause_72 rfl rfl rfl ?_
    refine CW.getr dX4_readClause_73 fL_X4_15 LA_27 (Or.inl ⟨_, rfl⟩) rfl ?_
    refine PW.iload_n 2 2 dX4_readClause_76 rfl rfl ?_
    by_cases c7 : kd s5.1.2.2 3
    rotate_left
    · have h := ifn h c7; cases h
    replace h := ifp h c7
    obtain ⟨r8, s9, q10, h⟩ := tbnd h
    refine CW.callVv (ci := 3) (st := []) [.int x2] dX4_readClause_77 (p_X3_openClause c7 q10) MV_X3_openClause mL_X4_51 (by decide) rfl c7 rfl rfl (Nat.le_of_ble_eq_true rfl) (by first | decide | omega) ?_
    refine PW.aload_n 0 0 dX4_readClause_80 rfl rfl rfl ?_
    refine PW.iconst (v := 0) dX4_readClause_81 (by decide) ?_
    obtain ⟨r11, s12, q13, h⟩ := obnd h
    refine CW.callVv (ci := 4) (st := []) [.int (0 : Int32)] dX4_readClause_82 (hrsum q13) MV_X4_readSum mL_X4_54 (by decide) rfl LA_27 rfl rfl (Nat.le_of_ble_eq_true rfl) (by first | decide | omega) ?_
    refine PW.aload_n 0 0 dX4_readClause_85 rfl rfl rfl ?_
    refine CW.getr dX4_readClause_86 fL_X4_15 LA_27 (Or.inl ⟨_, rfl⟩) rfl ?_
    by_cases c14 : kd s12.1.2.2 3
    rotate_left
    · have h := ifn h c14; cases h
    replace h := ifp h c14
    obtain ⟨r15, s16, q17, h⟩ := tbnd h
    refine CW.callVv (ci := 3) (st := []) [] dX4_readClause_89 (p_X3_openCondition c14 q17) MV_X3_openCondition mL_X4_57 (by decide) rfl c14 rfl rfl (Nat.le_of_ble_eq_true rfl) (by first | decide | omega) ?_
    refine PW.aload_n 0 0 dX4_readClause_92 rfl rfl rfl ?_
    refine CW.getr dX4_readClause_93 fL_X4_9 LA_27 (Or.inl ⟨_, rfl⟩) rfl ?_
    refine PW.bipush (v := 40) dX4_readClause_96 (by decide) ?_
    obtain ⟨r18, s19, q20, h⟩ := tbnd h
    refine CW.callVv (ci := 9) (st := []) [.int (40 : Int32)] dX4_readClause_98 (p_X9_pass q20) MV_X9_pass mL_X4_37 (by decide) rfl LA_1 rfl rfl (Nat.le_of_ble_eq_true rfl) (by first | decide | omega) ?_
    refine PW.aload_n 0 0 dX4_readClause_101 rfl rfl rfl ?_
    refine PW.iconst (v := 1) dX4_readClause_102 (by decide) ?_
    obtain ⟨r21, s22, q23, h⟩ := obnd h
    refine CW.callVv (ci := 4) (st := []) [.int (1 : Int32)] dX4_readClause_103 (hrchoice q23) MV_X4_readChoice mL_X4_60 (by decide) rfl LA_27 rfl rfl (Nat.le_of_ble_eq_true rfl) (by first | decide | omega) ?_
    refine PW.aload_n 0 0 dX4_readClause_106 rfl rfl rfl ?_
    refine CW.getr dX4_readClause_107 fL_X4_9 LA_27 (Or.inl ⟨_, rfl⟩) rfl ?_
    refine PW.bipush (v := 41) dX4_readClause_110 (by decide) ?_
    obtain ⟨r24, s25, q26, h⟩ := tbnd h
    refine CW.callVv (ci := 9) (st := []) [.int (41 : Int32)] dX4_readClause_112 (p_X9_pass q26) MV_X9_pass mL_X4_37 (by decide) rfl LA_1 rfl rfl (Nat.le_of_ble_eq_true rfl) (by first | decide | omega) ?_
    refine PW.aload_n 0 0 dX4_readClause_115 rfl rfl rfl ?_
    refine CW.getr dX4_readClause_116 fL_X4_15 LA_27 (Or.inl ⟨_, rfl⟩) rfl ?_
    by_cases c27 : kd s25.1.2.2 3
    rotate_left
    · have h := ifn h c27; cases h
    replace h := ifp h c27
    obtain ⟨r28, s29, q30, h⟩ := tbnd h
    refine CW.callVv (ci := 3) (st := []) [] dX4_readClause_119 (p_X3_closeClause c27 q30) MV_X3_closeClause mL_X4_63 (by decide) rfl c27 rfl rfl (Nat.le_of_ble_eq_true rfl) (by first | decide | omega) ?_
    cases h
    subst hx
    exact PW.vret dX4_readClause_122 rfl (Nat.le_refl 0) (Nat.le_refl 0)
  · replace h := ifn h c3
    refine PW.aload_n 0 0 dX4_readClause_48 rfl rfl rfl ?_
    refine CW.getr dX4_readClause_49 fL_X4_9 LA_27 (Or.inl ⟨_, rfl⟩) rfl ?_
    refine PW.iconst (v := 4) dX4_readClause_52 (by decide) ?_
    refine PW.aload_n 0 0 dX4_readClause_53 rfl rfl rfl ?_
    refine CW.getr dX4_readClause_54 fL_X4_9 LA_27 (Or.inl ⟨_, rfl⟩) rfl ?_
    refine CW.callVi (ci := 9) (st := [.int (4 : Int32), .ref 1]) [] dX4_readClause_57 (p_X9_place rfl) MV_X9_place mL_X4_44 (by decide) rfl LA_1 rfl rfl (Nat.le_of_ble_eq_true rfl) (by first | decide | omega) ?_
    obtain ⟨r32, s33, q34, h⟩ := tbnd h
    refine CW.callVv (ci := 9) (st := []) [.int (4 : Int32), .int (f_X9_place s)] dX4_readClause_60 (p_X9_fail q34) MV_X9_fail mL_X4_47 (by decide) rfl LA_1 rfl rfl (Nat.le_of_ble_eq_true rfl) (by first | decide | omega) ?_
    cases h
    subst hx
    exact PW.vret dX4_readClause_63 rfl (Nat.le_refl 0) (Nat.le_refl 0)
def f_X4_readClause (rsum : Int32 → cS → Option (Unit × cS)) (rchoice : Int32 → cS → Option (Unit × cS)) (a0 : Int32) (s : cS) : Option (Unit × cS) :=
  if (sgn s) = (113 : Int32) then
    j_X4_readClause_42 rsum rchoice a0 (sgn s) s
  else
    if (sgn s) = (100 : Int32) then
      j_X4_readClause_42 rsum rchoice a0 (sgn s) s
    else
      if (sgn s) = (103 : Int32) then
        j_X4_readClause_42 rsum rchoice a0 (sgn s) s
      else
        tb (f_X9_fail (1 : Int32) (f_X9_place s) s) fun r38 s39 =>
        some (((), s39))
set_option maxRecDepth 20000 in
set_option maxHeartbeats 4000000 in
theorem p_X4_readClause {g : pG} {l : Launch} {a0 : Int32} {s : cS} {q : Unit × cS} {rsum : Int32 → cS → Option (Unit × cS)} {rchoice : Int32 → cS → Option (Unit × cS)} {d : Nat} {d0 : Nat} {d1 : Nat} (hd : 20 ≤ d) (hd0 : d0 ≤ d) (hd1 : d1 ≤ d) (hrsum : ∀ {o0 : Int32} {s : cS} {q : Unit × cS}, rsum o0 s = some q → PM g l d0 M_X4_readSum [.ref 27, .int o0] (tS s) none (tS q.2) 0 0) (hrchoice : ∀ {o0 : Int32} {s : cS} {q : Unit × cS}, rchoice o0 s = some q → PM g l d1 M_X4_readChoice [.ref 27, .int o0] (tS s) none (tS q.2) 0 0) (h : f_X4_readClause rsum rchoice a0 s = some q) : PM g l (d + 1) M_X4_readClause [.ref 27, .int a0] (tS s) none (tS q.2) 0 0 := by
  refine PM.of (by decide +kernel) (Nat.le_of_ble_eq_true rfl) ?_
  show PW g l (pRoom (d + 1) 0 0) M_X4_readClause _ 0 [(0, .ref 27), (1, .int a0)] [] (tS s) 0 0
  unfold f_X4_readClause at h
  generalize hF : pE g none (tS q.2) 0 0 = F
  have hx := hF.symm
  refine PW.aload_n 0 0 dX4_readClause_0 rfl rfl rfl ?_
  refine CW.getr dX4_readClause_1 fL_X4_9 LA_27 (Or.inl ⟨_, rfl⟩) rfl ?_
  refine CW.callVi (ci := 9) (st := []) [] dX4_readClause_4 (ps_sign rfl) MV_X9_sign mL_X4_40 (by decide) rfl LA_1 rfl rfl (Nat.le_of_ble_eq_true rfl) (by first | decide | omega) ?_
  refine PW.istore_n dX4_readClause_7 rfl (Nat.le_of_ble_eq_true rfl) rfl ?_
  refine PW.iload_n 0 2 dX4_readClause_8 rfl rfl ?_
  refine PW.bipush (v := 113) dX4_readClause_9 (by decide) ?_
  refine PW.icmp_eq (tgt := 42) dX4_readClause_11 (by decide) (fun c2 => ?_) (fun c2 => ?_)
  · replace h := ifp h c2
    exact PW.pick [1, 2, 0] rfl (ok_j_X4_readClause_42 hd hd0 hd1 hrsum hrchoice h hx)
  · replace h := ifn h c2
    refine PW.iload_n 0 2 dX4_readClause_14 rfl rfl ?_
    refine PW.bipush (v := 100) dX4_readClause_15 (by decide) ?_
    refine PW.icmp_eq (tgt := 42) dX4_readClause_17 (by decide) (fun c35 => ?_) (fun c35 => ?_)
    · replace h := ifp h c35
      exact PW.pick [1, 2, 0] rfl (ok_j_X4_readClause_42 hd hd0 hd1 hrsum hrchoice h hx)
    · replace h := ifn h c35
      refine PW.iload_n 0 2 dX4_readClause_20 rfl rfl ?_
      refine PW.bipush (v := 103) dX4_readClause_21 (by decide) ?_
      refine PW.icmp_eq (tgt := 42) dX4_readClause_23 (by decide) (fun c36 => ?_) (fun c36 => ?_)
      · replace h := ifp h c36
        exact PW.pick [1, 2, 0] rfl (ok_j_X4_readClause_42 hd hd0 hd1 hrsum hrchoice h hx)
      · replace h := ifn h c36
        refine PW.aload_n 1 0 dX4_readClause_26 rfl rfl rfl ?_
        refine CW.getr dX4_readClause_27 fL_X4_9 LA_27 (Or.inl ⟨_, rfl⟩) rfl ?_
        refine PW.iconst (v := 1) dX4_readClause_30 (by decide) ?_
        refine PW.aload_n 1 0 dX4_readClause_31 rfl rfl rfl ?_
        refine CW.getr dX4_readClause_32 fL_X4_9 LA_27 (Or.inl ⟨_, rfl⟩) rfl ?_
        refine CW.callVi (ci := 9) (st := [.int (1 : Int32), .ref 1]) [] dX4_readClause_35 (p_X9_place rfl) MV_X9_place mL_X4_44 (by decide) rfl LA_1 rfl rfl (Nat.le_of_ble_eq_true rfl) (by first | decide | omega) ?_
        obtain ⟨r38, s39, q40, h⟩ := tbnd h
        refine CW.callVv (ci := 9) (st := []) [.int (1 : Int32), .int (f_X9_place s)] dX4_readClause_38 (p_X9_fail q40) MV_X9_fail mL_X4_47 (by decide) rfl LA_1 rfl rfl (Nat.le_of_ble_eq_true rfl) (by first | decide | omega) ?_
        cases h
        subst hx
        exact PW.vret dX4_readClause_41 rfl (Nat.le_refl 0) (Nat.le_refl 0)
/-! X4_read -/
def b_X4_read_14 (rclause : Int32 → cS → Option (Unit × cS)) (x2 : Int32) (s : cS) : Option ((Int32 × cS) ⊕ (Unit × cS)) :=
  if (12 : Int32) < x2 then
    oR (
      some (((), s)))
  else
    if (f_X9_sound s) = 0 then
      oR (
        some (((), s)))
    else
      ob (rclause x2 s) fun r9 s10 =>
      if (f_X9_atEnd s10) = 0 then
        tb (f_X9_pass (59 : Int32) s10) fun r14 s15 =>
        some (.inl ((x2 + (1 : Int32)), s15))
      else
        oR (
          some (((), s10)))
set_option maxRecDepth 20000 in
set_option maxHeartbeats 4000000 in
theorem ok_b_X4_read_14 {g : pG} {l : Launch} {F : pF} {x2 : Int32} {s : cS} {x : ((Int32 × cS) ⊕ (Unit × cS))} {rclause : Int32 → cS → Option (Unit × cS)} {d : Nat} {d0 : Nat} (hd : 20 ≤ d) (hd0 : d0 ≤ d) (hrclause : ∀ {o0 : Int32} {s : cS} {q : Unit × cS}, rclause o0 s = some q → PM g l d0 M_X4_readClause [.ref 27, .int o0] (tS s) none (tS q.2) 0 0) (h : b_X4_read_14 rclause x2 s = some x) (hx : (KL (fun (v : Int32 × cS) => PW g l (pRoom (d + 1) 0 0) M_X4_read F 14 [(0, .ref 27), (2, .int v.1)] [] (tS v.2) 0 0) (fun q => F = pE g none (tS q.2) 0 0)) x) : PW g l (pRoom (d + 1) 0 0) M_X4_read F 14 [(0, .ref 27), (2, .int x2)] [] (tS s) 0 0 := by
  unfold b_X4_read_14 at h
  refine PW.iload_n 1 2 dX4_read_14 rfl rfl ?_
  refine PW.bipush (v := 12) dX4_read_15 (by decide) ?_
  refine PW.icmp_gt (tgt := 61) dX4_read_17 (by decide) (fun c6 => ?_) (fun c6 => ?_)
  · replace h := ifp h c6
    obtain ⟨xo, hy, hxo⟩ := oRb h
    clear h
    subst hxo
    replace hx := KLr hx
    have h := hy
    clear hy
    cases h
    subst hx
    exact PW.vret dX4_read_61 rfl (Nat.le_refl 0) (Nat.le_refl 0)
  · replace h := ifn h c6
    refine PW.aload_n 0 0 dX4_read_20 rfl rfl rfl ?_
    refine CW.getr dX4_read_21 fL_X4_9 LA_27 (Or.inl ⟨_, rfl⟩) rfl ?_
    refine CW.callVi (ci := 9) (st := []) [] dX4_read_24 (p_X9_sound rfl) MV_X9_sound mL_X4_24 (by decide) rfl LA_1 rfl rfl (Nat.le_of_ble_eq_true rfl) (by first | decide | omega) ?_
    refine PW.if_eq (tgt := 61) dX4_read_27 (by decide) (fun c8 => ?_) (fun c8 => ?_)
    · replace h := ifp h c8
      obtain ⟨xo, hy, hxo⟩ := oRb h
      clear h
      subst hxo
      replace hx := KLr hx
      have h := hy
      clear hy
      cases h
      subst hx
      exact PW.vret dX4_read_61 rfl (Nat.le_refl 0) (Nat.le_refl 0)
    · replace h := ifn h c8
      refine PW.aload_n 0 0 dX4_read_30 rfl rfl rfl ?_
      refine PW.iload_n 1 2 dX4_read_31 rfl rfl ?_
      obtain ⟨r9, s10, q11, h⟩ := obnd h
      refine CW.callVv (ci := 4) (st := []) [.int x2] dX4_read_32 (hrclause q11) MV_X4_readClause mL_X4_30 (by decide) rfl LA_27 rfl rfl (Nat.le_of_ble_eq_true rfl) (by first | decide | omega) ?_
      refine PW.aload_n 0 0 dX4_read_35 rfl rfl rfl ?_
      refine CW.getr dX4_read_36 fL_X4_9 LA_27 (Or.inl ⟨_, rfl⟩) rfl ?_
      refine CW.callVi (ci := 9) (st := []) [] dX4_read_39 (p_X9_atEnd rfl) MV_X9_atEnd mL_X4_34 (by decide) rfl LA_1 rfl rfl (Nat.le_of_ble_eq_true rfl) (by first | decide | omega) ?_
      refine PW.if_eq (tgt := 46) dX4_read_42 (by decide) (fun c13 => ?_) (fun c13 => ?_)
      · replace h := ifp h c13
        refine PW.aload_n 0 0 dX4_read_46 rfl rfl rfl ?_
        refine CW.getr dX4_read_47 fL_X4_9 LA_27 (Or.inl ⟨_, rfl⟩) rfl ?_
        refine PW.bipush (v := 59) dX4_read_50 (by decide) ?_
        obtain ⟨r14, s15, q16, h⟩ := tbnd h
        refine CW.callVv (ci := 9) (st := []) [.int (59 : Int32)] dX4_read_52 (p_X9_pass q16) MV_X9_pass mL_X4_37 (by decide) rfl LA_1 rfl rfl (Nat.le_of_ble_eq_true rfl) (by first | decide | omega) ?_
        refine PW.iinc (v := (x2 + (1 : Int32))) 1 dX4_read_55 rfl (by first | rfl | decide) (Nat.le_of_ble_eq_true rfl) rfl ?_
        refine PW.goto (tgt := 14) dX4_read_58 (by decide) ?_
        cases h
        exact PW.pick [1, 0] rfl hx
      · replace h := ifn h c13
        obtain ⟨xo, hy, hxo⟩ := oRb h
        clear h
        subst hxo
        replace hx := KLr hx
        have h := hy
        clear hy
        cases h
        subst hx
        exact PW.vret dX4_read_45 rfl (Nat.le_refl 0) (Nat.le_refl 0)
def w_X4_read_14 (N : Nat) (rclause : Int32 → cS → Option (Unit × cS)) (x2 : Int32) (s : cS) : Option (Unit × cS) := itr (fun (v : Int32 × cS) => b_X4_read_14 rclause v.1 v.2) N (x2, s)
theorem ok_w_X4_read_14 {g : pG} {l : Launch} {F : pF} {N : Nat} {x2 : Int32} {s : cS} {x : (Unit × cS)} {rclause : Int32 → cS → Option (Unit × cS)} {d : Nat} {d0 : Nat} (hd : 20 ≤ d) (hd0 : d0 ≤ d) (hrclause : ∀ {o0 : Int32} {s : cS} {q : Unit × cS}, rclause o0 s = some q → PM g l d0 M_X4_readClause [.ref 27, .int o0] (tS s) none (tS q.2) 0 0) (h : w_X4_read_14 N rclause x2 s = some x) (hx : (fun q => F = pE g none (tS q.2) 0 0) x) : PW g l (pRoom (d + 1) 0 0) M_X4_read F 14 [(0, .ref 27), (2, .int x2)] [] (tS s) 0 0 :=
  okIter (P := (fun (v : Int32 × cS) => PW g l (pRoom (d + 1) 0 0) M_X4_read F 14 [(0, .ref 27), (2, .int v.1)] [] (tS v.2) 0 0)) (K := (fun q => F = pE g none (tS q.2) 0 0)) (fun v y hB hy => ok_b_X4_read_14 hd hd0 hrclause hB hy) N (x2, s) x h hx
def f_X4_read (N : Nat) (rclause : Int32 → cS → Option (Unit × cS)) (Ta0 : Nat) (s : cS) : Option (Unit × cS) :=
  sb (qC s Ta0) fun s1 =>
  if kd s1.1.2.2 3 then
  tb (f_X3_empty s1.1.2.2 s1) fun r3 s4 =>
  w_X4_read_14 N rclause (0 : Int32) s4
  else none
set_option maxRecDepth 20000 in
set_option maxHeartbeats 4000000 in
theorem p_X4_read {g : pG} {l : Launch} {N : Nat} {Ta0 : Nat} {s : cS} {q : Unit × cS} {rclause : Int32 → cS → Option (Unit × cS)} {d : Nat} {d0 : Nat} (hd : 20 ≤ d) (hd0 : d0 ≤ d) (hrclause : ∀ {o0 : Int32} {s : cS} {q : Unit × cS}, rclause o0 s = some q → PM g l d0 M_X4_readClause [.ref 27, .int o0] (tS s) none (tS q.2) 0 0) (hTa0 : kd Ta0 3) (h : f_X4_read N rclause Ta0 s = some q) : PM g l (d + 1) M_X4_read [.ref 27, .ref Ta0] (tS s) none (tS q.2) 0 0 := by
  refine PM.of (by decide +kernel) (Nat.le_of_ble_eq_true rfl) ?_
  show PW g l (pRoom (d + 1) 0 0) M_X4_read _ 0 [(0, .ref 27), (1, .ref Ta0)] [] (tS s) 0 0
  unfold f_X4_read at h
  generalize hF : pE g none (tS q.2) 0 0 = F
  have hx := hF.symm
  refine PW.aload_n 0 0 dX4_read_0 rfl rfl rfl ?_
  refine PW.aload_n 1 1 dX4_read_1 rfl rfl rfl ?_
  refine CW.putqC dX4_read_2 fL_X4_15 ?_
  obtain ⟨s1, es1, h⟩ := sbnd h
  refine PW.sbe es1 ?_
  clear es1
  refine PW.aload_n 0 0 dX4_read_5 rfl rfl rfl ?_
  refine CW.getr dX4_read_6 fL_X4_15 LA_27 (Or.inl ⟨_, rfl⟩) rfl ?_
  by_cases c2 : kd s1.1.2.2 3
  rotate_left
  · have h := ifn h c2; cases h
  replace h := ifp h c2
  obtain ⟨r3, s4, q5, h⟩ := tbnd h
  refine CW.callVv (ci := 3) (st := []) [] dX4_read_9 (p_X3_empty c2 q5) MV_X3_empty mL_X4_19 (by decide) rfl c2 rfl rfl (Nat.le_of_ble_eq_true rfl) (by first | decide | omega) ?_
  refine PW.iconst (v := 0) dX4_read_12 (by decide) ?_
  refine PW.istore_n dX4_read_13 rfl (Nat.le_of_ble_eq_true rfl) rfl ?_
  exact PW.pick [1, 0] rfl (ok_w_X4_read_14 hd hd0 hrclause h hx)
