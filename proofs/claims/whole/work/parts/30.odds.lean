/-! X5_isIn -/
def f_X5_isIn (a0 : Int32) (a1 : Int32) (s : cS) : Int32 :=
  if ((a0 >>> (a1 &&& 31)) &&& (1 : Int32)) = (1 : Int32) then
    (1 : Int32)
  else
    (0 : Int32)
set_option maxRecDepth 20000 in
set_option maxHeartbeats 4000000 in
theorem p_X5_isIn {g : pG} {l : Launch} {a0 : Int32} {a1 : Int32} {s : cS} {q : Int32} (h : f_X5_isIn a0 a1 s = q) : PM g l 1 M_X5_isIn [.int a0, .int a1] (tS s) (some (.int q)) (tS s) 0 0 := by
  refine PM.of (by decide +kernel) (Nat.le_of_ble_eq_true rfl) ?_
  show PW g l (pRoom 1 0 0) M_X5_isIn _ 0 [(0, .int a0), (1, .int a1)] [] (tS s) 0 0
  unfold f_X5_isIn at h
  generalize hF : pE g (some (.int q)) (tS s) 0 0 = F
  have hx := hF.symm
  refine PW.iload_n 0 0 dX5_isIn_0 rfl rfl ?_
  refine PW.iload_n 1 1 dX5_isIn_1 rfl rfl ?_
  refine PW.ishr dX5_isIn_2 ?_
  refine PW.iconst (v := 1) dX5_isIn_3 (by decide) ?_
  refine PW.iand dX5_isIn_4 ?_
  refine PW.iconst (v := 1) dX5_isIn_5 (by decide) ?_
  refine PW.icmp_ne (tgt := 13) dX5_isIn_6 (by decide) (fun c1 => ?_) (fun c1 => ?_)
  · replace h := ifn h c1
    refine PW.iconst (v := 0) dX5_isIn_13 (by decide) ?_
    cases h
    subst hx
    exact PW.iret (v := (0 : Int32)) dX5_isIn_14 rfl (narZ (Or.inl rfl)) (Nat.le_refl 0) (Nat.le_refl 0)
  · replace h := ifp h c1
    refine PW.iconst (v := 1) dX5_isIn_9 (by decide) ?_
    refine PW.goto (tgt := 14) dX5_isIn_10 (by decide) ?_
    cases h
    subst hx
    exact PW.iret (v := (1 : Int32)) dX5_isIn_14 rfl (narZ (Or.inr rfl)) (Nat.le_refl 0) (Nat.le_refl 0)
theorem f_X5_isIn_bool {a0 : Int32} {a1 : Int32} {s : cS} : f_X5_isIn a0 a1 s = 0 ∨ f_X5_isIn a0 a1 s = 1 := by
  unfold f_X5_isIn
  repeat' split
  all_goals first | exact Or.inl rfl | exact Or.inr rfl
/-! X5_follow -/
def b_X5_follow_20 (N : Nat) (x3 : Int32) (x4 : Int32) (s : cS) : Option ((Int32 × cS) ⊕ (Unit × cS)) :=
  if x3 ≤ x4 then
    oR (
      some (((), s)))
  else
    if (2000 : Int32) ≤ x4 then
      oR (
        some (((), s)))
    else
      if (f_X8_ranBy 123 s) = 0 then
        if inb x4 2000 then
        ob (f_X8_pullBy N 123 (iG s 117 x4.toNatClampNeg) s) fun r10 s11 =>
        some (.inl ((x4 + (1 : Int32)), s11))
        else none
      else
        oR (
          some (((), s)))
set_option maxRecDepth 20000 in
set_option maxHeartbeats 4000000 in
theorem ok_b_X5_follow_20 {g : pG} {l : Launch} {F : pF} {N : Nat} {x3 : Int32} {x4 : Int32} {s : cS} {x : ((Int32 × cS) ⊕ (Unit × cS))} (h : b_X5_follow_20 N x3 x4 s = some x) (hx : (KL (fun (v : Int32 × cS) => PW g l (pRoom 6 0 0) M_X5_follow F 20 [(0, .ref 116), (3, .int x3), (4, .int v.1)] [] (tS v.2) 0 0) (fun q => F = pE g none (tS q.2) 0 0)) x) : PW g l (pRoom 6 0 0) M_X5_follow F 20 [(0, .ref 116), (3, .int x3), (4, .int x4)] [] (tS s) 0 0 := by
  unfold b_X5_follow_20 at h
  refine PW.iload 2 dX5_follow_20 rfl ?_
  refine PW.iload_n 1 3 dX5_follow_22 rfl rfl ?_
  refine PW.icmp_ge (tgt := 66) dX5_follow_23 (by decide) (fun c5 => ?_) (fun c5 => ?_)
  · replace h := ifp h c5
    obtain ⟨xo, hy, hxo⟩ := oRb h
    clear h
    subst hxo
    replace hx := KLr hx
    have h := hy
    clear hy
    cases h
    subst hx
    exact PW.vret dX5_follow_66 rfl (Nat.le_refl 0) (Nat.le_refl 0)
  · replace h := ifn h c5
    refine PW.iload 2 dX5_follow_26 rfl ?_
    refine PW.aload_n 0 0 dX5_follow_28 rfl rfl rfl ?_
    refine CW.getr dX5_follow_29 fL_X5_9 LA_116 (Or.inr ⟨_, rfl⟩) rfl ?_
    refine CW.alen (v := 2000) dX5_follow_32 LA_117 (by decide) rfl ?_
    refine PW.icmp_ge (tgt := 66) dX5_follow_33 (by decide) (fun c6 => ?_) (fun c6 => ?_)
    · replace h := ifp h c6
      obtain ⟨xo, hy, hxo⟩ := oRb h
      clear h
      subst hxo
      replace hx := KLr hx
      have h := hy
      clear hy
      cases h
      subst hx
      exact PW.vret dX5_follow_66 rfl (Nat.le_refl 0) (Nat.le_refl 0)
    · replace h := ifn h c6
      refine PW.aload_n 0 0 dX5_follow_36 rfl rfl rfl ?_
      refine CW.getr dX5_follow_37 fL_X5_41 LA_116 (Or.inl ⟨_, rfl⟩) rfl ?_
      refine CW.callVi (ci := 8) (st := []) [] dX5_follow_40 (p_X8_ranBy LA_123 rfl) MV_X8_ranBy mL_X5_62 (by decide) rfl LA_123 rfl rfl (Nat.le_of_ble_eq_true rfl) (by first | decide | omega) ?_
      refine PW.if_ne (tgt := 66) dX5_follow_43 (by decide) (fun c8 => ?_) (fun c8 => ?_)
      · replace h := ifn h c8
        obtain ⟨xo, hy, hxo⟩ := oRb h
        clear h
        subst hxo
        replace hx := KLr hx
        have h := hy
        clear hy
        cases h
        subst hx
        exact PW.vret dX5_follow_66 rfl (Nat.le_refl 0) (Nat.le_refl 0)
      · replace h := ifp h c8
        refine PW.aload_n 0 0 dX5_follow_46 rfl rfl rfl ?_
        refine CW.getr dX5_follow_47 fL_X5_41 LA_116 (Or.inl ⟨_, rfl⟩) rfl ?_
        refine PW.aload_n 0 0 dX5_follow_50 rfl rfl rfl ?_
        refine CW.getr dX5_follow_51 fL_X5_9 LA_116 (Or.inr ⟨_, rfl⟩) rfl ?_
        refine PW.iload 2 dX5_follow_54 rfl ?_
        by_cases c9 : inb x4 2000
        rotate_left
        · have h := ifn h c9; cases h
        replace h := ifp h c9
        refine CW.iald dX5_follow_56 LA_117 c9 ?_
        obtain ⟨r10, s11, q12, h⟩ := obnd h
        refine CW.callVv (ci := 8) (st := []) [.int (iG s 117 x4.toNatClampNeg)] dX5_follow_57 (p_X8_pullBy LA_123 q12) MV_X8_pullBy mL_X5_73 (by decide) rfl LA_123 rfl rfl (Nat.le_of_ble_eq_true rfl) (by first | decide | omega) ?_
        refine PW.iinc (v := (x4 + (1 : Int32))) 2 dX5_follow_60 rfl (by first | rfl | decide) (Nat.le_of_ble_eq_true rfl) rfl ?_
        refine PW.goto (tgt := 20) dX5_follow_63 (by decide) ?_
        cases h
        exact PW.pick [1, 2, 0] rfl hx
def w_X5_follow_20 (N : Nat) (x3 : Int32) (x4 : Int32) (s : cS) : Option (Unit × cS) := itr (fun (v : Int32 × cS) => b_X5_follow_20 N x3 v.1 v.2) N (x4, s)
theorem ok_w_X5_follow_20 {g : pG} {l : Launch} {F : pF} {N : Nat} {x3 : Int32} {x4 : Int32} {s : cS} {x : (Unit × cS)} (h : w_X5_follow_20 N x3 x4 s = some x) (hx : (fun q => F = pE g none (tS q.2) 0 0) x) : PW g l (pRoom 6 0 0) M_X5_follow F 20 [(0, .ref 116), (3, .int x3), (4, .int x4)] [] (tS s) 0 0 :=
  okIter (P := (fun (v : Int32 × cS) => PW g l (pRoom 6 0 0) M_X5_follow F 20 [(0, .ref 116), (3, .int x3), (4, .int v.1)] [] (tS v.2) 0 0)) (K := (fun q => F = pE g none (tS q.2) 0 0)) (fun v y hB hy => ok_b_X5_follow_20 hB hy) N (x4, s) x h hx
def f_X5_follow (N : Nat) (a0 : Int32) (a1 : Int32) (a2 : Int32) (s : cS) : Option (Unit × cS) :=
  tb (f_X8_begin 123 a0 (f_X1_lifeOf a0 a1 s) s) fun r2 s3 =>
  w_X5_follow_20 N a2 (0 : Int32) s3
set_option maxRecDepth 20000 in
set_option maxHeartbeats 4000000 in
theorem p_X5_follow {g : pG} {l : Launch} {N : Nat} {a0 : Int32} {a1 : Int32} {a2 : Int32} {s : cS} {q : Unit × cS} (h : f_X5_follow N a0 a1 a2 s = some q) : PM g l 6 M_X5_follow [.ref 116, .int a0, .int a1, .int a2] (tS s) none (tS q.2) 0 0 := by
  refine PM.of (by decide +kernel) (Nat.le_of_ble_eq_true rfl) ?_
  show PW g l (pRoom 6 0 0) M_X5_follow _ 0 [(0, .ref 116), (1, .int a0), (2, .int a1), (3, .int a2)] [] (tS s) 0 0
  unfold f_X5_follow at h
  generalize hF : pE g none (tS q.2) 0 0 = F
  have hx := hF.symm
  refine PW.aload_n 0 0 dX5_follow_0 rfl rfl rfl ?_
  refine CW.getr dX5_follow_1 fL_X5_41 LA_116 (Or.inl ⟨_, rfl⟩) rfl ?_
  refine PW.iload_n 1 1 dX5_follow_4 rfl rfl ?_
  refine PW.aload_n 0 0 dX5_follow_5 rfl rfl rfl ?_
  refine CW.getr dX5_follow_6 fL_X5_32 LA_116 (Or.inl ⟨_, rfl⟩) rfl ?_
  refine PW.iload_n 1 1 dX5_follow_9 rfl rfl ?_
  refine PW.iload_n 2 2 dX5_follow_10 rfl rfl ?_
  refine CW.callVi (ci := 1) (st := [.int a0, .ref 123]) [.int a0, .int a1] dX5_follow_11 (p_X1_lifeOf rfl) MV_X1_lifeOf mL_X5_65 (by decide) rfl LA_3 rfl rfl (Nat.le_of_ble_eq_true rfl) (by first | decide | omega) ?_
  obtain ⟨r2, s3, q4, h⟩ := tbnd h
  refine CW.callVv (ci := 8) (st := []) [.int a0, .int (f_X1_lifeOf a0 a1 s)] dX5_follow_14 (p_X8_begin LA_123 q4) MV_X8_begin mL_X5_69 (by decide) rfl LA_123 rfl rfl (Nat.le_of_ble_eq_true rfl) (by first | decide | omega) ?_
  refine PW.iconst (v := 0) dX5_follow_17 (by decide) ?_
  refine PW.istore dX5_follow_18 (Nat.le_of_ble_eq_true rfl) rfl ?_
  exact PW.pick [1, 4, 0] rfl (ok_w_X5_follow_20 h hx)
/-! X5_crackedBy -/
def f_X5_crackedBy (N : Nat) (a0 : Int32) (a1 : Int32) (Ta2 : Nat) (s : cS) : Option (Int32 × cS) :=
  ob (f_X6_layOut N Ta2 (0 : Int32) (0 : Int32) s) fun r1 s2 =>
  ob (f_X5_follow N a0 a1 (f_X6_pulls Ta2 s2) s2) fun r5 s6 =>
  some (((f_X8_crackedBy 123 s6), s6))
set_option maxRecDepth 20000 in
set_option maxHeartbeats 4000000 in
theorem p_X5_crackedBy {g : pG} {l : Launch} {N : Nat} {a0 : Int32} {a1 : Int32} {Ta2 : Nat} {s : cS} {q : Int32 × cS} (hTa2 : kd Ta2 6) (h : f_X5_crackedBy N a0 a1 Ta2 s = some q) : PM g l 7 M_X5_crackedBy [.ref 116, .int a0, .int a1, .ref Ta2] (tS s) (some (.int q.1)) (tS q.2) 0 0 := by
  refine PM.of (by decide +kernel) (Nat.le_of_ble_eq_true rfl) ?_
  show PW g l (pRoom 7 0 0) M_X5_crackedBy _ 0 [(0, .ref 116), (1, .int a0), (2, .int a1), (3, .ref Ta2)] [] (tS s) 0 0
  unfold f_X5_crackedBy at h
  generalize hF : pE g (some (.int q.1)) (tS q.2) 0 0 = F
  have hx := hF.symm
  refine PW.aload_n 3 3 dX5_crackedBy_0 rfl rfl rfl ?_
  refine PW.aload_n 0 0 dX5_crackedBy_1 rfl rfl rfl ?_
  refine CW.getr dX5_crackedBy_2 fL_X5_9 LA_116 (Or.inr ⟨_, rfl⟩) rfl ?_
  refine PW.iconst (v := 0) dX5_crackedBy_5 (by decide) ?_
  refine PW.iconst (v := 0) dX5_crackedBy_6 (by decide) ?_
  obtain ⟨r1, s2, q3, h⟩ := obnd h
  refine CW.callVv (ci := 6) (st := []) [.ref 117, .int (0 : Int32), .int (0 : Int32)] dX5_crackedBy_7 (p_X6_layOut hTa2 q3) MV_X6_layOut mL_X5_45 (by decide) rfl hTa2 rfl rfl (Nat.le_of_ble_eq_true rfl) (by first | decide | omega) ?_
  refine PW.aload_n 0 0 dX5_crackedBy_10 rfl rfl rfl ?_
  refine PW.iload_n 1 1 dX5_crackedBy_11 rfl rfl ?_
  refine PW.iload_n 2 2 dX5_crackedBy_12 rfl rfl ?_
  refine PW.aload_n 3 3 dX5_crackedBy_13 rfl rfl rfl ?_
  refine CW.callVi (ci := 6) (st := [.int a1, .int a0, .ref 116]) [] dX5_crackedBy_14 (p_X6_pulls hTa2 rfl) MV_X6_pulls mL_X5_51 (by decide) rfl hTa2 rfl rfl (Nat.le_of_ble_eq_true rfl) (by first | decide | omega) ?_
  obtain ⟨r5, s6, q7, h⟩ := obnd h
  refine CW.callVv (ci := 5) (st := []) [.int a0, .int a1, .int (f_X6_pulls Ta2 s2)] dX5_crackedBy_17 (p_X5_follow q7) MV_X5_follow mL_X5_55 (by decide) rfl LA_116 rfl rfl (Nat.le_of_ble_eq_true rfl) (by first | decide | omega) ?_
  refine PW.aload_n 0 0 dX5_crackedBy_20 rfl rfl rfl ?_
  refine CW.getr dX5_crackedBy_21 fL_X5_41 LA_116 (Or.inl ⟨_, rfl⟩) rfl ?_
  refine CW.callVi (ci := 8) (st := []) [] dX5_crackedBy_24 (p_X8_crackedBy LA_123 rfl) MV_X8_crackedBy mL_X5_59 (by decide) rfl LA_123 rfl rfl (Nat.le_of_ble_eq_true rfl) (by first | decide | omega) ?_
  cases h
  subst hx
  exact PW.iret (v := (f_X8_crackedBy 123 s6)) dX5_crackedBy_27 rfl rfl (Nat.le_refl 0) (Nat.le_refl 0)
/-! X5_ranBy -/
def f_X5_ranBy (N : Nat) (a0 : Int32) (a1 : Int32) (Ta2 : Nat) (s : cS) : Option (Int32 × cS) :=
  ob (f_X6_layOut N Ta2 (0 : Int32) (0 : Int32) s) fun r1 s2 =>
  ob (f_X5_follow N a0 a1 (f_X6_pulls Ta2 s2) s2) fun r5 s6 =>
  some (((f_X8_ranBy 123 s6), s6))
set_option maxRecDepth 20000 in
set_option maxHeartbeats 4000000 in
theorem p_X5_ranBy {g : pG} {l : Launch} {N : Nat} {a0 : Int32} {a1 : Int32} {Ta2 : Nat} {s : cS} {q : Int32 × cS} (hTa2 : kd Ta2 6) (h : f_X5_ranBy N a0 a1 Ta2 s = some q) : PM g l 7 M_X5_ranBy [.ref 116, .int a0, .int a1, .ref Ta2] (tS s) (some (.int q.1)) (tS q.2) 0 0 := by
  refine PM.of (by decide +kernel) (Nat.le_of_ble_eq_true rfl) ?_
  show PW g l (pRoom 7 0 0) M_X5_ranBy _ 0 [(0, .ref 116), (1, .int a0), (2, .int a1), (3, .ref Ta2)] [] (tS s) 0 0
  unfold f_X5_ranBy at h
  generalize hF : pE g (some (.int q.1)) (tS q.2) 0 0 = F
  have hx := hF.symm
  refine PW.aload_n 3 3 dX5_ranBy_0 rfl rfl rfl ?_
  refine PW.aload_n 0 0 dX5_ranBy_1 rfl rfl rfl ?_
  refine CW.getr dX5_ranBy_2 fL_X5_9 LA_116 (Or.inr ⟨_, rfl⟩) rfl ?_
  refine PW.iconst (v := 0) dX5_ranBy_5 (by decide) ?_
  refine PW.iconst (v := 0) dX5_ranBy_6 (by decide) ?_
  obtain ⟨r1, s2, q3, h⟩ := obnd h
  refine CW.callVv (ci := 6) (st := []) [.ref 117, .int (0 : Int32), .int (0 : Int32)] dX5_ranBy_7 (p_X6_layOut hTa2 q3) MV_X6_layOut mL_X5_45 (by decide) rfl hTa2 rfl rfl (Nat.le_of_ble_eq_true rfl) (by first | decide | omega) ?_
  refine PW.aload_n 0 0 dX5_ranBy_10 rfl rfl rfl ?_
  refine PW.iload_n 1 1 dX5_ranBy_11 rfl rfl ?_
  refine PW.iload_n 2 2 dX5_ranBy_12 rfl rfl ?_
  refine PW.aload_n 3 3 dX5_ranBy_13 rfl rfl rfl ?_
  refine CW.callVi (ci := 6) (st := [.int a1, .int a0, .ref 116]) [] dX5_ranBy_14 (p_X6_pulls hTa2 rfl) MV_X6_pulls mL_X5_51 (by decide) rfl hTa2 rfl rfl (Nat.le_of_ble_eq_true rfl) (by first | decide | omega) ?_
  obtain ⟨r5, s6, q7, h⟩ := obnd h
  refine CW.callVv (ci := 5) (st := []) [.int a0, .int a1, .int (f_X6_pulls Ta2 s2)] dX5_ranBy_17 (p_X5_follow q7) MV_X5_follow mL_X5_55 (by decide) rfl LA_116 rfl rfl (Nat.le_of_ble_eq_true rfl) (by first | decide | omega) ?_
  refine PW.aload_n 0 0 dX5_ranBy_20 rfl rfl rfl ?_
  refine CW.getr dX5_ranBy_21 fL_X5_41 LA_116 (Or.inl ⟨_, rfl⟩) rfl ?_
  refine CW.callVi (ci := 8) (st := []) [] dX5_ranBy_24 (p_X8_ranBy LA_123 rfl) MV_X8_ranBy mL_X5_62 (by decide) rfl LA_123 rfl rfl (Nat.le_of_ble_eq_true rfl) (by first | decide | omega) ?_
  cases h
  subst hx
  exact PW.iret (v := (f_X8_ranBy 123 s6)) dX5_ranBy_27 rfl rfl (Nat.le_refl 0) (Nat.le_refl 0)
/-! X5_isKnown -/
def f_X5_isKnown (a0 : Int32) (a1 : Int32) (a2 : Int32) (a3 : Int32) (s : cS) : Int32 :=
  if (aA s 119 8 a0) = (f_X1_stamp s) then
    if (aA s 120 8 a0) = a1 then
      if (aA s 121 8 a0) = a2 then
        if (aA s 122 8 a0) < a3 then
          (0 : Int32)
        else
          (1 : Int32)
      else
        (0 : Int32)
    else
      (0 : Int32)
  else
    (0 : Int32)
set_option maxRecDepth 20000 in
set_option maxHeartbeats 4000000 in
theorem p_X5_isKnown {g : pG} {l : Launch} {a0 : Int32} {a1 : Int32} {a2 : Int32} {a3 : Int32} {s : cS} {q : Int32} (h : f_X5_isKnown a0 a1 a2 a3 s = q) : PM g l 2 M_X5_isKnown [.ref 116, .int a0, .int a1, .int a2, .int a3] (tS s) (some (.int q)) (tS s) 0 0 := by
  refine PM.of (by decide +kernel) (Nat.le_of_ble_eq_true rfl) ?_
  show PW g l (pRoom 2 0 0) M_X5_isKnown _ 0 [(0, .ref 116), (1, .int a0), (2, .int a1), (3, .int a2), (4, .int a3)] [] (tS s) 0 0
  unfold f_X5_isKnown at h
  generalize hF : pE g (some (.int q)) (tS s) 0 0 = F
  have hx := hF.symm
  refine PW.aload_n 0 0 dX5_isKnown_0 rfl rfl rfl ?_
  refine CW.getr dX5_isKnown_1 fL_X5_20 LA_116 (Or.inr ⟨_, rfl⟩) rfl ?_
  refine PW.iload_n 1 1 dX5_isKnown_4 rfl rfl ?_
  refine CW.callSNi (st := []) [.ref 119, .int a0] dX5_isKnown_5 (ps_at LA_119 rfl) MS_X11_at mN_X5_98 rfl rfl (Nat.le_of_ble_eq_true rfl) (by first | decide | omega) ?_
  refine PW.aload_n 0 0 dX5_isKnown_8 rfl rfl rfl ?_
  refine CW.getr dX5_isKnown_9 fL_X5_32 LA_116 (Or.inl ⟨_, rfl⟩) rfl ?_
  refine CW.callVi (ci := 1) (st := [.int (aA s 119 8 a0)]) [] dX5_isKnown_12 (p_X1_stamp rfl) MV_X1_stamp mL_X5_95 (by decide) rfl LA_3 rfl rfl (Nat.le_of_ble_eq_true rfl) (by first | decide | omega) ?_
  refine PW.icmp_ne (tgt := 59) dX5_isKnown_15 (by decide) (fun c3 => ?_) (fun c3 => ?_)
  · replace h := ifn h c3
    refine PW.iconst (v := 0) dX5_isKnown_59 (by decide) ?_
    cases h
    subst hx
    exact PW.iret (v := (0 : Int32)) dX5_isKnown_60 rfl (narZ (Or.inl rfl)) (Nat.le_refl 0) (Nat.le_refl 0)
  · replace h := ifp h c3
    refine PW.aload_n 0 0 dX5_isKnown_18 rfl rfl rfl ?_
    refine CW.getr dX5_isKnown_19 fL_X5_23 LA_116 (Or.inr ⟨_, rfl⟩) rfl ?_
    refine PW.iload_n 1 1 dX5_isKnown_22 rfl rfl ?_
    refine CW.callSNi (st := []) [.ref 120, .int a0] dX5_isKnown_23 (ps_at LA_120 rfl) MS_X11_at mN_X5_98 rfl rfl (Nat.le_of_ble_eq_true rfl) (by first | decide | omega) ?_
    refine PW.iload_n 2 2 dX5_isKnown_26 rfl rfl ?_
    refine PW.icmp_ne (tgt := 59) dX5_isKnown_27 (by decide) (fun c5 => ?_) (fun c5 => ?_)
    · replace h := ifn h c5
      refine PW.iconst (v := 0) dX5_isKnown_59 (by decide) ?_
      cases h
      subst hx
      exact PW.iret (v := (0 : Int32)) dX5_isKnown_60 rfl (narZ (Or.inl rfl)) (Nat.le_refl 0) (Nat.le_refl 0)
    · replace h := ifp h c5
      refine PW.aload_n 0 0 dX5_isKnown_30 rfl rfl rfl ?_
      refine CW.getr dX5_isKnown_31 fL_X5_26 LA_116 (Or.inr ⟨_, rfl⟩) rfl ?_
      refine PW.iload_n 1 1 dX5_isKnown_34 rfl rfl ?_
      refine CW.callSNi (st := []) [.ref 121, .int a0] dX5_isKnown_35 (ps_at LA_121 rfl) MS_X11_at mN_X5_98 rfl rfl (Nat.le_of_ble_eq_true rfl) (by first | decide | omega) ?_
      refine PW.iload_n 3 3 dX5_isKnown_38 rfl rfl ?_
      refine PW.icmp_ne (tgt := 59) dX5_isKnown_39 (by decide) (fun c7 => ?_) (fun c7 => ?_)
      · replace h := ifn h c7
        refine PW.iconst (v := 0) dX5_isKnown_59 (by decide) ?_
        cases h
        subst hx
        exact PW.iret (v := (0 : Int32)) dX5_isKnown_60 rfl (narZ (Or.inl rfl)) (Nat.le_refl 0) (Nat.le_refl 0)
      · replace h := ifp h c7
        refine PW.aload_n 0 0 dX5_isKnown_42 rfl rfl rfl ?_
        refine CW.getr dX5_isKnown_43 fL_X5_29 LA_116 (Or.inr ⟨_, rfl⟩) rfl ?_
        refine PW.iload_n 1 1 dX5_isKnown_46 rfl rfl ?_
        refine CW.callSNi (st := []) [.ref 122, .int a0] dX5_isKnown_47 (ps_at LA_122 rfl) MS_X11_at mN_X5_98 rfl rfl (Nat.le_of_ble_eq_true rfl) (by first | decide | omega) ?_
        refine PW.iload 4 dX5_isKnown_50 rfl ?_
        refine PW.icmp_lt (tgt := 59) dX5_isKnown_52 (by decide) (fun c9 => ?_) (fun c9 => ?_)
        · replace h := ifp h c9
          refine PW.iconst (v := 0) dX5_isKnown_59 (by decide) ?_
          cases h
          subst hx
          exact PW.iret (v := (0 : Int32)) dX5_isKnown_60 rfl (narZ (Or.inl rfl)) (Nat.le_refl 0) (Nat.le_refl 0)
        · replace h := ifn h c9
          refine PW.iconst (v := 1) dX5_isKnown_55 (by decide) ?_
          refine PW.goto (tgt := 60) dX5_isKnown_56 (by decide) ?_
          cases h
          subst hx
          exact PW.iret (v := (1 : Int32)) dX5_isKnown_60 rfl (narZ (Or.inr rfl)) (Nat.le_refl 0) (Nat.le_refl 0)
theorem f_X5_isKnown_bool {a0 : Int32} {a1 : Int32} {a2 : Int32} {a3 : Int32} {s : cS} : f_X5_isKnown a0 a1 a2 a3 s = 0 ∨ f_X5_isKnown a0 a1 a2 a3 s = 1 := by
  unfold f_X5_isKnown
  repeat' split
  all_goals first | exact Or.inl rfl | exact Or.inr rfl
/-! X5_prepare -/
def j_X5_prepare_168 (x1 : Int32) (x2 : Int32) (x3 : Nat) (x4 : Int32) (x5 : Int32) (x6 : Int32) (x7 : Int32) (s : cS) : Option (((Int32 × Int32) × cS) ⊕ (Unit × cS)) :=
  some (.inl ((x6, (x7 + (1 : Int32))), s))
set_option maxRecDepth 20000 in
set_option maxHeartbeats 4000000 in
theorem ok_j_X5_prepare_168 {g : pG} {l : Launch} {F : pF} {x1 : Int32} {x2 : Int32} {x3 : Nat} {x4 : Int32} {x5 : Int32} {x6 : Int32} {x7 : Int32} {s : cS} {x : (((Int32 × Int32) × cS) ⊕ (Unit × cS))} (h : j_X5_prepare_168 x1 x2 x3 x4 x5 x6 x7 s = some x) (hx : (KL (fun (v : (Int32 × Int32) × cS) => PW g l (pRoom 7 0 0) M_X5_prepare F 11 [(0, .ref 116), (1, .int x1), (2, .int x2), (3, .ref x3), (4, .int x4), (5, .int x5), (6, .int v.1.1), (7, .int v.1.2)] [] (tS v.2) 0 0) (fun q => F = pE g none (tS q.2) 0 0)) x) : PW g l (pRoom 7 0 0) M_X5_prepare F 168 [(0, .ref 116), (1, .int x1), (2, .int x2), (3, .ref x3), (4, .int x4), (5, .int x5), (6, .int x6), (7, .int x7)] [] (tS s) 0 0 := by
  unfold j_X5_prepare_168 at h
  refine PW.iinc (v := (x7 + (1 : Int32))) 7 dX5_prepare_168 rfl (by first | rfl | decide) (Nat.le_of_ble_eq_true rfl) rfl ?_
  refine PW.goto (tgt := 11) dX5_prepare_171 (by decide) ?_
  cases h
  exact PW.pick [1, 2, 3, 4, 5, 6, 7, 0] rfl hx
def b_X5_prepare_69 (N : Nat) (x1 : Int32) (x2 : Int32) (x3 : Nat) (x4 : Int32) (x5 : Int32) (x6 : Int32) (x7 : Int32) (x8 : Int32) (s : cS) : Option ((Int32 × cS) ⊕ (((Int32 × Int32) × cS) ⊕ (Unit × cS))) :=
  if (f_X1_livesOf x7 s) ≤ x8 then
    oR (
      sb (pA s 119 8 x7 (f_X1_stamp s)) fun s14 =>
      sb (pA s14 120 8 x7 x2) fun s17 =>
      sb (pA s17 121 8 x7 x4) fun s20 =>
      sb (pA s20 122 8 x7 x5) fun s23 =>
      j_X5_prepare_168 x1 x2 x3 x4 x5 x6 x7 s23)
  else
    ob (f_X5_follow N x7 x8 x5 s) fun r25 s26 =>
    sb (pA s26 118 32 ((x7 * (4 : Int32)) + x8) (f_X8_ranBy 123 s26)) fun s30 =>
    some (.inl ((x8 + (1 : Int32)), s30))
set_option maxRecDepth 20000 in
set_option maxHeartbeats 4000000 in
theorem ok_b_X5_prepare_69 {g : pG} {l : Launch} {F : pF} {N : Nat} {x1 : Int32} {x2 : Int32} {x3 : Nat} {x4 : Int32} {x5 : Int32} {x6 : Int32} {x7 : Int32} {x8 : Int32} {s : cS} {x : ((Int32 × cS) ⊕ (((Int32 × Int32) × cS) ⊕ (Unit × cS)))} (h : b_X5_prepare_69 N x1 x2 x3 x4 x5 x6 x7 x8 s = some x) (hx : (KL (fun (v : Int32 × cS) => PW g l (pRoom 7 0 0) M_X5_prepare F 69 [(0, .ref 116), (1, .int x1), (2, .int x2), (3, .ref x3), (4, .int x4), (5, .int x5), (6, .int x6), (7, .int x7), (8, .int v.1)] [] (tS v.2) 0 0) (KL (fun (v : (Int32 × Int32) × cS) => PW g l (pRoom 7 0 0) M_X5_prepare F 11 [(0, .ref 116), (1, .int x1), (2, .int x2), (3, .ref x3), (4, .int x4), (5, .int x5), (6, .int v.1.1), (7, .int v.1.2)] [] (tS v.2) 0 0) (fun q => F = pE g none (tS q.2) 0 0))) x) : PW g l (pRoom 7 0 0) M_X5_prepare F 69 [(0, .ref 116), (1, .int x1), (2, .int x2), (3, .ref x3), (4, .int x4), (5, .int x5), (6, .int x6), (7, .int x7), (8, .int x8)] [] (tS s) 0 0 := by
  unfold b_X5_prepare_69 at h
  refine PW.iload 8 dX5_prepare_69 rfl ?_
  refine PW.aload_n 0 0 dX5_prepare_71 rfl rfl rfl ?_
  refine CW.getr dX5_prepare_72 fL_X5_32 LA_116 (Or.inl ⟨_, rfl⟩) rfl ?_
  refine PW.iload 7 dX5_prepare_75 rfl ?_
  refine CW.callVi (ci := 1) (st := [.int x8]) [.int x7] dX5_prepare_77 (p_X1_livesOf rfl) MV_X1_livesOf mL_X5_88 (by decide) rfl LA_3 rfl rfl (Nat.le_of_ble_eq_true rfl) (by first | decide | omega) ?_
  refine PW.icmp_ge (tgt := 120) dX5_prepare_80 (by decide) (fun c11 => ?_) (fun c11 => ?_)
  · replace h := ifp h c11
    obtain ⟨xo, hy, hxo⟩ := oRb h
    clear h
    subst hxo
    replace hx := KLr hx
    have h := hy
    clear hy
    refine PW.aload_n 0 0 dX5_prepare_120 rfl rfl rfl ?_
    refine CW.getr dX5_prepare_121 fL_X5_20 LA_116 (Or.inr ⟨_, rfl⟩) rfl ?_
    refine PW.iload 7 dX5_prepare_124 rfl ?_
    refine PW.aload_n 0 0 dX5_prepare_126 rfl rfl rfl ?_
    refine CW.getr dX5_prepare_127 fL_X5_32 LA_116 (Or.inl ⟨_, rfl⟩) rfl ?_
    refine CW.callVi (ci := 1) (st := [.int x7, .ref 119]) [] dX5_prepare_130 (p_X1_stamp rfl) MV_X1_stamp mL_X5_95 (by decide) rfl LA_3 rfl rfl (Nat.le_of_ble_eq_true rfl) (by first | decide | omega) ?_
    obtain ⟨s14, q15, h⟩ := sbnd h
    refine CW.callSNv (st := []) [.ref 119, .int x7, .int (f_X1_stamp s)] dX5_prepare_133 (ps_put LA_119 q15) MS_X11_put mN_X5_92 rfl rfl (Nat.le_of_ble_eq_true rfl) (by first | decide | omega) ?_
    refine PW.aload_n 0 0 dX5_prepare_136 rfl rfl rfl ?_
    refine CW.getr dX5_prepare_137 fL_X5_23 LA_116 (Or.inr ⟨_, rfl⟩) rfl ?_
    refine PW.iload 7 dX5_prepare_140 rfl ?_
    refine PW.iload_n 2 2 dX5_prepare_142 rfl rfl ?_
    obtain ⟨s17, q18, h⟩ := sbnd h
    refine CW.callSNv (st := []) [.ref 120, .int x7, .int x2] dX5_prepare_143 (ps_put LA_120 q18) MS_X11_put mN_X5_92 rfl rfl (Nat.le_of_ble_eq_true rfl) (by first | decide | omega) ?_
    refine PW.aload_n 0 0 dX5_prepare_146 rfl rfl rfl ?_
    refine CW.getr dX5_prepare_147 fL_X5_26 LA_116 (Or.inr ⟨_, rfl⟩) rfl ?_
    refine PW.iload 7 dX5_prepare_150 rfl ?_
    refine PW.iload 4 dX5_prepare_152 rfl ?_
    obtain ⟨s20, q21, h⟩ := sbnd h
    refine CW.callSNv (st := []) [.ref 121, .int x7, .int x4] dX5_prepare_154 (ps_put LA_121 q21) MS_X11_put mN_X5_92 rfl rfl (Nat.le_of_ble_eq_true rfl) (by first | decide | omega) ?_
    refine PW.aload_n 0 0 dX5_prepare_157 rfl rfl rfl ?_
    refine CW.getr dX5_prepare_158 fL_X5_29 LA_116 (Or.inr ⟨_, rfl⟩) rfl ?_
    refine PW.iload 7 dX5_prepare_161 rfl ?_
    refine PW.iload 5 dX5_prepare_163 rfl ?_
    obtain ⟨s23, q24, h⟩ := sbnd h
    refine CW.callSNv (st := []) [.ref 122, .int x7, .int x5] dX5_prepare_165 (ps_put LA_122 q24) MS_X11_put mN_X5_92 rfl rfl (Nat.le_of_ble_eq_true rfl) (by first | decide | omega) ?_
    exact PW.pick [0, 1, 2, 3, 4, 5, 6, 7] rfl (ok_j_X5_prepare_168 h hx)
  · replace h := ifn h c11
    refine PW.aload_n 0 0 dX5_prepare_83 rfl rfl rfl ?_
    refine PW.iload 7 dX5_prepare_84 rfl ?_
    refine PW.iload 8 dX5_prepare_86 rfl ?_
    refine PW.iload 5 dX5_prepare_88 rfl ?_
    obtain ⟨r25, s26, q27, h⟩ := obnd h
    refine CW.callVv (ci := 5) (st := []) [.int x7, .int x8, .int x5] dX5_prepare_90 (p_X5_follow q27) MV_X5_follow mL_X5_55 (by decide) rfl LA_116 rfl rfl (Nat.le_of_ble_eq_true rfl) (by first | decide | omega) ?_
    refine PW.aload_n 0 0 dX5_prepare_93 rfl rfl rfl ?_
    refine CW.getr dX5_prepare_94 fL_X5_17 LA_116 (Or.inr ⟨_, rfl⟩) rfl ?_
    refine PW.iload 7 dX5_prepare_97 rfl ?_
    refine PW.iconst (v := 4) dX5_prepare_99 (by decide) ?_
    refine PW.imul dX5_prepare_100 ?_
    refine PW.iload 8 dX5_prepare_101 rfl ?_
    refine PW.iadd dX5_prepare_103 ?_
    refine PW.aload_n 0 0 dX5_prepare_104 rfl rfl rfl ?_
    refine CW.getr dX5_prepare_105 fL_X5_41 LA_116 (Or.inl ⟨_, rfl⟩) rfl ?_
    refine CW.callVi (ci := 8) (st := [.int ((x7 * (4 : Int32)) + x8), .ref 118]) [] dX5_prepare_108 (p_X8_ranBy LA_123 rfl) MV_X8_ranBy mL_X5_62 (by decide) rfl LA_123 rfl rfl (Nat.le_of_ble_eq_true rfl) (by first | decide | omega) ?_
    obtain ⟨s30, q31, h⟩ := sbnd h
    refine CW.callSNv (st := []) [.ref 118, .int ((x7 * (4 : Int32)) + x8), .int (f_X8_ranBy 123 s26)] dX5_prepare_111 (ps_put LA_118 q31) MS_X11_put mN_X5_92 rfl rfl (Nat.le_of_ble_eq_true rfl) (by first | decide | omega) ?_
    refine PW.iinc (v := (x8 + (1 : Int32))) 8 dX5_prepare_114 rfl (by first | rfl | decide) (Nat.le_of_ble_eq_true rfl) rfl ?_
    refine PW.goto (tgt := 69) dX5_prepare_117 (by decide) ?_
    cases h
    exact PW.pick [1, 2, 3, 4, 5, 6, 7, 8, 0] rfl hx
def w_X5_prepare_69 (N : Nat) (x1 : Int32) (x2 : Int32) (x3 : Nat) (x4 : Int32) (x5 : Int32) (x6 : Int32) (x7 : Int32) (x8 : Int32) (s : cS) : Option (((Int32 × Int32) × cS) ⊕ (Unit × cS)) := itr (fun (v : Int32 × cS) => b_X5_prepare_69 N x1 x2 x3 x4 x5 x6 x7 v.1 v.2) N (x8, s)
theorem ok_w_X5_prepare_69 {g : pG} {l : Launch} {F : pF} {N : Nat} {x1 : Int32} {x2 : Int32} {x3 : Nat} {x4 : Int32} {x5 : Int32} {x6 : Int32} {x7 : Int32} {x8 : Int32} {s : cS} {x : (((Int32 × Int32) × cS) ⊕ (Unit × cS))} (h : w_X5_prepare_69 N x1 x2 x3 x4 x5 x6 x7 x8 s = some x) (hx : (KL (fun (v : (Int32 × Int32) × cS) => PW g l (pRoom 7 0 0) M_X5_prepare F 11 [(0, .ref 116), (1, .int x1), (2, .int x2), (3, .ref x3), (4, .int x4), (5, .int x5), (6, .int v.1.1), (7, .int v.1.2)] [] (tS v.2) 0 0) (fun q => F = pE g none (tS q.2) 0 0)) x) : PW g l (pRoom 7 0 0) M_X5_prepare F 69 [(0, .ref 116), (1, .int x1), (2, .int x2), (3, .ref x3), (4, .int x4), (5, .int x5), (6, .int x6), (7, .int x7), (8, .int x8)] [] (tS s) 0 0 :=
  okIter (P := (fun (v : Int32 × cS) => PW g l (pRoom 7 0 0) M_X5_prepare F 69 [(0, .ref 116), (1, .int x1), (2, .int x2), (3, .ref x3), (4, .int x4), (5, .int x5), (6, .int x6), (7, .int x7), (8, .int v.1)] [] (tS v.2) 0 0)) (K := (KL (fun (v : (Int32 × Int32) × cS) => PW g l (pRoom 7 0 0) M_X5_prepare F 11 [(0, .ref 116), (1, .int x1), (2, .int x2), (3, .ref x3), (4, .int x4), (5, .int x5), (6, .int v.1.1), (7, .int v.1.2)] [] (tS v.2) 0 0) (fun q => F = pE g none (tS q.2) 0 0))) (fun v y hB hy => ok_b_X5_prepare_69 hB hy) N (x8, s) x h hx
def j_X5_prepare_66 (N : Nat) (x1 : Int32) (x2 : Int32) (x3 : Nat) (x4 : Int32) (x5 : Int32) (x6 : Int32) (x7 : Int32) (s : cS) : Option (((Int32 × Int32) × cS) ⊕ (Unit × cS)) :=
  w_X5_prepare_69 N x1 x2 x3 x4 x5 x6 x7 (0 : Int32) s
set_option maxRecDepth 20000 in
set_option maxHeartbeats 4000000 in
theorem ok_j_X5_prepare_66 {g : pG} {l : Launch} {F : pF} {N : Nat} {x1 : Int32} {x2 : Int32} {x3 : Nat} {x4 : Int32} {x5 : Int32} {x6 : Int32} {x7 : Int32} {s : cS} {x : (((Int32 × Int32) × cS) ⊕ (Unit × cS))} (h : j_X5_prepare_66 N x1 x2 x3 x4 x5 x6 x7 s = some x) (hx : (KL (fun (v : (Int32 × Int32) × cS) => PW g l (pRoom 7 0 0) M_X5_prepare F 11 [(0, .ref 116), (1, .int x1), (2, .int x2), (3, .ref x3), (4, .int x4), (5, .int x5), (6, .int v.1.1), (7, .int v.1.2)] [] (tS v.2) 0 0) (fun q => F = pE g none (tS q.2) 0 0)) x) : PW g l (pRoom 7 0 0) M_X5_prepare F 66 [(0, .ref 116), (1, .int x1), (2, .int x2), (3, .ref x3), (4, .int x4), (5, .int x5), (6, .int x6), (7, .int x7)] [] (tS s) 0 0 := by
  unfold j_X5_prepare_66 at h
  refine PW.iconst (v := 0) dX5_prepare_66 (by decide) ?_
  refine PW.istore dX5_prepare_67 (Nat.le_of_ble_eq_true rfl) rfl ?_
  exact PW.pick [1, 2, 3, 4, 5, 6, 7, 8, 0] rfl (ok_w_X5_prepare_69 h hx)
def b_X5_prepare_11 (N : Nat) (x1 : Int32) (x2 : Int32) (x3 : Nat) (x4 : Int32) (x5 : Int32) (x6 : Int32) (x7 : Int32) (s : cS) : Option (((Int32 × Int32) × cS) ⊕ (Unit × cS)) :=
  if (f_X1_size s) ≤ x7 then
    oR (
      some (((), s)))
  else
    if (f_X5_isIn x1 x7 s) = 0 then
      j_X5_prepare_168 x1 x2 x3 x4 x5 x6 x7 s
    else
      if (f_X5_isKnown x7 x2 x4 x5 s) = 0 then
        if x6 = 0 then
          if kd x3 6 then
          ob (f_X6_layOut N x3 x4 x5 s) fun r33 s34 =>
          j_X5_prepare_66 N x1 x2 x3 x4 x5 (1 : Int32) x7 s34
          else none
        else
          j_X5_prepare_66 N x1 x2 x3 x4 x5 x6 x7 s
      else
        j_X5_prepare_168 x1 x2 x3 x4 x5 x6 x7 s
set_option maxRecDepth 20000 in
set_option maxHeartbeats 4000000 in
theorem ok_b_X5_prepare_11 {g : pG} {l : Launch} {F : pF} {N : Nat} {x1 : Int32} {x2 : Int32} {x3 : Nat} {x4 : Int32} {x5 : Int32} {x6 : Int32} {x7 : Int32} {s : cS} {x : (((Int32 × Int32) × cS) ⊕ (Unit × cS))} (h : b_X5_prepare_11 N x1 x2 x3 x4 x5 x6 x7 s = some x) (hx : (KL (fun (v : (Int32 × Int32) × cS) => PW g l (pRoom 7 0 0) M_X5_prepare F 11 [(0, .ref 116), (1, .int x1), (2, .int x2), (3, .ref x3), (4, .int x4), (5, .int x5), (6, .int v.1.1), (7, .int v.1.2)] [] (tS v.2) 0 0) (fun q => F = pE g none (tS q.2) 0 0)) x) : PW g l (pRoom 7 0 0) M_X5_prepare F 11 [(0, .ref 116), (1, .int x1), (2, .int x2), (3, .ref x3), (4, .int x4), (5, .int x5), (6, .int x6), (7, .int x7)] [] (tS s) 0 0 := by
  unfold b_X5_prepare_11 at h
  refine PW.iload 7 dX5_prepare_11 rfl ?_
  refine PW.aload_n 0 0 dX5_prepare_13 rfl rfl rfl ?_
  refine CW.getr dX5_prepare_14 fL_X5_32 LA_116 (Or.inl ⟨_, rfl⟩) rfl ?_
  refine CW.callVi (ci := 1) (st := [.int x7]) [] dX5_prepare_17 (p_X1_size rfl) MV_X1_size mL_X5_77 (by decide) rfl LA_3 rfl rfl (Nat.le_of_ble_eq_true rfl) (by first | decide | omega) ?_
  refine PW.icmp_ge (tgt := 174) dX5_prepare_20 (by decide) (fun c4 => ?_) (fun c4 => ?_)
  · replace h := ifp h c4
    obtain ⟨xo, hy, hxo⟩ := oRb h
    clear h
    subst hxo
    replace hx := KLr hx
    have h := hy
    clear hy
    cases h
    subst hx
    exact PW.vret dX5_prepare_174 rfl (Nat.le_refl 0) (Nat.le_refl 0)
  · replace h := ifn h c4
    refine PW.iload_n 1 1 dX5_prepare_23 rfl rfl ?_
    refine PW.iload 7 dX5_prepare_24 rfl ?_
    refine CW.callSi (st := []) [.int x1, .int x7] dX5_prepare_26 (p_X5_isIn rfl) MS_X5_isIn mL_X5_80 rfl rfl (Nat.le_of_ble_eq_true rfl) (by first | decide | omega) ?_
    refine PW.if_eq (tgt := 168) dX5_prepare_29 (by decide) (fun c6 => ?_) (fun c6 => ?_)
    · replace h := ifp h c6
      exact PW.pick [0, 1, 2, 3, 4, 5, 6, 7] rfl (ok_j_X5_prepare_168 h hx)
    · replace h := ifn h c6
      refine PW.aload_n 0 0 dX5_prepare_32 rfl rfl rfl ?_
      refine PW.iload 7 dX5_prepare_33 rfl ?_
      refine PW.iload_n 2 2 dX5_prepare_35 rfl rfl ?_
      refine PW.iload 4 dX5_prepare_36 rfl ?_
      refine PW.iload 5 dX5_prepare_38 rfl ?_
      refine CW.callVi (ci := 5) (st := []) [.int x7, .int x2, .int x4, .int x5] dX5_prepare_40 (p_X5_isKnown rfl) MV_X5_isKnown mL_X5_84 (by decide) rfl LA_116 rfl rfl (Nat.le_of_ble_eq_true rfl) (by first | decide | omega) ?_
      refine PW.if_ne (tgt := 168) dX5_prepare_43 (by decide) (fun c8 => ?_) (fun c8 => ?_)
      · replace h := ifn h c8
        exact PW.pick [0, 1, 2, 3, 4, 5, 6, 7] rfl (ok_j_X5_prepare_168 h hx)
      · replace h := ifp h c8
        refine PW.iload 6 dX5_prepare_46 rfl ?_
        refine PW.if_ne (tgt := 66) dX5_prepare_48 (by decide) (fun c9 => ?_) (fun c9 => ?_)
        · replace h := ifn h c9
          exact PW.pick [0, 1, 2, 3, 4, 5, 6, 7] rfl (ok_j_X5_prepare_66 h hx)
        · replace h := ifp h c9
          refine PW.aload_n 3 3 dX5_prepare_51 rfl rfl rfl ?_
          refine PW.aload_n 0 0 dX5_prepare_52 rfl rfl rfl ?_
          refine CW.getr dX5_prepare_53 fL_X5_9 LA_116 (Or.inr ⟨_, rfl⟩) rfl ?_
          refine PW.iload 4 dX5_prepare_56 rfl ?_
          refine PW.iload 5 dX5_prepare_58 rfl ?_
          by_cases c32 : kd x3 6
          rotate_left
          · have h := ifn h c32; cases h
          replace h := ifp h c32
          obtain ⟨r33, s34, q35, h⟩ := obnd h
          refine CW.callVv (ci := 6) (st := []) [.ref 117, .int x4, .int x5] dX5_prepare_60 (p_X6_layOut c32 q35) MV_X6_layOut mL_X5_45 (by decide) rfl c32 rfl rfl (Nat.le_of_ble_eq_true rfl) (by first | decide | omega) ?_
          refine PW.iconst (v := 1) dX5_prepare_63 (by decide) ?_
          refine PW.istore dX5_prepare_64 (Nat.le_of_ble_eq_true rfl) rfl ?_
          exact PW.pick [1, 2, 3, 4, 5, 6, 0, 7] rfl (ok_j_X5_prepare_66 h hx)
def w_X5_prepare_11 (N : Nat) (x1 : Int32) (x2 : Int32) (x3 : Nat) (x4 : Int32) (x5 : Int32) (x6 : Int32) (x7 : Int32) (s : cS) : Option (Unit × cS) := itr (fun (v : (Int32 × Int32) × cS) => b_X5_prepare_11 N x1 x2 x3 x4 x5 v.1.1 v.1.2 v.2) N ((x6, x7), s)
theorem ok_w_X5_prepare_11 {g : pG} {l : Launch} {F : pF} {N : Nat} {x1 : Int32} {x2 : Int32} {x3 : Nat} {x4 : Int32} {x5 : Int32} {x6 : Int32} {x7 : Int32} {s : cS} {x : (Unit × cS)} (h : w_X5_prepare_11 N x1 x2 x3 x4 x5 x6 x7 s = some x) (hx : (fun q => F = pE g none (tS q.2) 0 0) x) : PW g l (pRoom 7 0 0) M_X5_prepare F 11 [(0, .ref 116), (1, .int x1), (2, .int x2), (3, .ref x3), (4, .int x4), (5, .int x5), (6, .int x6), (7, .int x7)] [] (tS s) 0 0 :=
  okIter (P := (fun (v : (Int32 × Int32) × cS) => PW g l (pRoom 7 0 0) M_X5_prepare F 11 [(0, .ref 116), (1, .int x1), (2, .int x2), (3, .ref x3), (4, .int x4), (5, .int x5), (6, .int v.1.1), (7, .int v.1.2)] [] (tS v.2) 0 0)) (K := (fun q => F = pE g none (tS q.2) 0 0)) (fun v y hB hy => ok_b_X5_prepare_11 hB hy) N ((x6, x7), s) x h hx
def f_X5_prepare (N : Nat) (a0 : Int32) (a1 : Int32) (a2 : Option Nat) (a3 : Int32) (a4 : Int32) (s : cS) : Option (Unit × cS) :=
  orf a2 (
    some (((), s))) fun T2 =>
    w_X5_prepare_11 N a0 a1 T2 a3 a4 (0 : Int32) (0 : Int32) s
set_option maxRecDepth 20000 in
set_option maxHeartbeats 4000000 in
theorem p_X5_prepare {g : pG} {l : Launch} {N : Nat} {a0 : Int32} {a1 : Int32} {a2 : Option Nat} {a3 : Int32} {a4 : Int32} {s : cS} {q : Unit × cS} (h : f_X5_prepare N a0 a1 a2 a3 a4 s = some q) : PM g l 7 M_X5_prepare [.ref 116, .int a0, .int a1, va_rf a2, .int a3, .int a4] (tS s) none (tS q.2) 0 0 := by
  refine PM.of (by decide +kernel) (by cases a2 <;> exact Nat.le_of_ble_eq_true rfl) ?_
  rw [show lv_args 0 [.ref 116, .int a0, .int a1, va_rf a2, .int a3, .int a4] = [(0, .ref 116), (1, .int a0), (2, .int a1), (3, va_rf a2), (4, .int a3), (5, .int a4)] from by cases a2 <;> rfl]
  show PW g l (pRoom 7 0 0) M_X5_prepare _ 0 [(0, .ref 116), (1, .int a0), (2, .int a1), (3, va_rf a2), (4, .int a3), (5, .int a4)] [] (tS s) 0 0
  unfold f_X5_prepare at h
  generalize hF : pE g none (tS q.2) 0 0 = F
  have hx := hF.symm
  refine PW.aload_n 3 3 dX5_prepare_0 rfl rfl (isA_rf _) ?_
  rcases c1 : a2 with _ | T2
  · replace h := orfn h c1
    try rw [c1]
    show PW _ _ _ _ _ _ [(0, .ref 116), (1, .int a0), (2, .int a1), (3, .null), (4, .int a3), (5, .int a4)] (.null :: []) _ _ _
    refine PW.ifnonnull_null dX5_prepare_1 ?_
    cases h
    subst hx
    exact PW.vret dX5_prepare_4 rfl (Nat.le_refl 0) (Nat.le_refl 0)
  · replace h := orfs h c1
    try rw [c1]
    show PW _ _ _ _ _ _ [(0, .ref 116), (1, .int a0), (2, .int a1), (3, .ref T2), (4, .int a3), (5, .int a4)] (.ref T2 :: []) _ _ _
    refine PW.ifnonnull_ref (tgt := 5) dX5_prepare_1 (by decide) ?_
    refine PW.iconst (v := 0) dX5_prepare_5 (by decide) ?_
    refine PW.istore dX5_prepare_6 (Nat.le_of_ble_eq_true rfl) rfl ?_
    refine PW.iconst (v := 0) dX5_prepare_8 (by decide) ?_
    refine PW.istore dX5_prepare_9 (Nat.le_of_ble_eq_true rfl) rfl ?_
    exact PW.pick [2, 3, 4, 5, 6, 7, 1, 0] rfl (ok_w_X5_prepare_11 h hx)
/-! X5_weightPast -/
def j_X5_weightPast_75 (x1 : Int32) (x2 : Int32) (x3 : Int32) (x4 : Int64) (x6 : Int32) (s : cS) : Option (((Int64 × Int32) × cS) ⊕ (Int64 × cS)) :=
  some (.inl ((x4, (x6 + (1 : Int32))), s))
set_option maxRecDepth 20000 in
set_option maxHeartbeats 4000000 in
theorem ok_j_X5_weightPast_75 {g : pG} {l : Launch} {F : pF} {x1 : Int32} {x2 : Int32} {x3 : Int32} {x4 : Int64} {x6 : Int32} {s : cS} {x : (((Int64 × Int32) × cS) ⊕ (Int64 × cS))} (h : j_X5_weightPast_75 x1 x2 x3 x4 x6 s = some x) (hx : (KL (fun (v : (Int64 × Int32) × cS) => PW g l (pRoom 3 0 0) M_X5_weightPast F 23 [(0, .ref 116), (1, .int x1), (2, .int x2), (3, .int x3), (4, .long v.1.1), (6, .int v.1.2)] [] (tS v.2) 0 0) (fun q => F = pE g (some (.long q.1)) (tS q.2) 0 0)) x) : PW g l (pRoom 3 0 0) M_X5_weightPast F 75 [(0, .ref 116), (1, .int x1), (2, .int x2), (3, .int x3), (4, .long x4), (6, .int x6)] [] (tS s) 0 0 := by
  unfold j_X5_weightPast_75 at h
  refine PW.iinc (v := (x6 + (1 : Int32))) 5 dX5_weightPast_75 rfl (by first | rfl | decide) (Nat.le_of_ble_eq_true rfl) rfl ?_
  refine PW.goto (tgt := 23) dX5_weightPast_78 (by decide) ?_
  cases h
  exact PW.pick [1, 2, 3, 4, 5, 0] rfl hx
def j_X5_weightPast_59 (x1 : Int32) (x2 : Int32) (x3 : Int32) (x4 : Int64) (x6 : Int32) (s : cS) : Option (((Int64 × Int32) × cS) ⊕ (Int64 × cS)) :=
  j_X5_weightPast_75 x1 x2 x3 (x4 + (f_X1_weightOf x1 x6 s).toInt64) x6 s
set_option maxRecDepth 20000 in
set_option maxHeartbeats 4000000 in
theorem ok_j_X5_weightPast_59 {g : pG} {l : Launch} {F : pF} {x1 : Int32} {x2 : Int32} {x3 : Int32} {x4 : Int64} {x6 : Int32} {s : cS} {x : (((Int64 × Int32) × cS) ⊕ (Int64 × cS))} (h : j_X5_weightPast_59 x1 x2 x3 x4 x6 s = some x) (hx : (KL (fun (v : (Int64 × Int32) × cS) => PW g l (pRoom 3 0 0) M_X5_weightPast F 23 [(0, .ref 116), (1, .int x1), (2, .int x2), (3, .int x3), (4, .long v.1.1), (6, .int v.1.2)] [] (tS v.2) 0 0) (fun q => F = pE g (some (.long q.1)) (tS q.2) 0 0)) x) : PW g l (pRoom 3 0 0) M_X5_weightPast F 59 [(0, .ref 116), (1, .int x1), (2, .int x2), (3, .int x3), (4, .long x4), (6, .int x6)] [] (tS s) 0 0 := by
  unfold j_X5_weightPast_59 at h
  refine PW.lload 4 dX5_weightPast_59 rfl ?_
  refine PW.aload_n 0 0 dX5_weightPast_61 rfl rfl rfl ?_
  refine CW.getr dX5_weightPast_62 fL_X5_32 LA_116 (Or.inl ⟨_, rfl⟩) rfl ?_
  refine PW.iload_n 1 1 dX5_weightPast_65 rfl rfl ?_
  refine PW.iload 5 dX5_weightPast_66 rfl ?_
  refine CW.callVi (ci := 1) (st := [.long x4]) [.int x1, .int x6] dX5_weightPast_68 (p_X1_weightOf rfl) MV_X1_weightOf mL_X5_106 (by decide) rfl LA_3 rfl rfl (Nat.le_of_ble_eq_true rfl) (by first | decide | omega) ?_
  refine PW.i2l dX5_weightPast_71 ?_
  refine PW.ladd dX5_weightPast_72 ?_
  refine PW.lstore dX5_weightPast_73 (Nat.le_of_ble_eq_true rfl) rfl ?_
  exact PW.pick [1, 2, 3, 4, 0, 5] rfl (ok_j_X5_weightPast_75 h hx)
def b_X5_weightPast_23 (x1 : Int32) (x2 : Int32) (x3 : Int32) (x4 : Int64) (x6 : Int32) (s : cS) : Option (((Int64 × Int32) × cS) ⊕ (Int64 × cS)) :=
  if x3 ≤ x6 then
    oR (
      some ((x4, s)))
  else
    if x2 = 0 then
      j_X5_weightPast_59 x1 x2 x3 x4 x6 s
    else
      if (aA s 118 32 ((x1 * (4 : Int32)) + x6)) = 0 then
        j_X5_weightPast_59 x1 x2 x3 x4 x6 s
      else
        if (aA s 118 32 ((x1 * (4 : Int32)) + x6)) ≤ x2 then
          j_X5_weightPast_75 x1 x2 x3 x4 x6 s
        else
          j_X5_weightPast_59 x1 x2 x3 x4 x6 s
set_option maxRecDepth 20000 in
set_option maxHeartbeats 4000000 in
theorem ok_b_X5_weightPast_23 {g : pG} {l : Launch} {F : pF} {x1 : Int32} {x2 : Int32} {x3 : Int32} {x4 : Int64} {x6 : Int32} {s : cS} {x : (((Int64 × Int32) × cS) ⊕ (Int64 × cS))} (h : b_X5_weightPast_23 x1 x2 x3 x4 x6 s = some x) (hx : (KL (fun (v : (Int64 × Int32) × cS) => PW g l (pRoom 3 0 0) M_X5_weightPast F 23 [(0, .ref 116), (1, .int x1), (2, .int x2), (3, .int x3), (4, .long v.1.1), (6, .int v.1.2)] [] (tS v.2) 0 0) (fun q => F = pE g (some (.long q.1)) (tS q.2) 0 0)) x) : PW g l (pRoom 3 0 0) M_X5_weightPast F 23 [(0, .ref 116), (1, .int x1), (2, .int x2), (3, .int x3), (4, .long x4), (6, .int x6)] [] (tS s) 0 0 := by
  unfold b_X5_weightPast_23 at h
  refine PW.iload 5 dX5_weightPast_23 rfl ?_
  refine PW.iload_n 3 3 dX5_weightPast_25 rfl rfl ?_
  refine PW.icmp_ge (tgt := 81) dX5_weightPast_26 (by decide) (fun c3 => ?_) (fun c3 => ?_)
  · replace h := ifp h c3
    obtain ⟨xo, hy, hxo⟩ := oRb h
    clear h
    subst hxo
    replace hx := KLr hx
    have h := hy
    clear hy
    refine PW.lload 4 dX5_weightPast_81 rfl ?_
    cases h
    subst hx
    exact PW.lret dX5_weightPast_83 rfl (Nat.le_refl 0) (Nat.le_refl 0)
  · replace h := ifn h c3
    refine PW.aload_n 0 0 dX5_weightPast_29 rfl rfl rfl ?_
    refine CW.getr dX5_weightPast_30 fL_X5_17 LA_116 (Or.inr ⟨_, rfl⟩) rfl ?_
    refine PW.iload_n 1 1 dX5_weightPast_33 rfl rfl ?_
    refine PW.iconst (v := 4) dX5_weightPast_34 (by decide) ?_
    refine PW.imul dX5_weightPast_35 ?_
    refine PW.iload 5 dX5_weightPast_36 rfl ?_
    refine PW.iadd dX5_weightPast_38 ?_
    refine CW.callSNi (st := []) [.ref 118, .int ((x1 * (4 : Int32)) + x6)] dX5_weightPast_39 (ps_at LA_118 rfl) MS_X11_at mN_X5_98 rfl rfl (Nat.le_of_ble_eq_true rfl) (by first | decide | omega) ?_
    refine PW.istore dX5_weightPast_42 (Nat.le_of_ble_eq_true rfl) rfl ?_
    refine PW.iload_n 3 2 dX5_weightPast_44 rfl rfl ?_
    refine PW.if_eq (tgt := 59) dX5_weightPast_45 (by decide) (fun c5 => ?_) (fun c5 => ?_)
    · replace h := ifp h c5
      exact PW.pick [1, 2, 3, 4, 5, 6] rfl (ok_j_X5_weightPast_59 h hx)
    · replace h := ifn h c5
      refine PW.iload 0 dX5_weightPast_48 rfl ?_
      refine PW.if_eq (tgt := 59) dX5_weightPast_50 (by decide) (fun c7 => ?_) (fun c7 => ?_)
      · replace h := ifp h c7
        exact PW.pick [1, 2, 3, 4, 5, 6] rfl (ok_j_X5_weightPast_59 h hx)
      · replace h := ifn h c7
        refine PW.iload 0 dX5_weightPast_53 rfl ?_
        refine PW.iload_n 3 2 dX5_weightPast_55 rfl rfl ?_
        refine PW.icmp_le (tgt := 75) dX5_weightPast_56 (by decide) (fun c8 => ?_) (fun c8 => ?_)
        · replace h := ifp h c8
          exact PW.pick [1, 2, 3, 4, 5, 6] rfl (ok_j_X5_weightPast_75 h hx)
        · replace h := ifn h c8
          exact PW.pick [1, 2, 3, 4, 5, 6] rfl (ok_j_X5_weightPast_59 h hx)
def w_X5_weightPast_23 (N : Nat) (x1 : Int32) (x2 : Int32) (x3 : Int32) (x4 : Int64) (x6 : Int32) (s : cS) : Option (Int64 × cS) := itr (fun (v : (Int64 × Int32) × cS) => b_X5_weightPast_23 x1 x2 x3 v.1.1 v.1.2 v.2) N ((x4, x6), s)
theorem ok_w_X5_weightPast_23 {g : pG} {l : Launch} {F : pF} {N : Nat} {x1 : Int32} {x2 : Int32} {x3 : Int32} {x4 : Int64} {x6 : Int32} {s : cS} {x : (Int64 × cS)} (h : w_X5_weightPast_23 N x1 x2 x3 x4 x6 s = some x) (hx : (fun q => F = pE g (some (.long q.1)) (tS q.2) 0 0) x) : PW g l (pRoom 3 0 0) M_X5_weightPast F 23 [(0, .ref 116), (1, .int x1), (2, .int x2), (3, .int x3), (4, .long x4), (6, .int x6)] [] (tS s) 0 0 :=
  okIter (P := (fun (v : (Int64 × Int32) × cS) => PW g l (pRoom 3 0 0) M_X5_weightPast F 23 [(0, .ref 116), (1, .int x1), (2, .int x2), (3, .int x3), (4, .long v.1.1), (6, .int v.1.2)] [] (tS v.2) 0 0)) (K := (fun q => F = pE g (some (.long q.1)) (tS q.2) 0 0)) (fun v y hB hy => ok_b_X5_weightPast_23 hB hy) N ((x4, x6), s) x h hx
def j_X5_weightPast_18 (N : Nat) (x1 : Int32) (x2 : Int32) (x3 : Int32) (y0 : Int64) (s : cS) : Option (Int64 × cS) :=
  w_X5_weightPast_23 N x1 x2 x3 y0 (0 : Int32) s
set_option maxRecDepth 20000 in
set_option maxHeartbeats 4000000 in
theorem ok_j_X5_weightPast_18 {g : pG} {l : Launch} {F : pF} {N : Nat} {x1 : Int32} {x2 : Int32} {x3 : Int32} {y0 : Int64} {s : cS} {x : (Int64 × cS)} (h : j_X5_weightPast_18 N x1 x2 x3 y0 s = some x) (hx : (fun q => F = pE g (some (.long q.1)) (tS q.2) 0 0) x) : PW g l (pRoom 3 0 0) M_X5_weightPast F 18 [(0, .ref 116), (1, .int x1), (2, .int x2), (3, .int x3)] [.long y0] (tS s) 0 0 := by
  unfold j_X5_weightPast_18 at h
  refine PW.lstore dX5_weightPast_18 (Nat.le_of_ble_eq_true rfl) rfl ?_
  refine PW.iconst (v := 0) dX5_weightPast_20 (by decide) ?_
  refine PW.istore dX5_weightPast_21 (Nat.le_of_ble_eq_true rfl) rfl ?_
  exact PW.pick [2, 3, 4, 5, 1, 0] rfl (ok_w_X5_weightPast_23 h hx)
def f_X5_weightPast (N : Nat) (a0 : Int32) (a1 : Int32) (s : cS) : Option (Int64 × cS) :=
  if (f_X1_livesOf a0 s) = 0 then
    j_X5_weightPast_18 N a0 a1 (f_X1_livesOf a0 s) (1 : Int64) s
  else
    j_X5_weightPast_18 N a0 a1 (f_X1_livesOf a0 s) (0 : Int64) s
set_option maxRecDepth 20000 in
set_option maxHeartbeats 4000000 in
theorem p_X5_weightPast {g : pG} {l : Launch} {N : Nat} {a0 : Int32} {a1 : Int32} {s : cS} {q : Int64 × cS} (h : f_X5_weightPast N a0 a1 s = some q) : PM g l 3 M_X5_weightPast [.ref 116, .int a0, .int a1] (tS s) (some (.long q.1)) (tS q.2) 0 0 := by
  refine PM.of (by decide +kernel) (Nat.le_of_ble_eq_true rfl) ?_
  show PW g l (pRoom 3 0 0) M_X5_weightPast _ 0 [(0, .ref 116), (1, .int a0), (2, .int a1)] [] (tS s) 0 0
  unfold f_X5_weightPast at h
  generalize hF : pE g (some (.long q.1)) (tS q.2) 0 0 = F
  have hx := hF.symm
  refine PW.aload_n 0 0 dX5_weightPast_0 rfl rfl rfl ?_
  refine CW.getr dX5_weightPast_1 fL_X5_32 LA_116 (Or.inl ⟨_, rfl⟩) rfl ?_
  refine PW.iload_n 1 1 dX5_weightPast_4 rfl rfl ?_
  refine CW.callVi (ci := 1) (st := []) [.int a0] dX5_weightPast_5 (p_X1_livesOf rfl) MV_X1_livesOf mL_X5_88 (by decide) rfl LA_3 rfl rfl (Nat.le_of_ble_eq_true rfl) (by first | decide | omega) ?_
  refine PW.istore_n dX5_weightPast_8 rfl (Nat.le_of_ble_eq_true rfl) rfl ?_
  refine PW.iload_n 0 3 dX5_weightPast_9 rfl rfl ?_
  refine PW.if_ne (tgt := 17) dX5_weightPast_10 (by decide) (fun c2 => ?_) (fun c2 => ?_)
  · replace h := ifn h c2
    refine PW.lconst (v := 0) dX5_weightPast_17 (by decide) ?_
    exact PW.pick [1, 2, 3, 0] rfl (ok_j_X5_weightPast_18 h hx)
  · replace h := ifp h c2
    refine PW.lconst (v := 1) dX5_weightPast_13 (by decide) ?_
    refine PW.goto (tgt := 18) dX5_weightPast_14 (by decide) ?_
    exact PW.pick [1, 2, 3, 0] rfl (ok_j_X5_weightPast_18 h hx)
/-! X5_ways -/
def j_X5_ways_36 (x1 : Int32) (x2 : Int64) (x4 : Int32) (s : cS) : Option (((Int64 × Int32) × cS) ⊕ (Int64 × cS)) :=
  some (.inl ((x2, (x4 + (1 : Int32))), s))
set_option maxRecDepth 20000 in
set_option maxHeartbeats 4000000 in
theorem ok_j_X5_ways_36 {g : pG} {l : Launch} {F : pF} {x1 : Int32} {x2 : Int64} {x4 : Int32} {s : cS} {x : (((Int64 × Int32) × cS) ⊕ (Int64 × cS))} (h : j_X5_ways_36 x1 x2 x4 s = some x) (hx : (KL (fun (v : (Int64 × Int32) × cS) => PW g l (pRoom 4 0 0) M_X5_ways F 5 [(0, .ref 116), (1, .int x1), (2, .long v.1.1), (4, .int v.1.2)] [] (tS v.2) 0 0) (fun q => F = pE g (some (.long q.1)) (tS q.2) 0 0)) x) : PW g l (pRoom 4 0 0) M_X5_ways F 36 [(0, .ref 116), (1, .int x1), (2, .long x2), (4, .int x4)] [] (tS s) 0 0 := by
  unfold j_X5_ways_36 at h
  refine PW.iinc (v := (x4 + (1 : Int32))) 3 dX5_ways_36 rfl (by first | rfl | decide) (Nat.le_of_ble_eq_true rfl) rfl ?_
  refine PW.goto (tgt := 5) dX5_ways_39 (by decide) ?_
  cases h
  exact PW.pick [1, 2, 3, 0] rfl hx
def b_X5_ways_5 (N : Nat) (x1 : Int32) (x2 : Int64) (x4 : Int32) (s : cS) : Option (((Int64 × Int32) × cS) ⊕ (Int64 × cS)) :=
  if (f_X1_size s) ≤ x4 then
    oR (
      some ((x2, s)))
  else
    if (f_X5_isIn x1 x4 s) = 0 then
      j_X5_ways_36 x1 x2 x4 s
    else
      ob (f_X5_weightPast N x4 (0 : Int32) s) fun r5 s6 =>
      j_X5_ways_36 x1 (x2 * r5) x4 s6
set_option maxRecDepth 20000 in
set_option maxHeartbeats 4000000 in
theorem ok_b_X5_ways_5 {g : pG} {l : Launch} {F : pF} {N : Nat} {x1 : Int32} {x2 : Int64} {x4 : Int32} {s : cS} {x : (((Int64 × Int32) × cS) ⊕ (Int64 × cS))} (h : b_X5_ways_5 N x1 x2 x4 s = some x) (hx : (KL (fun (v : (Int64 × Int32) × cS) => PW g l (pRoom 4 0 0) M_X5_ways F 5 [(0, .ref 116), (1, .int x1), (2, .long v.1.1), (4, .int v.1.2)] [] (tS v.2) 0 0) (fun q => F = pE g (some (.long q.1)) (tS q.2) 0 0)) x) : PW g l (pRoom 4 0 0) M_X5_ways F 5 [(0, .ref 116), (1, .int x1), (2, .long x2), (4, .int x4)] [] (tS s) 0 0 := by
  unfold b_X5_ways_5 at h
  refine PW.iload 3 dX5_ways_5 rfl ?_
  refine PW.aload_n 0 0 dX5_ways_7 rfl rfl rfl ?_
  refine CW.getr dX5_ways_8 fL_X5_32 LA_116 (Or.inl ⟨_, rfl⟩) rfl ?_
  refine CW.callVi (ci := 1) (st := [.int x4]) [] dX5_ways_11 (p_X1_size rfl) MV_X1_size mL_X5_77 (by decide) rfl LA_3 rfl rfl (Nat.le_of_ble_eq_true rfl) (by first | decide | omega) ?_
  refine PW.icmp_ge (tgt := 42) dX5_ways_14 (by decide) (fun c2 => ?_) (fun c2 => ?_)
  · replace h := ifp h c2
    obtain ⟨xo, hy, hxo⟩ := oRb h
    clear h
    subst hxo
    replace hx := KLr hx
    have h := hy
    clear hy
    refine PW.lload_n 2 2 dX5_ways_42 rfl rfl ?_
    cases h
    subst hx
    exact PW.lret dX5_ways_43 rfl (Nat.le_refl 0) (Nat.le_refl 0)
  · replace h := ifn h c2
    refine PW.iload_n 1 1 dX5_ways_17 rfl rfl ?_
    refine PW.iload 3 dX5_ways_18 rfl ?_
    refine CW.callSi (st := []) [.int x1, .int x4] dX5_ways_20 (p_X5_isIn rfl) MS_X5_isIn mL_X5_80 rfl rfl (Nat.le_of_ble_eq_true rfl) (by first | decide | omega) ?_
    refine PW.if_eq (tgt := 36) dX5_ways_23 (by decide) (fun c4 => ?_) (fun c4 => ?_)
    · replace h := ifp h c4
      exact PW.pick [0, 1, 2, 3] rfl (ok_j_X5_ways_36 h hx)
    · replace h := ifn h c4
      refine PW.lload_n 2 2 dX5_ways_26 rfl rfl ?_
      refine PW.aload_n 0 0 dX5_ways_27 rfl rfl rfl ?_
      refine PW.iload 3 dX5_ways_28 rfl ?_
      refine PW.iconst (v := 0) dX5_ways_30 (by decide) ?_
      obtain ⟨r5, s6, q7, h⟩ := obnd h
      refine CW.callVl (ci := 5) (st := [.long x2]) [.int x4, .int (0 : Int32)] dX5_ways_31 (p_X5_weightPast q7) MV_X5_weightPast mL_X5_102 (by decide) rfl LA_116 rfl rfl (Nat.le_of_ble_eq_true rfl) (by first | decide | omega) ?_
      refine PW.lmul dX5_ways_34 ?_
      refine PW.lstore_n dX5_ways_35 rfl (Nat.le_of_ble_eq_true rfl) rfl ?_
      exact PW.pick [1, 2, 0, 3] rfl (ok_j_X5_ways_36 h hx)
def w_X5_ways_5 (N : Nat) (x1 : Int32) (x2 : Int64) (x4 : Int32) (s : cS) : Option (Int64 × cS) := itr (fun (v : (Int64 × Int32) × cS) => b_X5_ways_5 N x1 v.1.1 v.1.2 v.2) N ((x2, x4), s)
theorem ok_w_X5_ways_5 {g : pG} {l : Launch} {F : pF} {N : Nat} {x1 : Int32} {x2 : Int64} {x4 : Int32} {s : cS} {x : (Int64 × cS)} (h : w_X5_ways_5 N x1 x2 x4 s = some x) (hx : (fun q => F = pE g (some (.long q.1)) (tS q.2) 0 0) x) : PW g l (pRoom 4 0 0) M_X5_ways F 5 [(0, .ref 116), (1, .int x1), (2, .long x2), (4, .int x4)] [] (tS s) 0 0 :=
  okIter (P := (fun (v : (Int64 × Int32) × cS) => PW g l (pRoom 4 0 0) M_X5_ways F 5 [(0, .ref 116), (1, .int x1), (2, .long v.1.1), (4, .int v.1.2)] [] (tS v.2) 0 0)) (K := (fun q => F = pE g (some (.long q.1)) (tS q.2) 0 0)) (fun v y hB hy => ok_b_X5_ways_5 hB hy) N ((x2, x4), s) x h hx
def f_X5_ways (N : Nat) (a0 : Int32) (s : cS) : Option (Int64 × cS) :=
  w_X5_ways_5 N a0 (1 : Int64) (0 : Int32) s
set_option maxRecDepth 20000 in
set_option maxHeartbeats 4000000 in
theorem p_X5_ways {g : pG} {l : Launch} {N : Nat} {a0 : Int32} {s : cS} {q : Int64 × cS} (h : f_X5_ways N a0 s = some q) : PM g l 4 M_X5_ways [.ref 116, .int a0] (tS s) (some (.long q.1)) (tS q.2) 0 0 := by
  refine PM.of (by decide +kernel) (Nat.le_of_ble_eq_true rfl) ?_
  show PW g l (pRoom 4 0 0) M_X5_ways _ 0 [(0, .ref 116), (1, .int a0)] [] (tS s) 0 0
  unfold f_X5_ways at h
  generalize hF : pE g (some (.long q.1)) (tS q.2) 0 0 = F
  have hx := hF.symm
  refine PW.lconst (v := 1) dX5_ways_0 (by decide) ?_
  refine PW.lstore_n dX5_ways_1 rfl (Nat.le_of_ble_eq_true rfl) rfl ?_
  refine PW.iconst (v := 0) dX5_ways_2 (by decide) ?_
  refine PW.istore dX5_ways_3 (Nat.le_of_ble_eq_true rfl) rfl ?_
  exact PW.pick [2, 3, 1, 0] rfl (ok_w_X5_ways_5 h hx)
/-! X5_lost -/
def j_X5_lost_36 (x1 : Int32) (x2 : Int32) (x3 : Int64) (x5 : Int32) (s : cS) : Option (((Int64 × Int32) × cS) ⊕ (Int64 × cS)) :=
  some (.inl ((x3, (x5 + (1 : Int32))), s))
set_option maxRecDepth 20000 in
set_option maxHeartbeats 4000000 in
theorem ok_j_X5_lost_36 {g : pG} {l : Launch} {F : pF} {x1 : Int32} {x2 : Int32} {x3 : Int64} {x5 : Int32} {s : cS} {x : (((Int64 × Int32) × cS) ⊕ (Int64 × cS))} (h : j_X5_lost_36 x1 x2 x3 x5 s = some x) (hx : (KL (fun (v : (Int64 × Int32) × cS) => PW g l (pRoom 5 0 0) M_X5_lost F 5 [(0, .ref 116), (1, .int x1), (2, .int x2), (3, .long v.1.1), (5, .int v.1.2)] [] (tS v.2) 0 0) (fun q => F = pE g (some (.long q.1)) (tS q.2) 0 0)) x) : PW g l (pRoom 5 0 0) M_X5_lost F 36 [(0, .ref 116), (1, .int x1), (2, .int x2), (3, .long x3), (5, .int x5)] [] (tS s) 0 0 := by
  unfold j_X5_lost_36 at h
  refine PW.iinc (v := (x5 + (1 : Int32))) 4 dX5_lost_36 rfl (by first | rfl | decide) (Nat.le_of_ble_eq_true rfl) rfl ?_
  refine PW.goto (tgt := 5) dX5_lost_39 (by decide) ?_
  cases h
  exact PW.pick [1, 2, 3, 4, 0] rfl hx
def b_X5_lost_5 (N : Nat) (x1 : Int32) (x2 : Int32) (x3 : Int64) (x5 : Int32) (s : cS) : Option (((Int64 × Int32) × cS) ⊕ (Int64 × cS)) :=
  if (f_X1_size s) ≤ x5 then
    oR (
      ob (f_X5_ways N x1 s) fun r3 s4 =>
      some (((r3 - x3), s4)))
  else
    if (f_X5_isIn x1 x5 s) = 0 then
      j_X5_lost_36 x1 x2 x3 x5 s
    else
      ob (f_X5_weightPast N x5 x2 s) fun r8 s9 =>
      j_X5_lost_36 x1 x2 (x3 * r8) x5 s9
set_option maxRecDepth 20000 in
set_option maxHeartbeats 4000000 in
theorem ok_b_X5_lost_5 {g : pG} {l : Launch} {F : pF} {N : Nat} {x1 : Int32} {x2 : Int32} {x3 : Int64} {x5 : Int32} {s : cS} {x : (((Int64 × Int32) × cS) ⊕ (Int64 × cS))} (h : b_X5_lost_5 N x1 x2 x3 x5 s = some x) (hx : (KL (fun (v : (Int64 × Int32) × cS) => PW g l (pRoom 5 0 0) M_X5_lost F 5 [(0, .ref 116), (1, .int x1), (2, .int x2), (3, .long v.1.1), (5, .int v.1.2)] [] (tS v.2) 0 0) (fun q => F = pE g (some (.long q.1)) (tS q.2) 0 0)) x) : PW g l (pRoom 5 0 0) M_X5_lost F 5 [(0, .ref 116), (1, .int x1), (2, .int x2), (3, .long x3), (5, .int x5)] [] (tS s) 0 0 := by
  unfold b_X5_lost_5 at h
  refine PW.iload 4 dX5_lost_5 rfl ?_
  refine PW.aload_n 0 0 dX5_lost_7 rfl rfl rfl ?_
  refine CW.getr dX5_lost_8 fL_X5_32 LA_116 (Or.inl ⟨_, rfl⟩) rfl ?_
  refine CW.callVi (ci := 1) (st := [.int x5]) [] dX5_lost_11 (p_X1_size rfl) MV_X1_size mL_X5_77 (by decide) rfl LA_3 rfl rfl (Nat.le_of_ble_eq_true rfl) (by first | decide | omega) ?_
  refine PW.icmp_ge (tgt := 42) dX5_lost_14 (by decide) (fun c2 => ?_) (fun c2 => ?_)
  · replace h := ifp h c2
    obtain ⟨xo, hy, hxo⟩ := oRb h
    clear h
    subst hxo
    replace hx := KLr hx
    have h := hy
    clear hy
    refine PW.aload_n 0 0 dX5_lost_42 rfl rfl rfl ?_
    refine PW.iload_n 1 1 dX5_lost_43 rfl rfl ?_
    obtain ⟨r3, s4, q5, h⟩ := obnd h
    refine CW.callVl (ci := 5) (st := []) [.int x1] dX5_lost_44 (p_X5_ways q5) MV_X5_ways mL_X5_109 (by decide) rfl LA_116 rfl rfl (Nat.le_of_ble_eq_true rfl) (by first | decide | omega) ?_
    refine PW.lload_n 3 3 dX5_lost_47 rfl rfl ?_
    refine PW.lsub dX5_lost_48 ?_
    cases h
    subst hx
    exact PW.lret dX5_lost_49 rfl (Nat.le_refl 0) (Nat.le_refl 0)
  · replace h := ifn h c2
    refine PW.iload_n 1 1 dX5_lost_17 rfl rfl ?_
    refine PW.iload 4 dX5_lost_18 rfl ?_
    refine CW.callSi (st := []) [.int x1, .int x5] dX5_lost_20 (p_X5_isIn rfl) MS_X5_isIn mL_X5_80 rfl rfl (Nat.le_of_ble_eq_true rfl) (by first | decide | omega) ?_
    refine PW.if_eq (tgt := 36) dX5_lost_23 (by decide) (fun c7 => ?_) (fun c7 => ?_)
    · replace h := ifp h c7
      exact PW.pick [0, 1, 2, 3, 4] rfl (ok_j_X5_lost_36 h hx)
    · replace h := ifn h c7
      refine PW.lload_n 3 3 dX5_lost_26 rfl rfl ?_
      refine PW.aload_n 0 0 dX5_lost_27 rfl rfl rfl ?_
      refine PW.iload 4 dX5_lost_28 rfl ?_
      refine PW.iload_n 2 2 dX5_lost_30 rfl rfl ?_
      obtain ⟨r8, s9, q10, h⟩ := obnd h
      refine CW.callVl (ci := 5) (st := [.long x3]) [.int x5, .int x2] dX5_lost_31 (p_X5_weightPast q10) MV_X5_weightPast mL_X5_102 (by decide) rfl LA_116 rfl rfl (Nat.le_of_ble_eq_true rfl) (by first | decide | omega) ?_
      refine PW.lmul dX5_lost_34 ?_
      refine PW.lstore_n dX5_lost_35 rfl (Nat.le_of_ble_eq_true rfl) rfl ?_
      exact PW.pick [1, 2, 3, 0, 4] rfl (ok_j_X5_lost_36 h hx)
def w_X5_lost_5 (N : Nat) (x1 : Int32) (x2 : Int32) (x3 : Int64) (x5 : Int32) (s : cS) : Option (Int64 × cS) := itr (fun (v : (Int64 × Int32) × cS) => b_X5_lost_5 N x1 x2 v.1.1 v.1.2 v.2) N ((x3, x5), s)
theorem ok_w_X5_lost_5 {g : pG} {l : Launch} {F : pF} {N : Nat} {x1 : Int32} {x2 : Int32} {x3 : Int64} {x5 : Int32} {s : cS} {x : (Int64 × cS)} (h : w_X5_lost_5 N x1 x2 x3 x5 s = some x) (hx : (fun q => F = pE g (some (.long q.1)) (tS q.2) 0 0) x) : PW g l (pRoom 5 0 0) M_X5_lost F 5 [(0, .ref 116), (1, .int x1), (2, .int x2), (3, .long x3), (5, .int x5)] [] (tS s) 0 0 :=
  okIter (P := (fun (v : (Int64 × Int32) × cS) => PW g l (pRoom 5 0 0) M_X5_lost F 5 [(0, .ref 116), (1, .int x1), (2, .int x2), (3, .long v.1.1), (5, .int v.1.2)] [] (tS v.2) 0 0)) (K := (fun q => F = pE g (some (.long q.1)) (tS q.2) 0 0)) (fun v y hB hy => ok_b_X5_lost_5 hB hy) N ((x3, x5), s) x h hx
def f_X5_lost (N : Nat) (a0 : Int32) (a1 : Int32) (s : cS) : Option (Int64 × cS) :=
  w_X5_lost_5 N a0 a1 (1 : Int64) (0 : Int32) s
set_option maxRecDepth 20000 in
set_option maxHeartbeats 4000000 in
theorem p_X5_lost {g : pG} {l : Launch} {N : Nat} {a0 : Int32} {a1 : Int32} {s : cS} {q : Int64 × cS} (h : f_X5_lost N a0 a1 s = some q) : PM g l 5 M_X5_lost [.ref 116, .int a0, .int a1] (tS s) (some (.long q.1)) (tS q.2) 0 0 := by
  refine PM.of (by decide +kernel) (Nat.le_of_ble_eq_true rfl) ?_
  show PW g l (pRoom 5 0 0) M_X5_lost _ 0 [(0, .ref 116), (1, .int a0), (2, .int a1)] [] (tS s) 0 0
  unfold f_X5_lost at h
  generalize hF : pE g (some (.long q.1)) (tS q.2) 0 0 = F
  have hx := hF.symm
  refine PW.lconst (v := 1) dX5_lost_0 (by decide) ?_
  refine PW.lstore_n dX5_lost_1 rfl (Nat.le_of_ble_eq_true rfl) rfl ?_
  refine PW.iconst (v := 0) dX5_lost_2 (by decide) ?_
  refine PW.istore dX5_lost_3 (Nat.le_of_ble_eq_true rfl) rfl ?_
  exact PW.pick [2, 3, 4, 1, 0] rfl (ok_w_X5_lost_5 h hx)
/-! X5_first -/
def j_X5_first_119 (x1 : Int32) (x2 : Int32) (x3 : Int64) (x5 : Int32) (s : cS) : Option (((Int64 × Int32) × cS) ⊕ (Int64 × cS)) :=
  some (.inl ((x3, (x5 + (1 : Int32))), s))
set_option maxRecDepth 20000 in
set_option maxHeartbeats 4000000 in
theorem ok_j_X5_first_119 {g : pG} {l : Launch} {F : pF} {x1 : Int32} {x2 : Int32} {x3 : Int64} {x5 : Int32} {s : cS} {x : (((Int64 × Int32) × cS) ⊕ (Int64 × cS))} (h : j_X5_first_119 x1 x2 x3 x5 s = some x) (hx : (KL (fun (v : (Int64 × Int32) × cS) => PW g l (pRoom 4 0 0) M_X5_first F 5 [(0, .ref 116), (1, .int x1), (2, .int x2), (3, .long v.1.1), (5, .int v.1.2)] [] (tS v.2) 0 0) (fun q => F = pE g (some (.long q.1)) (tS q.2) 0 0)) x) : PW g l (pRoom 4 0 0) M_X5_first F 119 [(0, .ref 116), (1, .int x1), (2, .int x2), (3, .long x3), (5, .int x5)] [] (tS s) 0 0 := by
  unfold j_X5_first_119 at h
  refine PW.iinc (v := (x5 + (1 : Int32))) 4 dX5_first_119 rfl (by first | rfl | decide) (Nat.le_of_ble_eq_true rfl) rfl ?_
  refine PW.goto (tgt := 5) dX5_first_122 (by decide) ?_
  cases h
  exact PW.pick [1, 2, 3, 4, 0] rfl hx
def j_X5_first_105 (x1 : Int32) (x2 : Int32) (x3 : Int64) (x5 : Int32) (x6 : Int32) (x9 : Int32) (y0 : Int64) (y1 : Int64) (s : cS) : Option (((Int64 × Int32) × cS) ⊕ (((Int64 × Int32) × cS) ⊕ (Int64 × cS))) :=
  some (.inl (((y0 * y1), (x9 + (1 : Int32))), s))
set_option maxRecDepth 20000 in
set_option maxHeartbeats 4000000 in
theorem ok_j_X5_first_105 {g : pG} {l : Launch} {F : pF} {x1 : Int32} {x2 : Int32} {x3 : Int64} {x5 : Int32} {x6 : Int32} {x9 : Int32} {y0 : Int64} {y1 : Int64} {s : cS} {x : (((Int64 × Int32) × cS) ⊕ (((Int64 × Int32) × cS) ⊕ (Int64 × cS)))} (h : j_X5_first_105 x1 x2 x3 x5 x6 x9 y0 y1 s = some x) (hx : (KL (fun (v : (Int64 × Int32) × cS) => PW g l (pRoom 4 0 0) M_X5_first F 60 [(0, .ref 116), (1, .int x1), (2, .int x2), (3, .long x3), (5, .int x5), (6, .int x6), (7, .long v.1.1), (9, .int v.1.2)] [] (tS v.2) 0 0) (KL (fun (v : (Int64 × Int32) × cS) => PW g l (pRoom 4 0 0) M_X5_first F 5 [(0, .ref 116), (1, .int x1), (2, .int x2), (3, .long v.1.1), (5, .int v.1.2)] [] (tS v.2) 0 0) (fun q => F = pE g (some (.long q.1)) (tS q.2) 0 0))) x) : PW g l (pRoom 4 0 0) M_X5_first F 105 [(0, .ref 116), (1, .int x1), (2, .int x2), (3, .long x3), (5, .int x5), (6, .int x6), (9, .int x9)] [.long y1, .long y0] (tS s) 0 0 := by
  unfold j_X5_first_105 at h
  refine PW.lmul dX5_first_105 ?_
  refine PW.lstore dX5_first_106 (Nat.le_of_ble_eq_true rfl) rfl ?_
  refine PW.iinc (v := (x9 + (1 : Int32))) 7 dX5_first_108 rfl (by first | rfl | decide) (Nat.le_of_ble_eq_true rfl) rfl ?_
  refine PW.goto (tgt := 60) dX5_first_111 (by decide) ?_
  cases h
  exact PW.pick [2, 3, 4, 5, 6, 7, 1, 0] rfl hx
def j_X5_first_102 (N : Nat) (x1 : Int32) (x2 : Int32) (x3 : Int64) (x5 : Int32) (x6 : Int32) (x9 : Int32) (y0 : Int64) (y2 : Int32) (y3 : Int32) (s : cS) : Option (((Int64 × Int32) × cS) ⊕ (((Int64 × Int32) × cS) ⊕ (Int64 × cS))) :=
  ob (f_X5_weightPast N y2 y3 s) fun r11 s12 =>
  j_X5_first_105 x1 x2 x3 x5 x6 x9 y0 r11 s12
set_option maxRecDepth 20000 in
set_option maxHeartbeats 4000000 in
theorem ok_j_X5_first_102 {g : pG} {l : Launch} {F : pF} {N : Nat} {x1 : Int32} {x2 : Int32} {x3 : Int64} {x5 : Int32} {x6 : Int32} {x9 : Int32} {y0 : Int64} {y2 : Int32} {y3 : Int32} {s : cS} {x : (((Int64 × Int32) × cS) ⊕ (((Int64 × Int32) × cS) ⊕ (Int64 × cS)))} (h : j_X5_first_102 N x1 x2 x3 x5 x6 x9 y0 y2 y3 s = some x) (hx : (KL (fun (v : (Int64 × Int32) × cS) => PW g l (pRoom 4 0 0) M_X5_first F 60 [(0, .ref 116), (1, .int x1), (2, .int x2), (3, .long x3), (5, .int x5), (6, .int x6), (7, .long v.1.1), (9, .int v.1.2)] [] (tS v.2) 0 0) (KL (fun (v : (Int64 × Int32) × cS) => PW g l (pRoom 4 0 0) M_X5_first F 5 [(0, .ref 116), (1, .int x1), (2, .int x2), (3, .long v.1.1), (5, .int v.1.2)] [] (tS v.2) 0 0) (fun q => F = pE g (some (.long q.1)) (tS q.2) 0 0))) x) : PW g l (pRoom 4 0 0) M_X5_first F 102 [(0, .ref 116), (1, .int x1), (2, .int x2), (3, .long x3), (5, .int x5), (6, .int x6), (9, .int x9)] [.int y3, .int y2, .ref 116, .long y0] (tS s) 0 0 := by
  unfold j_X5_first_102 at h
  obtain ⟨r11, s12, q13, h⟩ := obnd h
  refine CW.callVl (ci := 5) (st := [.long y0]) [.int y2, .int y3] dX5_first_102 (p_X5_weightPast q13) MV_X5_weightPast mL_X5_102 (by decide) rfl LA_116 rfl rfl (Nat.le_of_ble_eq_true rfl) (by first | decide | omega) ?_
  exact PW.pick [0, 1, 2, 3, 4, 5, 6] rfl (ok_j_X5_first_105 h hx)
def b_X5_first_60 (N : Nat) (x1 : Int32) (x2 : Int32) (x3 : Int64) (x5 : Int32) (x6 : Int32) (x7 : Int64) (x9 : Int32) (s : cS) : Option (((Int64 × Int32) × cS) ⊕ (((Int64 × Int32) × cS) ⊕ (Int64 × cS))) :=
  if (f_X1_size s) ≤ x9 then
    oR (
      j_X5_first_119 x1 x2 (x3 + x7) x5 s)
  else
    if x9 = x1 then
      j_X5_first_105 x1 x2 x3 x5 x6 x9 x7 (1 : Int64) s
    else
      if x1 ≤ x9 then
        j_X5_first_102 N x1 x2 x3 x5 x6 x9 x7 x9 (x6 - (1 : Int32)) s
      else
        j_X5_first_102 N x1 x2 x3 x5 x6 x9 x7 x9 x6 s
set_option maxRecDepth 20000 in
set_option maxHeartbeats 4000000 in
theorem ok_b_X5_first_60 {g : pG} {l : Launch} {F : pF} {N : Nat} {x1 : Int32} {x2 : Int32} {x3 : Int64} {x5 : Int32} {x6 : Int32} {x7 : Int64} {x9 : Int32} {s : cS} {x : (((Int64 × Int32) × cS) ⊕ (((Int64 × Int32) × cS) ⊕ (Int64 × cS)))} (h : b_X5_first_60 N x1 x2 x3 x5 x6 x7 x9 s = some x) (hx : (KL (fun (v : (Int64 × Int32) × cS) => PW g l (pRoom 4 0 0) M_X5_first F 60 [(0, .ref 116), (1, .int x1), (2, .int x2), (3, .long x3), (5, .int x5), (6, .int x6), (7, .long v.1.1), (9, .int v.1.2)] [] (tS v.2) 0 0) (KL (fun (v : (Int64 × Int32) × cS) => PW g l (pRoom 4 0 0) M_X5_first F 5 [(0, .ref 116), (1, .int x1), (2, .int x2), (3, .long v.1.1), (5, .int v.1.2)] [] (tS v.2) 0 0) (fun q => F = pE g (some (.long q.1)) (tS q.2) 0 0))) x) : PW g l (pRoom 4 0 0) M_X5_first F 60 [(0, .ref 116), (1, .int x1), (2, .int x2), (3, .long x3), (5, .int x5), (6, .int x6), (7, .long x7), (9, .int x9)] [] (tS s) 0 0 := by
  unfold b_X5_first_60 at h
  refine PW.iload 7 dX5_first_60 rfl ?_
  refine PW.aload_n 0 0 dX5_first_62 rfl rfl rfl ?_
  refine CW.getr dX5_first_63 fL_X5_32 LA_116 (Or.inl ⟨_, rfl⟩) rfl ?_
  refine CW.callVi (ci := 1) (st := [.int x9]) [] dX5_first_66 (p_X1_size rfl) MV_X1_size mL_X5_77 (by decide) rfl LA_3 rfl rfl (Nat.le_of_ble_eq_true rfl) (by first | decide | omega) ?_
  refine PW.icmp_ge (tgt := 114) dX5_first_69 (by decide) (fun c8 => ?_) (fun c8 => ?_)
  · replace h := ifp h c8
    obtain ⟨xo, hy, hxo⟩ := oRb h
    clear h
    subst hxo
    replace hx := KLr hx
    have h := hy
    clear hy
    refine PW.lload_n 3 3 dX5_first_114 rfl rfl ?_
    refine PW.lload 6 dX5_first_115 rfl ?_
    refine PW.ladd dX5_first_117 ?_
    refine PW.lstore_n dX5_first_118 rfl (Nat.le_of_ble_eq_true rfl) rfl ?_
    exact PW.pick [1, 2, 3, 0, 4] rfl (ok_j_X5_first_119 h hx)
  · replace h := ifn h c8
    refine PW.lload 6 dX5_first_72 rfl ?_
    refine PW.iload 7 dX5_first_74 rfl ?_
    refine PW.iload_n 1 1 dX5_first_76 rfl rfl ?_
    refine PW.icmp_ne (tgt := 84) dX5_first_77 (by decide) (fun c9 => ?_) (fun c9 => ?_)
    · replace h := ifn h c9
      refine PW.aload_n 0 0 dX5_first_84 rfl rfl rfl ?_
      refine PW.iload 7 dX5_first_85 rfl ?_
      refine PW.iload 7 dX5_first_87 rfl ?_
      refine PW.iload_n 1 1 dX5_first_89 rfl rfl ?_
      refine PW.icmp_ge (tgt := 98) dX5_first_90 (by decide) (fun c10 => ?_) (fun c10 => ?_)
      · replace h := ifp h c10
        refine PW.iload 5 dX5_first_98 rfl ?_
        refine PW.iconst (v := 1) dX5_first_100 (by decide) ?_
        refine PW.isub dX5_first_101 ?_
        exact PW.pick [0, 1, 2, 3, 4, 5, 7] rfl (ok_j_X5_first_102 h hx)
      · replace h := ifn h c10
        refine PW.iload 5 dX5_first_93 rfl ?_
        refine PW.goto (tgt := 102) dX5_first_95 (by decide) ?_
        exact PW.pick [0, 1, 2, 3, 4, 5, 7] rfl (ok_j_X5_first_102 h hx)
    · replace h := ifp h c9
      refine PW.lconst (v := 1) dX5_first_80 (by decide) ?_
      refine PW.goto (tgt := 105) dX5_first_81 (by decide) ?_
      exact PW.pick [0, 1, 2, 3, 4, 5, 7] rfl (ok_j_X5_first_105 h hx)
def w_X5_first_60 (N : Nat) (x1 : Int32) (x2 : Int32) (x3 : Int64) (x5 : Int32) (x6 : Int32) (x7 : Int64) (x9 : Int32) (s : cS) : Option (((Int64 × Int32) × cS) ⊕ (Int64 × cS)) := itr (fun (v : (Int64 × Int32) × cS) => b_X5_first_60 N x1 x2 x3 x5 x6 v.1.1 v.1.2 v.2) N ((x7, x9), s)
theorem ok_w_X5_first_60 {g : pG} {l : Launch} {F : pF} {N : Nat} {x1 : Int32} {x2 : Int32} {x3 : Int64} {x5 : Int32} {x6 : Int32} {x7 : Int64} {x9 : Int32} {s : cS} {x : (((Int64 × Int32) × cS) ⊕ (Int64 × cS))} (h : w_X5_first_60 N x1 x2 x3 x5 x6 x7 x9 s = some x) (hx : (KL (fun (v : (Int64 × Int32) × cS) => PW g l (pRoom 4 0 0) M_X5_first F 5 [(0, .ref 116), (1, .int x1), (2, .int x2), (3, .long v.1.1), (5, .int v.1.2)] [] (tS v.2) 0 0) (fun q => F = pE g (some (.long q.1)) (tS q.2) 0 0)) x) : PW g l (pRoom 4 0 0) M_X5_first F 60 [(0, .ref 116), (1, .int x1), (2, .int x2), (3, .long x3), (5, .int x5), (6, .int x6), (7, .long x7), (9, .int x9)] [] (tS s) 0 0 :=
  okIter (P := (fun (v : (Int64 × Int32) × cS) => PW g l (pRoom 4 0 0) M_X5_first F 60 [(0, .ref 116), (1, .int x1), (2, .int x2), (3, .long x3), (5, .int x5), (6, .int x6), (7, .long v.1.1), (9, .int v.1.2)] [] (tS v.2) 0 0)) (K := (KL (fun (v : (Int64 × Int32) × cS) => PW g l (pRoom 4 0 0) M_X5_first F 5 [(0, .ref 116), (1, .int x1), (2, .int x2), (3, .long v.1.1), (5, .int v.1.2)] [] (tS v.2) 0 0) (fun q => F = pE g (some (.long q.1)) (tS q.2) 0 0))) (fun v y hB hy => ok_b_X5_first_60 hB hy) N ((x7, x9), s) x h hx
def b_X5_first_5 (N : Nat) (x1 : Int32) (x2 : Int32) (x3 : Int64) (x5 : Int32) (s : cS) : Option (((Int64 × Int32) × cS) ⊕ (Int64 × cS)) :=
  if (f_X1_livesOf x1 s) ≤ x5 then
    oR (
      some ((x3, s)))
  else
    if (aA s 118 32 ((x1 * (4 : Int32)) + x5)) ≤ 0 then
      j_X5_first_119 x1 x2 x3 x5 s
    else
      if x2 < (aA s 118 32 ((x1 * (4 : Int32)) + x5)) then
        j_X5_first_119 x1 x2 x3 x5 s
      else
        w_X5_first_60 N x1 x2 x3 x5 (aA s 118 32 ((x1 * (4 : Int32)) + x5)) ((f_X1_weightOf x1 x5 s).toInt64) (0 : Int32) s
set_option maxRecDepth 20000 in
set_option maxHeartbeats 4000000 in
theorem ok_b_X5_first_5 {g : pG} {l : Launch} {F : pF} {N : Nat} {x1 : Int32} {x2 : Int32} {x3 : Int64} {x5 : Int32} {s : cS} {x : (((Int64 × Int32) × cS) ⊕ (Int64 × cS))} (h : b_X5_first_5 N x1 x2 x3 x5 s = some x) (hx : (KL (fun (v : (Int64 × Int32) × cS) => PW g l (pRoom 4 0 0) M_X5_first F 5 [(0, .ref 116), (1, .int x1), (2, .int x2), (3, .long v.1.1), (5, .int v.1.2)] [] (tS v.2) 0 0) (fun q => F = pE g (some (.long q.1)) (tS q.2) 0 0)) x) : PW g l (pRoom 4 0 0) M_X5_first F 5 [(0, .ref 116), (1, .int x1), (2, .int x2), (3, .long x3), (5, .int x5)] [] (tS s) 0 0 := by
  unfold b_X5_first_5 at h
  refine PW.iload 4 dX5_first_5 rfl ?_
  refine PW.aload_n 0 0 dX5_first_7 rfl rfl rfl ?_
  refine CW.getr dX5_first_8 fL_X5_32 LA_116 (Or.inl ⟨_, rfl⟩) rfl ?_
  refine PW.iload_n 1 1 dX5_first_11 rfl rfl ?_
  refine CW.callVi (ci := 1) (st := [.int x5]) [.int x1] dX5_first_12 (p_X1_livesOf rfl) MV_X1_livesOf mL_X5_88 (by decide) rfl LA_3 rfl rfl (Nat.le_of_ble_eq_true rfl) (by first | decide | omega) ?_
  refine PW.icmp_ge (tgt := 125) dX5_first_15 (by decide) (fun c2 => ?_) (fun c2 => ?_)
  · replace h := ifp h c2
    obtain ⟨xo, hy, hxo⟩ := oRb h
    clear h
    subst hxo
    replace hx := KLr hx
    have h := hy
    clear hy
    refine PW.lload_n 3 3 dX5_first_125 rfl rfl ?_
    cases h
    subst hx
    exact PW.lret dX5_first_126 rfl (Nat.le_refl 0) (Nat.le_refl 0)
  · replace h := ifn h c2
    refine PW.aload_n 0 0 dX5_first_18 rfl rfl rfl ?_
    refine CW.getr dX5_first_19 fL_X5_17 LA_116 (Or.inr ⟨_, rfl⟩) rfl ?_
    refine PW.iload_n 1 1 dX5_first_22 rfl rfl ?_
    refine PW.iconst (v := 4) dX5_first_23 (by decide) ?_
    refine PW.imul dX5_first_24 ?_
    refine PW.iload 4 dX5_first_25 rfl ?_
    refine PW.iadd dX5_first_27 ?_
    refine CW.callSNi (st := []) [.ref 118, .int ((x1 * (4 : Int32)) + x5)] dX5_first_28 (ps_at LA_118 rfl) MS_X11_at mN_X5_98 rfl rfl (Nat.le_of_ble_eq_true rfl) (by first | decide | omega) ?_
    refine PW.istore dX5_first_31 (Nat.le_of_ble_eq_true rfl) rfl ?_
    refine PW.iload 0 dX5_first_33 rfl ?_
    refine PW.if_le (tgt := 119) dX5_first_35 (by decide) (fun c4 => ?_) (fun c4 => ?_)
    · replace h := ifp h c4
      exact PW.pick [1, 2, 3, 4, 5] rfl (ok_j_X5_first_119 h hx)
    · replace h := ifn h c4
      refine PW.iload 0 dX5_first_38 rfl ?_
      refine PW.iload_n 3 2 dX5_first_40 rfl rfl ?_
      refine PW.icmp_gt (tgt := 119) dX5_first_41 (by decide) (fun c5 => ?_) (fun c5 => ?_)
      · replace h := ifp h c5
        exact PW.pick [1, 2, 3, 4, 5] rfl (ok_j_X5_first_119 h hx)
      · replace h := ifn h c5
        refine PW.aload_n 1 0 dX5_first_44 rfl rfl rfl ?_
        refine CW.getr dX5_first_45 fL_X5_32 LA_116 (Or.inl ⟨_, rfl⟩) rfl ?_
        refine PW.iload_n 2 1 dX5_first_48 rfl rfl ?_
        refine PW.iload 5 dX5_first_49 rfl ?_
        refine CW.callVi (ci := 1) (st := []) [.int x1, .int x5] dX5_first_51 (p_X1_weightOf rfl) MV_X1_weightOf mL_X5_106 (by decide) rfl LA_3 rfl rfl (Nat.le_of_ble_eq_true rfl) (by first | decide | omega) ?_
        refine PW.i2l dX5_first_54 ?_
        refine PW.lstore dX5_first_55 (Nat.le_of_ble_eq_true rfl) rfl ?_
        refine PW.iconst (v := 0) dX5_first_57 (by decide) ?_
        refine PW.istore dX5_first_58 (Nat.le_of_ble_eq_true rfl) rfl ?_
        exact PW.pick [3, 4, 5, 6, 7, 2, 1, 0] rfl (ok_w_X5_first_60 h hx)
def w_X5_first_5 (N : Nat) (x1 : Int32) (x2 : Int32) (x3 : Int64) (x5 : Int32) (s : cS) : Option (Int64 × cS) := itr (fun (v : (Int64 × Int32) × cS) => b_X5_first_5 N x1 x2 v.1.1 v.1.2 v.2) N ((x3, x5), s)
theorem ok_w_X5_first_5 {g : pG} {l : Launch} {F : pF} {N : Nat} {x1 : Int32} {x2 : Int32} {x3 : Int64} {x5 : Int32} {s : cS} {x : (Int64 × cS)} (h : w_X5_first_5 N x1 x2 x3 x5 s = some x) (hx : (fun q => F = pE g (some (.long q.1)) (tS q.2) 0 0) x) : PW g l (pRoom 4 0 0) M_X5_first F 5 [(0, .ref 116), (1, .int x1), (2, .int x2), (3, .long x3), (5, .int x5)] [] (tS s) 0 0 :=
  okIter (P := (fun (v : (Int64 × Int32) × cS) => PW g l (pRoom 4 0 0) M_X5_first F 5 [(0, .ref 116), (1, .int x1), (2, .int x2), (3, .long v.1.1), (5, .int v.1.2)] [] (tS v.2) 0 0)) (K := (fun q => F = pE g (some (.long q.1)) (tS q.2) 0 0)) (fun v y hB hy => ok_b_X5_first_5 hB hy) N ((x3, x5), s) x h hx
def f_X5_first (N : Nat) (a0 : Int32) (a1 : Int32) (s : cS) : Option (Int64 × cS) :=
  w_X5_first_5 N a0 a1 (0 : Int64) (0 : Int32) s
set_option maxRecDepth 20000 in
set_option maxHeartbeats 4000000 in
theorem p_X5_first {g : pG} {l : Launch} {N : Nat} {a0 : Int32} {a1 : Int32} {s : cS} {q : Int64 × cS} (h : f_X5_first N a0 a1 s = some q) : PM g l 4 M_X5_first [.ref 116, .int a0, .int a1] (tS s) (some (.long q.1)) (tS q.2) 0 0 := by
  refine PM.of (by decide +kernel) (Nat.le_of_ble_eq_true rfl) ?_
  show PW g l (pRoom 4 0 0) M_X5_first _ 0 [(0, .ref 116), (1, .int a0), (2, .int a1)] [] (tS s) 0 0
  unfold f_X5_first at h
  generalize hF : pE g (some (.long q.1)) (tS q.2) 0 0 = F
  have hx := hF.symm
  refine PW.lconst (v := 0) dX5_first_0 (by decide) ?_
  refine PW.lstore_n dX5_first_1 rfl (Nat.le_of_ble_eq_true rfl) rfl ?_
  refine PW.iconst (v := 0) dX5_first_2 (by decide) ?_
  refine PW.istore dX5_first_3 (Nat.le_of_ble_eq_true rfl) rfl ?_
  exact PW.pick [2, 3, 4, 1, 0] rfl (ok_w_X5_first_5 h hx)
/-! X5_flightsTill -/
def j_X5_flightsTill_156 (x1 : Int32) (x2 : Int32) (x3 : Int32) (x4 : Int64) (x6 : Int64) (x8 : Int32) (x9 : Int32) (s : cS) : Option (((Int32 × Int32) × cS) ⊕ (Int32 × cS)) :=
  some (.inl ((x8, (x9 + (1 : Int32))), s))
set_option maxRecDepth 20000 in
set_option maxHeartbeats 4000000 in
theorem ok_j_X5_flightsTill_156 {g : pG} {l : Launch} {F : pF} {x1 : Int32} {x2 : Int32} {x3 : Int32} {x4 : Int64} {x6 : Int64} {x8 : Int32} {x9 : Int32} {s : cS} {x : (((Int32 × Int32) × cS) ⊕ (Int32 × cS))} (h : j_X5_flightsTill_156 x1 x2 x3 x4 x6 x8 x9 s = some x) (hx : (KL (fun (v : (Int32 × Int32) × cS) => PW g l (pRoom 6 0 0) M_X5_flightsTill F 35 [(0, .ref 116), (1, .int x1), (2, .int x2), (3, .int x3), (4, .long x4), (6, .long x6), (8, .int v.1.1), (9, .int v.1.2)] [] (tS v.2) 0 0) (fun q => F = pE g (some (.int q.1)) (tS q.2) 0 0)) x) : PW g l (pRoom 6 0 0) M_X5_flightsTill F 156 [(0, .ref 116), (1, .int x1), (2, .int x2), (3, .int x3), (4, .long x4), (6, .long x6), (8, .int x8), (9, .int x9)] [] (tS s) 0 0 := by
  unfold j_X5_flightsTill_156 at h
  refine PW.iinc (v := (x9 + (1 : Int32))) 7 dX5_flightsTill_156 rfl (by first | rfl | decide) (Nat.le_of_ble_eq_true rfl) rfl ?_
  refine PW.goto (tgt := 35) dX5_flightsTill_159 (by decide) ?_
  cases h
  exact PW.pick [1, 2, 3, 4, 5, 6, 7, 0] rfl hx
def j_X5_flightsTill_150 (x1 : Int32) (x2 : Int32) (x3 : Int32) (x4 : Int64) (x6 : Int64) (x8 : Int32) (x9 : Int32) (x10 : Int32) (s : cS) : Option (((Int32 × Int32) × cS) ⊕ (((Int32 × Int32) × cS) ⊕ (Int32 × cS))) :=
  some (.inl ((x8, (x10 + (1 : Int32))), s))
set_option maxRecDepth 20000 in
set_option maxHeartbeats 4000000 in
theorem ok_j_X5_flightsTill_150 {g : pG} {l : Launch} {F : pF} {x1 : Int32} {x2 : Int32} {x3 : Int32} {x4 : Int64} {x6 : Int64} {x8 : Int32} {x9 : Int32} {x10 : Int32} {s : cS} {x : (((Int32 × Int32) × cS) ⊕ (((Int32 × Int32) × cS) ⊕ (Int32 × cS)))} (h : j_X5_flightsTill_150 x1 x2 x3 x4 x6 x8 x9 x10 s = some x) (hx : (KL (fun (v : (Int32 × Int32) × cS) => PW g l (pRoom 6 0 0) M_X5_flightsTill F 50 [(0, .ref 116), (1, .int x1), (2, .int x2), (3, .int x3), (4, .long x4), (6, .long x6), (8, .int v.1.1), (9, .int x9), (10, .int v.1.2)] [] (tS v.2) 0 0) (KL (fun (v : (Int32 × Int32) × cS) => PW g l (pRoom 6 0 0) M_X5_flightsTill F 35 [(0, .ref 116), (1, .int x1), (2, .int x2), (3, .int x3), (4, .long x4), (6, .long x6), (8, .int v.1.1), (9, .int v.1.2)] [] (tS v.2) 0 0) (fun q => F = pE g (some (.int q.1)) (tS q.2) 0 0))) x) : PW g l (pRoom 6 0 0) M_X5_flightsTill F 150 [(0, .ref 116), (1, .int x1), (2, .int x2), (3, .int x3), (4, .long x4), (6, .long x6), (8, .int x8), (9, .int x9), (10, .int x10)] [] (tS s) 0 0 := by
  unfold j_X5_flightsTill_150 at h
  refine PW.iinc (v := (x10 + (1 : Int32))) 8 dX5_flightsTill_150 rfl (by first | rfl | decide) (Nat.le_of_ble_eq_true rfl) rfl ?_
  refine PW.goto (tgt := 50) dX5_flightsTill_153 (by decide) ?_
  cases h
  exact PW.pick [1, 2, 3, 4, 5, 6, 7, 8, 0] rfl hx
def j_X5_flightsTill_114 (N : Nat) (x1 : Int32) (x2 : Int32) (x3 : Int32) (x4 : Int64) (x6 : Int64) (x8 : Int32) (x9 : Int32) (x10 : Int32) (x11 : Int32) (y0 : Int32) (s : cS) : Option (((Int32 × Int32) × cS) ⊕ (((Int32 × Int32) × cS) ⊕ (Int32 × cS))) :=
  if y0 = 0 then
    j_X5_flightsTill_150 x1 x2 x3 x4 x6 x8 x9 x10 s
  else
    ob (f_X5_lost N x1 x11 s) fun r17 s18 =>
    if (lg_cmp ((r17 - x4) * (1000 : Int64)) (x3.toInt64 * x6)) < 0 then
      j_X5_flightsTill_150 x1 x2 x3 x4 x6 x8 x9 x10 s18
    else
      j_X5_flightsTill_150 x1 x2 x3 x4 x6 (x11 - x2) x9 x10 s18
set_option maxRecDepth 20000 in
set_option maxHeartbeats 4000000 in
theorem ok_j_X5_flightsTill_114 {g : pG} {l : Launch} {F : pF} {N : Nat} {x1 : Int32} {x2 : Int32} {x3 : Int32} {x4 : Int64} {x6 : Int64} {x8 : Int32} {x9 : Int32} {x10 : Int32} {x11 : Int32} {y0 : Int32} {s : cS} {x : (((Int32 × Int32) × cS) ⊕ (((Int32 × Int32) × cS) ⊕ (Int32 × cS)))} (h : j_X5_flightsTill_114 N x1 x2 x3 x4 x6 x8 x9 x10 x11 y0 s = some x) (hx : (KL (fun (v : (Int32 × Int32) × cS) => PW g l (pRoom 6 0 0) M_X5_flightsTill F 50 [(0, .ref 116), (1, .int x1), (2, .int x2), (3, .int x3), (4, .long x4), (6, .long x6), (8, .int v.1.1), (9, .int x9), (10, .int v.1.2)] [] (tS v.2) 0 0) (KL (fun (v : (Int32 × Int32) × cS) => PW g l (pRoom 6 0 0) M_X5_flightsTill F 35 [(0, .ref 116), (1, .int x1), (2, .int x2), (3, .int x3), (4, .long x4), (6, .long x6), (8, .int v.1.1), (9, .int v.1.2)] [] (tS v.2) 0 0) (fun q => F = pE g (some (.int q.1)) (tS q.2) 0 0))) x) : PW g l (pRoom 6 0 0) M_X5_flightsTill F 114 [(0, .ref 116), (1, .int x1), (2, .int x2), (3, .int x3), (4, .long x4), (6, .long x6), (8, .int x8), (9, .int x9), (10, .int x10), (11, .int x11)] [.int y0] (tS s) 0 0 := by
  unfold j_X5_flightsTill_114 at h
  refine PW.istore dX5_flightsTill_114 (Nat.le_of_ble_eq_true rfl) rfl ?_
  refine PW.iload 0 dX5_flightsTill_116 rfl ?_
  refine PW.if_eq (tgt := 150) dX5_flightsTill_118 (by decide) (fun c16 => ?_) (fun c16 => ?_)
  · replace h := ifp h c16
    exact PW.pick [1, 2, 3, 4, 5, 6, 7, 8, 9] rfl (ok_j_X5_flightsTill_150 h hx)
  · replace h := ifn h c16
    refine PW.aload_n 1 0 dX5_flightsTill_121 rfl rfl rfl ?_
    refine PW.iload_n 2 1 dX5_flightsTill_122 rfl rfl ?_
    refine PW.iload 10 dX5_flightsTill_123 rfl ?_
    obtain ⟨r17, s18, q19, h⟩ := obnd h
    refine CW.callVl (ci := 5) (st := []) [.int x1, .int x11] dX5_flightsTill_125 (p_X5_lost q19) MV_X5_lost mL_X5_113 (by decide) rfl LA_116 rfl rfl (Nat.le_of_ble_eq_true rfl) (by first | decide | omega) ?_
    refine PW.lload 5 dX5_flightsTill_128 rfl ?_
    refine PW.lsub dX5_flightsTill_130 ?_
    refine PW.ldc2_w dX5_flightsTill_131 kL_X5_116 ?_
    refine PW.lmul dX5_flightsTill_134 ?_
    refine PW.iload_n 4 3 dX5_flightsTill_135 rfl rfl ?_
    refine PW.i2l dX5_flightsTill_136 ?_
    refine PW.lload 6 dX5_flightsTill_137 rfl ?_
    refine PW.lmul dX5_flightsTill_139 ?_
    refine PW.lcmp dX5_flightsTill_140 ?_
    refine PW.if_lt (tgt := 150) dX5_flightsTill_141 (by decide) (fun c20 => ?_) (fun c20 => ?_)
    · replace h := ifp h c20
      exact PW.pick [1, 2, 3, 4, 5, 6, 7, 8, 9] rfl (ok_j_X5_flightsTill_150 h hx)
    · replace h := ifn h c20
      refine PW.iload 10 dX5_flightsTill_144 rfl ?_
      refine PW.iload_n 3 2 dX5_flightsTill_146 rfl rfl ?_
      refine PW.isub dX5_flightsTill_147 ?_
      refine PW.istore dX5_flightsTill_148 (Nat.le_of_ble_eq_true rfl) rfl ?_
      exact PW.pick [2, 3, 4, 5, 6, 7, 0, 8, 9] rfl (ok_j_X5_flightsTill_150 h hx)
def j_X5_flightsTill_113 (N : Nat) (x1 : Int32) (x2 : Int32) (x3 : Int32) (x4 : Int64) (x6 : Int64) (x8 : Int32) (x9 : Int32) (x10 : Int32) (x11 : Int32) (s : cS) : Option (((Int32 × Int32) × cS) ⊕ (((Int32 × Int32) × cS) ⊕ (Int32 × cS))) :=
  j_X5_flightsTill_114 N x1 x2 x3 x4 x6 x8 x9 x10 x11 (0 : Int32) s
set_option maxRecDepth 20000 in
set_option maxHeartbeats 4000000 in
theorem ok_j_X5_flightsTill_113 {g : pG} {l : Launch} {F : pF} {N : Nat} {x1 : Int32} {x2 : Int32} {x3 : Int32} {x4 : Int64} {x6 : Int64} {x8 : Int32} {x9 : Int32} {x10 : Int32} {x11 : Int32} {s : cS} {x : (((Int32 × Int32) × cS) ⊕ (((Int32 × Int32) × cS) ⊕ (Int32 × cS)))} (h : j_X5_flightsTill_113 N x1 x2 x3 x4 x6 x8 x9 x10 x11 s = some x) (hx : (KL (fun (v : (Int32 × Int32) × cS) => PW g l (pRoom 6 0 0) M_X5_flightsTill F 50 [(0, .ref 116), (1, .int x1), (2, .int x2), (3, .int x3), (4, .long x4), (6, .long x6), (8, .int v.1.1), (9, .int x9), (10, .int v.1.2)] [] (tS v.2) 0 0) (KL (fun (v : (Int32 × Int32) × cS) => PW g l (pRoom 6 0 0) M_X5_flightsTill F 35 [(0, .ref 116), (1, .int x1), (2, .int x2), (3, .int x3), (4, .long x4), (6, .long x6), (8, .int v.1.1), (9, .int v.1.2)] [] (tS v.2) 0 0) (fun q => F = pE g (some (.int q.1)) (tS q.2) 0 0))) x) : PW g l (pRoom 6 0 0) M_X5_flightsTill F 113 [(0, .ref 116), (1, .int x1), (2, .int x2), (3, .int x3), (4, .long x4), (6, .long x6), (8, .int x8), (9, .int x9), (10, .int x10), (11, .int x11)] [] (tS s) 0 0 := by
  unfold j_X5_flightsTill_113 at h
  refine PW.iconst (v := 0) dX5_flightsTill_113 (by decide) ?_
  exact PW.pick [0, 1, 2, 3, 4, 5, 6, 7, 8, 9] rfl (ok_j_X5_flightsTill_114 h hx)
def j_X5_flightsTill_109 (N : Nat) (x1 : Int32) (x2 : Int32) (x3 : Int32) (x4 : Int64) (x6 : Int64) (x8 : Int32) (x9 : Int32) (x10 : Int32) (x11 : Int32) (s : cS) : Option (((Int32 × Int32) × cS) ⊕ (((Int32 × Int32) × cS) ⊕ (Int32 × cS))) :=
  j_X5_flightsTill_114 N x1 x2 x3 x4 x6 x8 x9 x10 x11 (1 : Int32) s
set_option maxRecDepth 20000 in
set_option maxHeartbeats 4000000 in
theorem ok_j_X5_flightsTill_109 {g : pG} {l : Launch} {F : pF} {N : Nat} {x1 : Int32} {x2 : Int32} {x3 : Int32} {x4 : Int64} {x6 : Int64} {x8 : Int32} {x9 : Int32} {x10 : Int32} {x11 : Int32} {s : cS} {x : (((Int32 × Int32) × cS) ⊕ (((Int32 × Int32) × cS) ⊕ (Int32 × cS)))} (h : j_X5_flightsTill_109 N x1 x2 x3 x4 x6 x8 x9 x10 x11 s = some x) (hx : (KL (fun (v : (Int32 × Int32) × cS) => PW g l (pRoom 6 0 0) M_X5_flightsTill F 50 [(0, .ref 116), (1, .int x1), (2, .int x2), (3, .int x3), (4, .long x4), (6, .long x6), (8, .int v.1.1), (9, .int x9), (10, .int v.1.2)] [] (tS v.2) 0 0) (KL (fun (v : (Int32 × Int32) × cS) => PW g l (pRoom 6 0 0) M_X5_flightsTill F 35 [(0, .ref 116), (1, .int x1), (2, .int x2), (3, .int x3), (4, .long x4), (6, .long x6), (8, .int v.1.1), (9, .int v.1.2)] [] (tS v.2) 0 0) (fun q => F = pE g (some (.int q.1)) (tS q.2) 0 0))) x) : PW g l (pRoom 6 0 0) M_X5_flightsTill F 109 [(0, .ref 116), (1, .int x1), (2, .int x2), (3, .int x3), (4, .long x4), (6, .long x6), (8, .int x8), (9, .int x9), (10, .int x10), (11, .int x11)] [] (tS s) 0 0 := by
  unfold j_X5_flightsTill_109 at h
  refine PW.iconst (v := 1) dX5_flightsTill_109 (by decide) ?_
  refine PW.goto (tgt := 114) dX5_flightsTill_110 (by decide) ?_
  exact PW.pick [0, 1, 2, 3, 4, 5, 6, 7, 8, 9] rfl (ok_j_X5_flightsTill_114 h hx)
def b_X5_flightsTill_50 (N : Nat) (x1 : Int32) (x2 : Int32) (x3 : Int32) (x4 : Int64) (x6 : Int64) (x9 : Int32) (x8 : Int32) (x10 : Int32) (s : cS) : Option (((Int32 × Int32) × cS) ⊕ (((Int32 × Int32) × cS) ⊕ (Int32 × cS))) :=
  if (f_X1_livesOf x9 s) ≤ x10 then
    oR (
      j_X5_flightsTill_156 x1 x2 x3 x4 x6 x8 x9 s)
  else
    if (f_X5_isIn x1 x9 s) = 0 then
      oR (
        j_X5_flightsTill_156 x1 x2 x3 x4 x6 x8 x9 s)
    else
      if (aA s 118 32 ((x9 * (4 : Int32)) + x10)) ≤ x2 then
        j_X5_flightsTill_113 N x1 x2 x3 x4 x6 x8 x9 x10 (aA s 118 32 ((x9 * (4 : Int32)) + x10)) s
      else
        if x8 < 0 then
          j_X5_flightsTill_109 N x1 x2 x3 x4 x6 x8 x9 x10 (aA s 118 32 ((x9 * (4 : Int32)) + x10)) s
        else
          if x8 ≤ ((aA s 118 32 ((x9 * (4 : Int32)) + x10)) - x2) then
            j_X5_flightsTill_113 N x1 x2 x3 x4 x6 x8 x9 x10 (aA s 118 32 ((x9 * (4 : Int32)) + x10)) s
          else
            j_X5_flightsTill_109 N x1 x2 x3 x4 x6 x8 x9 x10 (aA s 118 32 ((x9 * (4 : Int32)) + x10)) s
set_option maxRecDepth 20000 in
set_option maxHeartbeats 4000000 in
theorem ok_b_X5_flightsTill_50 {g : pG} {l : Launch} {F : pF} {N : Nat} {x1 : Int32} {x2 : Int32} {x3 : Int32} {x4 : Int64} {x6 : Int64} {x9 : Int32} {x8 : Int32} {x10 : Int32} {s : cS} {x : (((Int32 × Int32) × cS) ⊕ (((Int32 × Int32) × cS) ⊕ (Int32 × cS)))} (h : b_X5_flightsTill_50 N x1 x2 x3 x4 x6 x9 x8 x10 s = some x) (hx : (KL (fun (v : (Int32 × Int32) × cS) => PW g l (pRoom 6 0 0) M_X5_flightsTill F 50 [(0, .ref 116), (1, .int x1), (2, .int x2), (3, .int x3), (4, .long x4), (6, .long x6), (8, .int v.1.1), (9, .int x9), (10, .int v.1.2)] [] (tS v.2) 0 0) (KL (fun (v : (Int32 × Int32) × cS) => PW g l (pRoom 6 0 0) M_X5_flightsTill F 35 [(0, .ref 116), (1, .int x1), (2, .int x2), (3, .int x3), (4, .long x4), (6, .long x6), (8, .int v.1.1), (9, .int v.1.2)] [] (tS v.2) 0 0) (fun q => F = pE g (some (.int q.1)) (tS q.2) 0 0))) x) : PW g l (pRoom 6 0 0) M_X5_flightsTill F 50 [(0, .ref 116), (1, .int x1), (2, .int x2), (3, .int x3), (4, .long x4), (6, .long x6), (8, .int x8), (9, .int x9), (10, .int x10)] [] (tS s) 0 0 := by
  unfold b_X5_flightsTill_50 at h
  refine PW.iload 8 dX5_flightsTill_50 rfl ?_
  refine PW.aload_n 0 0 dX5_flightsTill_52 rfl rfl rfl ?_
  refine CW.getr dX5_flightsTill_53 fL_X5_32 LA_116 (Or.inl ⟨_, rfl⟩) rfl ?_
  refine PW.iload 7 dX5_flightsTill_56 rfl ?_
  refine CW.callVi (ci := 1) (st := [.int x10]) [.int x9] dX5_flightsTill_58 (p_X1_livesOf rfl) MV_X1_livesOf mL_X5_88 (by decide) rfl LA_3 rfl rfl (Nat.le_of_ble_eq_true rfl) (by first | decide | omega) ?_
  refine PW.icmp_ge (tgt := 156) dX5_flightsTill_61 (by decide) (fun c11 => ?_) (fun c11 => ?_)
  · replace h := ifp h c11
    obtain ⟨xo, hy, hxo⟩ := oRb h
    clear h
    subst hxo
    replace hx := KLr hx
    have h := hy
    clear hy
    exact PW.pick [0, 1, 2, 3, 4, 5, 6, 7] rfl (ok_j_X5_flightsTill_156 h hx)
  · replace h := ifn h c11
    refine PW.iload_n 1 1 dX5_flightsTill_64 rfl rfl ?_
    refine PW.iload 7 dX5_flightsTill_65 rfl ?_
    refine CW.callSi (st := []) [.int x1, .int x9] dX5_flightsTill_67 (p_X5_isIn rfl) MS_X5_isIn mL_X5_80 rfl rfl (Nat.le_of_ble_eq_true rfl) (by first | decide | omega) ?_
    refine PW.if_eq (tgt := 156) dX5_flightsTill_70 (by decide) (fun c13 => ?_) (fun c13 => ?_)
    · replace h := ifp h c13
      obtain ⟨xo, hy, hxo⟩ := oRb h
      clear h
      subst hxo
      replace hx := KLr hx
      have h := hy
      clear hy
      exact PW.pick [0, 1, 2, 3, 4, 5, 6, 7] rfl (ok_j_X5_flightsTill_156 h hx)
    · replace h := ifn h c13
      refine PW.aload_n 0 0 dX5_flightsTill_73 rfl rfl rfl ?_
      refine CW.getr dX5_flightsTill_74 fL_X5_17 LA_116 (Or.inr ⟨_, rfl⟩) rfl ?_
      refine PW.iload 7 dX5_flightsTill_77 rfl ?_
      refine PW.iconst (v := 4) dX5_flightsTill_79 (by decide) ?_
      refine PW.imul dX5_flightsTill_80 ?_
      refine PW.iload 8 dX5_flightsTill_81 rfl ?_
      refine PW.iadd dX5_flightsTill_83 ?_
      refine CW.callSNi (st := []) [.ref 118, .int ((x9 * (4 : Int32)) + x10)] dX5_flightsTill_84 (ps_at LA_118 rfl) MS_X11_at mN_X5_98 rfl rfl (Nat.le_of_ble_eq_true rfl) (by first | decide | omega) ?_
      refine PW.istore dX5_flightsTill_87 (Nat.le_of_ble_eq_true rfl) rfl ?_
      refine PW.iload 0 dX5_flightsTill_89 rfl ?_
      refine PW.iload_n 3 2 dX5_flightsTill_91 rfl rfl ?_
      refine PW.icmp_le (tgt := 113) dX5_flightsTill_92 (by decide) (fun c15 => ?_) (fun c15 => ?_)
      · replace h := ifp h c15
        exact PW.pick [1, 2, 3, 4, 5, 6, 7, 8, 9, 0] rfl (ok_j_X5_flightsTill_113 h hx)
      · replace h := ifn h c15
        refine PW.iload 7 dX5_flightsTill_95 rfl ?_
        refine PW.if_lt (tgt := 109) dX5_flightsTill_97 (by decide) (fun c21 => ?_) (fun c21 => ?_)
        · replace h := ifp h c21
          exact PW.pick [1, 2, 3, 4, 5, 6, 7, 8, 9, 0] rfl (ok_j_X5_flightsTill_109 h hx)
        · replace h := ifn h c21
          refine PW.iload 0 dX5_flightsTill_100 rfl ?_
          refine PW.iload_n 3 2 dX5_flightsTill_102 rfl rfl ?_
          refine PW.isub dX5_flightsTill_103 ?_
          refine PW.iload 7 dX5_flightsTill_104 rfl ?_
          refine PW.icmp_ge (tgt := 113) dX5_flightsTill_106 (by decide) (fun c22 => ?_) (fun c22 => ?_)
          · replace h := ifp h c22
            exact PW.pick [1, 2, 3, 4, 5, 6, 7, 8, 9, 0] rfl (ok_j_X5_flightsTill_113 h hx)
          · replace h := ifn h c22
            exact PW.pick [1, 2, 3, 4, 5, 6, 7, 8, 9, 0] rfl (ok_j_X5_flightsTill_109 h hx)
def w_X5_flightsTill_50 (N : Nat) (x1 : Int32) (x2 : Int32) (x3 : Int32) (x4 : Int64) (x6 : Int64) (x8 : Int32) (x9 : Int32) (x10 : Int32) (s : cS) : Option (((Int32 × Int32) × cS) ⊕ (Int32 × cS)) := itr (fun (v : (Int32 × Int32) × cS) => b_X5_flightsTill_50 N x1 x2 x3 x4 x6 x9 v.1.1 v.1.2 v.2) N ((x8, x10), s)
theorem ok_w_X5_flightsTill_50 {g : pG} {l : Launch} {F : pF} {N : Nat} {x1 : Int32} {x2 : Int32} {x3 : Int32} {x4 : Int64} {x6 : Int64} {x8 : Int32} {x9 : Int32} {x10 : Int32} {s : cS} {x : (((Int32 × Int32) × cS) ⊕ (Int32 × cS))} (h : w_X5_flightsTill_50 N x1 x2 x3 x4 x6 x8 x9 x10 s = some x) (hx : (KL (fun (v : (Int32 × Int32) × cS) => PW g l (pRoom 6 0 0) M_X5_flightsTill F 35 [(0, .ref 116), (1, .int x1), (2, .int x2), (3, .int x3), (4, .long x4), (6, .long x6), (8, .int v.1.1), (9, .int v.1.2)] [] (tS v.2) 0 0) (fun q => F = pE g (some (.int q.1)) (tS q.2) 0 0)) x) : PW g l (pRoom 6 0 0) M_X5_flightsTill F 50 [(0, .ref 116), (1, .int x1), (2, .int x2), (3, .int x3), (4, .long x4), (6, .long x6), (8, .int x8), (9, .int x9), (10, .int x10)] [] (tS s) 0 0 :=
  okIter (P := (fun (v : (Int32 × Int32) × cS) => PW g l (pRoom 6 0 0) M_X5_flightsTill F 50 [(0, .ref 116), (1, .int x1), (2, .int x2), (3, .int x3), (4, .long x4), (6, .long x6), (8, .int v.1.1), (9, .int x9), (10, .int v.1.2)] [] (tS v.2) 0 0)) (K := (KL (fun (v : (Int32 × Int32) × cS) => PW g l (pRoom 6 0 0) M_X5_flightsTill F 35 [(0, .ref 116), (1, .int x1), (2, .int x2), (3, .int x3), (4, .long x4), (6, .long x6), (8, .int v.1.1), (9, .int v.1.2)] [] (tS v.2) 0 0) (fun q => F = pE g (some (.int q.1)) (tS q.2) 0 0))) (fun v y hB hy => ok_b_X5_flightsTill_50 hB hy) N ((x8, x10), s) x h hx
def b_X5_flightsTill_35 (N : Nat) (x1 : Int32) (x2 : Int32) (x3 : Int32) (x4 : Int64) (x6 : Int64) (x8 : Int32) (x9 : Int32) (s : cS) : Option (((Int32 × Int32) × cS) ⊕ (Int32 × cS)) :=
  if (f_X1_size s) ≤ x9 then
    oR (
      some ((x8, s)))
  else
    w_X5_flightsTill_50 N x1 x2 x3 x4 x6 x8 x9 (0 : Int32) s
set_option maxRecDepth 20000 in
set_option maxHeartbeats 4000000 in
theorem ok_b_X5_flightsTill_35 {g : pG} {l : Launch} {F : pF} {N : Nat} {x1 : Int32} {x2 : Int32} {x3 : Int32} {x4 : Int64} {x6 : Int64} {x8 : Int32} {x9 : Int32} {s : cS} {x : (((Int32 × Int32) × cS) ⊕ (Int32 × cS))} (h : b_X5_flightsTill_35 N x1 x2 x3 x4 x6 x8 x9 s = some x) (hx : (KL (fun (v : (Int32 × Int32) × cS) => PW g l (pRoom 6 0 0) M_X5_flightsTill F 35 [(0, .ref 116), (1, .int x1), (2, .int x2), (3, .int x3), (4, .long x4), (6, .long x6), (8, .int v.1.1), (9, .int v.1.2)] [] (tS v.2) 0 0) (fun q => F = pE g (some (.int q.1)) (tS q.2) 0 0)) x) : PW g l (pRoom 6 0 0) M_X5_flightsTill F 35 [(0, .ref 116), (1, .int x1), (2, .int x2), (3, .int x3), (4, .long x4), (6, .long x6), (8, .int x8), (9, .int x9)] [] (tS s) 0 0 := by
  unfold b_X5_flightsTill_35 at h
  refine PW.iload 7 dX5_flightsTill_35 rfl ?_
  refine PW.aload_n 0 0 dX5_flightsTill_37 rfl rfl rfl ?_
  refine CW.getr dX5_flightsTill_38 fL_X5_32 LA_116 (Or.inl ⟨_, rfl⟩) rfl ?_
  refine CW.callVi (ci := 1) (st := [.int x9]) [] dX5_flightsTill_41 (p_X1_size rfl) MV_X1_size mL_X5_77 (by decide) rfl LA_3 rfl rfl (Nat.le_of_ble_eq_true rfl) (by first | decide | omega) ?_
  refine PW.icmp_ge (tgt := 162) dX5_flightsTill_44 (by decide) (fun c9 => ?_) (fun c9 => ?_)
  · replace h := ifp h c9
    obtain ⟨xo, hy, hxo⟩ := oRb h
    clear h
    subst hxo
    replace hx := KLr hx
    have h := hy
    clear hy
    refine PW.iload 6 dX5_flightsTill_162 rfl ?_
    cases h
    subst hx
    exact PW.iret (v := x8) dX5_flightsTill_164 rfl rfl (Nat.le_refl 0) (Nat.le_refl 0)
  · replace h := ifn h c9
    refine PW.iconst (v := 0) dX5_flightsTill_47 (by decide) ?_
    refine PW.istore dX5_flightsTill_48 (Nat.le_of_ble_eq_true rfl) rfl ?_
    exact PW.pick [1, 2, 3, 4, 5, 6, 7, 8, 0] rfl (ok_w_X5_flightsTill_50 h hx)
def w_X5_flightsTill_35 (N : Nat) (x1 : Int32) (x2 : Int32) (x3 : Int32) (x4 : Int64) (x6 : Int64) (x8 : Int32) (x9 : Int32) (s : cS) : Option (Int32 × cS) := itr (fun (v : (Int32 × Int32) × cS) => b_X5_flightsTill_35 N x1 x2 x3 x4 x6 v.1.1 v.1.2 v.2) N ((x8, x9), s)
theorem ok_w_X5_flightsTill_35 {g : pG} {l : Launch} {F : pF} {N : Nat} {x1 : Int32} {x2 : Int32} {x3 : Int32} {x4 : Int64} {x6 : Int64} {x8 : Int32} {x9 : Int32} {s : cS} {x : (Int32 × cS)} (h : w_X5_flightsTill_35 N x1 x2 x3 x4 x6 x8 x9 s = some x) (hx : (fun q => F = pE g (some (.int q.1)) (tS q.2) 0 0) x) : PW g l (pRoom 6 0 0) M_X5_flightsTill F 35 [(0, .ref 116), (1, .int x1), (2, .int x2), (3, .int x3), (4, .long x4), (6, .long x6), (8, .int x8), (9, .int x9)] [] (tS s) 0 0 :=
  okIter (P := (fun (v : (Int32 × Int32) × cS) => PW g l (pRoom 6 0 0) M_X5_flightsTill F 35 [(0, .ref 116), (1, .int x1), (2, .int x2), (3, .int x3), (4, .long x4), (6, .long x6), (8, .int v.1.1), (9, .int v.1.2)] [] (tS v.2) 0 0)) (K := (fun q => F = pE g (some (.int q.1)) (tS q.2) 0 0)) (fun v y hB hy => ok_b_X5_flightsTill_35 hB hy) N ((x8, x9), s) x h hx
def f_X5_flightsTill (N : Nat) (a0 : Int32) (a1 : Int32) (a2 : Int32) (s : cS) : Option (Int32 × cS) :=
  ob (f_X5_lost N a0 a1 s) fun r1 s2 =>
  ob (f_X5_ways N a0 s2) fun r4 s5 =>
  if (lg_cmp (r4 - r1) (0 : Int64)) = 0 then
    some (((-2 : Int32), s5))
  else
    w_X5_flightsTill_35 N a0 a1 a2 r1 (r4 - r1) (-2 : Int32) (0 : Int32) s5
set_option maxRecDepth 20000 in
set_option maxHeartbeats 4000000 in
theorem p_X5_flightsTill {g : pG} {l : Launch} {N : Nat} {a0 : Int32} {a1 : Int32} {a2 : Int32} {s : cS} {q : Int32 × cS} (h : f_X5_flightsTill N a0 a1 a2 s = some q) : PM g l 6 M_X5_flightsTill [.ref 116, .int a0, .int a1, .int a2] (tS s) (some (.int q.1)) (tS q.2) 0 0 := by
  refine PM.of (by decide +kernel) (Nat.le_of_ble_eq_true rfl) ?_
  show PW g l (pRoom 6 0 0) M_X5_flightsTill _ 0 [(0, .ref 116), (1, .int a0), (2, .int a1), (3, .int a2)] [] (tS s) 0 0
  unfold f_X5_flightsTill at h
  generalize hF : pE g (some (.int q.1)) (tS q.2) 0 0 = F
  have hx := hF.symm
  refine PW.aload_n 0 0 dX5_flightsTill_0 rfl rfl rfl ?_
  refine PW.iload_n 1 1 dX5_flightsTill_1 rfl rfl ?_
  refine PW.iload_n 2 2 dX5_flightsTill_2 rfl rfl ?_
  obtain ⟨r1, s2, q3, h⟩ := obnd h
  refine CW.callVl (ci := 5) (st := []) [.int a0, .int a1] dX5_flightsTill_3 (p_X5_lost q3) MV_X5_lost mL_X5_113 (by decide) rfl LA_116 rfl rfl (Nat.le_of_ble_eq_true rfl) (by first | decide | omega) ?_
  refine PW.lstore dX5_flightsTill_6 (Nat.le_of_ble_eq_true rfl) rfl ?_
  refine PW.aload_n 1 0 dX5_flightsTill_8 rfl rfl rfl ?_
  refine PW.iload_n 2 1 dX5_flightsTill_9 rfl rfl ?_
  obtain ⟨r4, s5, q6, h⟩ := obnd h
  refine CW.callVl (ci := 5) (st := []) [.int a0] dX5_flightsTill_10 (p_X5_ways q6) MV_X5_ways mL_X5_109 (by decide) rfl LA_116 rfl rfl (Nat.le_of_ble_eq_true rfl) (by first | decide | omega) ?_
  refine PW.lload 0 dX5_flightsTill_13 rfl ?_
  refine PW.lsub dX5_flightsTill_15 ?_
  refine PW.lstore dX5_flightsTill_16 (Nat.le_of_ble_eq_true rfl) rfl ?_
  refine PW.lload 0 dX5_flightsTill_18 rfl ?_
  refine PW.lconst (v := 0) dX5_flightsTill_20 (by decide) ?_
  refine PW.lcmp dX5_flightsTill_21 ?_
  refine PW.if_ne (tgt := 28) dX5_flightsTill_22 (by decide) (fun c7 => ?_) (fun c7 => ?_)
  · replace h := ifn h c7
    refine PW.bipush (v := (-2)) dX5_flightsTill_28 (by decide) ?_
    refine PW.istore dX5_flightsTill_30 (Nat.le_of_ble_eq_true rfl) rfl ?_
    refine PW.iconst (v := 0) dX5_flightsTill_32 (by decide) ?_
    refine PW.istore dX5_flightsTill_33 (Nat.le_of_ble_eq_true rfl) rfl ?_
    exact PW.pick [4, 5, 6, 7, 3, 2, 1, 0] rfl (ok_w_X5_flightsTill_35 h hx)
  · replace h := ifp h c7
    refine PW.bipush (v := (-2)) dX5_flightsTill_25 (by decide) ?_
    cases h
    subst hx
    exact PW.iret (v := (-2 : Int32)) dX5_flightsTill_27 rfl rfl (Nat.le_refl 0) (Nat.le_refl 0)
/-! X5_cheapestFlights -/
def j_X5_cheapestFlights_109 (x1 : Int32) (x2 : Int32) (x3 : Int32) (x4 : Int32) (x5 : Int32) (x6 : Int64) (x8 : Int64) (x10 : Int32) (x11 : Int64) (x13 : Int32) (s : cS) : Option (((Int32 × Int64 × Int32) × cS) ⊕ (Int32 × cS)) :=
  some (.inl ((x10, x11, (x13 + (1 : Int32))), s))
set_option maxRecDepth 20000 in
set_option maxHeartbeats 4000000 in
theorem ok_j_X5_cheapestFlights_109 {g : pG} {l : Launch} {F : pF} {x1 : Int32} {x2 : Int32} {x3 : Int32} {x4 : Int32} {x5 : Int32} {x6 : Int64} {x8 : Int64} {x10 : Int32} {x11 : Int64} {x13 : Int32} {s : cS} {x : (((Int32 × Int64 × Int32) × cS) ⊕ (Int32 × cS))} (h : j_X5_cheapestFlights_109 x1 x2 x3 x4 x5 x6 x8 x10 x11 x13 s = some x) (hx : (KL (fun (v : (Int32 × Int64 × Int32) × cS) => PW g l (pRoom 6 0 0) M_X5_cheapestFlights F 56 [(0, .ref 116), (1, .int x1), (2, .int x2), (3, .int x3), (4, .int x4), (5, .int x5), (6, .long x6), (8, .long x8), (10, .int v.1.1), (11, .long v.1.2.1), (13, .int v.1.2.2)] [] (tS v.2) 0 0) (fun q => F = pE g (some (.int q.1)) (tS q.2) 0 0)) x) : PW g l (pRoom 6 0 0) M_X5_cheapestFlights F 109 [(0, .ref 116), (1, .int x1), (2, .int x2), (3, .int x3), (4, .int x4), (5, .int x5), (6, .long x6), (8, .long x8), (10, .int x10), (11, .long x11), (13, .int x13)] [] (tS s) 0 0 := by
  unfold j_X5_cheapestFlights_109 at h
  refine PW.iinc (v := (x13 + (1 : Int32))) 10 dX5_cheapestFlights_109 rfl (by first | rfl | decide) (Nat.le_of_ble_eq_true rfl) rfl ?_
  refine PW.goto (tgt := 56) dX5_cheapestFlights_112 (by decide) ?_
  cases h
  exact PW.pick [1, 2, 3, 4, 5, 6, 7, 8, 9, 10, 0] rfl hx
def b_X5_cheapestFlights_56 (N : Nat) (x1 : Int32) (x2 : Int32) (x3 : Int32) (x4 : Int32) (x5 : Int32) (x6 : Int64) (x8 : Int64) (x10 : Int32) (x11 : Int64) (x13 : Int32) (s : cS) : Option (((Int32 × Int64 × Int32) × cS) ⊕ (Int32 × cS)) :=
  if x2 < x13 then
    oR (
      some ((x10, s)))
  else
    ob (f_X5_lost N x5 (x1 + x13) s) fun r10 s11 =>
    if 0 ≤ (lg_cmp ((x3.toInt64 * (r10 - x6)) + ((x4.toInt64 * x8) * (x2 - x13).toInt64)) x11) then
      j_X5_cheapestFlights_109 x1 x2 x3 x4 x5 x6 x8 x10 x11 x13 s11
    else
      j_X5_cheapestFlights_109 x1 x2 x3 x4 x5 x6 x8 x13 ((x3.toInt64 * (r10 - x6)) + ((x4.toInt64 * x8) * (x2 - x13).toInt64)) x13 s11
set_option maxRecDepth 20000 in
set_option maxHeartbeats 4000000 in
theorem ok_b_X5_cheapestFlights_56 {g : pG} {l : Launch} {F : pF} {N : Nat} {x1 : Int32} {x2 : Int32} {x3 : Int32} {x4 : Int32} {x5 : Int32} {x6 : Int64} {x8 : Int64} {x10 : Int32} {x11 : Int64} {x13 : Int32} {s : cS} {x : (((Int32 × Int64 × Int32) × cS) ⊕ (Int32 × cS))} (h : b_X5_cheapestFlights_56 N x1 x2 x3 x4 x5 x6 x8 x10 x11 x13 s = some x) (hx : (KL (fun (v : (Int32 × Int64 × Int32) × cS) => PW g l (pRoom 6 0 0) M_X5_cheapestFlights F 56 [(0, .ref 116), (1, .int x1), (2, .int x2), (3, .int x3), (4, .int x4), (5, .int x5), (6, .long x6), (8, .long x8), (10, .int v.1.1), (11, .long v.1.2.1), (13, .int v.1.2.2)] [] (tS v.2) 0 0) (fun q => F = pE g (some (.int q.1)) (tS q.2) 0 0)) x) : PW g l (pRoom 6 0 0) M_X5_cheapestFlights F 56 [(0, .ref 116), (1, .int x1), (2, .int x2), (3, .int x3), (4, .int x4), (5, .int x5), (6, .long x6), (8, .long x8), (10, .int x10), (11, .long x11), (13, .int x13)] [] (tS s) 0 0 := by
  unfold b_X5_cheapestFlights_56 at h
  refine PW.iload 10 dX5_cheapestFlights_56 rfl ?_
  refine PW.iload_n 2 2 dX5_cheapestFlights_58 rfl rfl ?_
  refine PW.icmp_gt (tgt := 115) dX5_cheapestFlights_59 (by decide) (fun c9 => ?_) (fun c9 => ?_)
  · replace h := ifp h c9
    obtain ⟨xo, hy, hxo⟩ := oRb h
    clear h
    subst hxo
    replace hx := KLr hx
    have h := hy
    clear hy
    refine PW.iload 8 dX5_cheapestFlights_115 rfl ?_
    cases h
    subst hx
    exact PW.iret (v := x10) dX5_cheapestFlights_117 rfl rfl (Nat.le_refl 0) (Nat.le_refl 0)
  · replace h := ifn h c9
    refine PW.iload_n 3 3 dX5_cheapestFlights_62 rfl rfl ?_
    refine PW.i2l dX5_cheapestFlights_63 ?_
    refine PW.aload_n 0 0 dX5_cheapestFlights_64 rfl rfl rfl ?_
    refine PW.iload 5 dX5_cheapestFlights_65 rfl ?_
    refine PW.iload_n 1 1 dX5_cheapestFlights_67 rfl rfl ?_
    refine PW.iload 10 dX5_cheapestFlights_68 rfl ?_
    refine PW.iadd dX5_cheapestFlights_70 ?_
    obtain ⟨r10, s11, q12, h⟩ := obnd h
    refine CW.callVl (ci := 5) (st := [.long x3.toInt64]) [.int x5, .int (x1 + x13)] dX5_cheapestFlights_71 (p_X5_lost q12) MV_X5_lost mL_X5_113 (by decide) rfl LA_116 rfl rfl (Nat.le_of_ble_eq_true rfl) (by first | decide | omega) ?_
    refine PW.lload 6 dX5_cheapestFlights_74 rfl ?_
    refine PW.lsub dX5_cheapestFlights_76 ?_
    refine PW.lmul dX5_cheapestFlights_77 ?_
    refine PW.iload 4 dX5_cheapestFlights_78 rfl ?_
    refine PW.i2l dX5_cheapestFlights_80 ?_
    refine PW.lload 7 dX5_cheapestFlights_81 rfl ?_
    refine PW.lmul dX5_cheapestFlights_83 ?_
    refine PW.iload_n 2 2 dX5_cheapestFlights_84 rfl rfl ?_
    refine PW.iload 10 dX5_cheapestFlights_85 rfl ?_
    refine PW.isub dX5_cheapestFlights_87 ?_
    refine PW.i2l dX5_cheapestFlights_88 ?_
    refine PW.lmul dX5_cheapestFlights_89 ?_
    refine PW.ladd dX5_cheapestFlights_90 ?_
    refine PW.lstore dX5_cheapestFlights_91 (Nat.le_of_ble_eq_true rfl) rfl ?_
    refine PW.lload 0 dX5_cheapestFlights_93 rfl ?_
    refine PW.lload 10 dX5_cheapestFlights_95 rfl ?_
    refine PW.lcmp dX5_cheapestFlights_97 ?_
    refine PW.if_ge (tgt := 109) dX5_cheapestFlights_98 (by decide) (fun c13 => ?_) (fun c13 => ?_)
    · replace h := ifp h c13
      exact PW.pick [1, 2, 3, 4, 5, 6, 7, 8, 9, 10, 11] rfl (ok_j_X5_cheapestFlights_109 h hx)
    · replace h := ifn h c13
      refine PW.lload 0 dX5_cheapestFlights_101 rfl ?_
      refine PW.lstore dX5_cheapestFlights_103 (Nat.le_of_ble_eq_true rfl) rfl ?_
      refine PW.iload 11 dX5_cheapestFlights_105 rfl ?_
      refine PW.istore dX5_cheapestFlights_107 (Nat.le_of_ble_eq_true rfl) rfl ?_
      exact PW.pick [3, 4, 5, 6, 7, 8, 9, 10, 0, 1, 11] rfl (ok_j_X5_cheapestFlights_109 h hx)
def w_X5_cheapestFlights_56 (N : Nat) (x1 : Int32) (x2 : Int32) (x3 : Int32) (x4 : Int32) (x5 : Int32) (x6 : Int64) (x8 : Int64) (x10 : Int32) (x11 : Int64) (x13 : Int32) (s : cS) : Option (Int32 × cS) := itr (fun (v : (Int32 × Int64 × Int32) × cS) => b_X5_cheapestFlights_56 N x1 x2 x3 x4 x5 x6 x8 v.1.1 v.1.2.1 v.1.2.2 v.2) N ((x10, x11, x13), s)
theorem ok_w_X5_cheapestFlights_56 {g : pG} {l : Launch} {F : pF} {N : Nat} {x1 : Int32} {x2 : Int32} {x3 : Int32} {x4 : Int32} {x5 : Int32} {x6 : Int64} {x8 : Int64} {x10 : Int32} {x11 : Int64} {x13 : Int32} {s : cS} {x : (Int32 × cS)} (h : w_X5_cheapestFlights_56 N x1 x2 x3 x4 x5 x6 x8 x10 x11 x13 s = some x) (hx : (fun q => F = pE g (some (.int q.1)) (tS q.2) 0 0) x) : PW g l (pRoom 6 0 0) M_X5_cheapestFlights F 56 [(0, .ref 116), (1, .int x1), (2, .int x2), (3, .int x3), (4, .int x4), (5, .int x5), (6, .long x6), (8, .long x8), (10, .int x10), (11, .long x11), (13, .int x13)] [] (tS s) 0 0 :=
  okIter (P := (fun (v : (Int32 × Int64 × Int32) × cS) => PW g l (pRoom 6 0 0) M_X5_cheapestFlights F 56 [(0, .ref 116), (1, .int x1), (2, .int x2), (3, .int x3), (4, .int x4), (5, .int x5), (6, .long x6), (8, .long x8), (10, .int v.1.1), (11, .long v.1.2.1), (13, .int v.1.2.2)] [] (tS v.2) 0 0)) (K := (fun q => F = pE g (some (.int q.1)) (tS q.2) 0 0)) (fun v y hB hy => ok_b_X5_cheapestFlights_56 hB hy) N ((x10, x11, x13), s) x h hx
def f_X5_cheapestFlights (N : Nat) (a0 : Int32) (a1 : Int32) (a2 : Int32) (a3 : Int32) (s : cS) : Option (Int32 × cS) :=
  ob (f_X5_lost N (f_X1_every s) a0 s) fun r2 s3 =>
  ob (f_X5_ways N (f_X1_every s) s3) fun r5 s6 =>
  if (lg_cmp (r5 - r2) (0 : Int64)) = 0 then
    some (((-2 : Int32), s6))
  else
    w_X5_cheapestFlights_56 N a0 a1 a2 a3 (f_X1_every s) r2 (r5 - r2) (0 : Int32) ((a3.toInt64 * (r5 - r2)) * a1.toInt64) (1 : Int32) s6
set_option maxRecDepth 20000 in
set_option maxHeartbeats 4000000 in
theorem p_X5_cheapestFlights {g : pG} {l : Launch} {N : Nat} {a0 : Int32} {a1 : Int32} {a2 : Int32} {a3 : Int32} {s : cS} {q : Int32 × cS} (h : f_X5_cheapestFlights N a0 a1 a2 a3 s = some q) : PM g l 6 M_X5_cheapestFlights [.ref 116, .int a0, .int a1, .int a2, .int a3] (tS s) (some (.int q.1)) (tS q.2) 0 0 := by
  refine PM.of (by decide +kernel) (Nat.le_of_ble_eq_true rfl) ?_
  show PW g l (pRoom 6 0 0) M_X5_cheapestFlights _ 0 [(0, .ref 116), (1, .int a0), (2, .int a1), (3, .int a2), (4, .int a3)] [] (tS s) 0 0
  unfold f_X5_cheapestFlights at h
  generalize hF : pE g (some (.int q.1)) (tS q.2) 0 0 = F
  have hx := hF.symm
  refine PW.aload_n 0 0 dX5_cheapestFlights_0 rfl rfl rfl ?_
  refine CW.getr dX5_cheapestFlights_1 fL_X5_32 LA_116 (Or.inl ⟨_, rfl⟩) rfl ?_
  refine CW.callVi (ci := 1) (st := []) [] dX5_cheapestFlights_4 (p_X1_every rfl) MV_X1_every mL_X5_118 (by decide) rfl LA_3 rfl rfl (Nat.le_of_ble_eq_true rfl) (by first | decide | omega) ?_
  refine PW.istore dX5_cheapestFlights_7 (Nat.le_of_ble_eq_true rfl) rfl ?_
  refine PW.aload_n 1 0 dX5_cheapestFlights_9 rfl rfl rfl ?_
  refine PW.iload 0 dX5_cheapestFlights_10 rfl ?_
  refine PW.iload_n 2 1 dX5_cheapestFlights_12 rfl rfl ?_
  obtain ⟨r2, s3, q4, h⟩ := obnd h
  refine CW.callVl (ci := 5) (st := []) [.int (f_X1_every s), .int a0] dX5_cheapestFlights_13 (p_X5_lost q4) MV_X5_lost mL_X5_113 (by decide) rfl LA_116 rfl rfl (Nat.le_of_ble_eq_true rfl) (by first | decide | omega) ?_
  refine PW.lstore dX5_cheapestFlights_16 (Nat.le_of_ble_eq_true rfl) rfl ?_
  refine PW.aload_n 2 0 dX5_cheapestFlights_18 rfl rfl rfl ?_
  refine PW.iload 1 dX5_cheapestFlights_19 rfl ?_
  obtain ⟨r5, s6, q7, h⟩ := obnd h
  refine CW.callVl (ci := 5) (st := []) [.int (f_X1_every s)] dX5_cheapestFlights_21 (p_X5_ways q7) MV_X5_ways mL_X5_109 (by decide) rfl LA_116 rfl rfl (Nat.le_of_ble_eq_true rfl) (by first | decide | omega) ?_
  refine PW.lload 0 dX5_cheapestFlights_24 rfl ?_
  refine PW.lsub dX5_cheapestFlights_26 ?_
  refine PW.lstore dX5_cheapestFlights_27 (Nat.le_of_ble_eq_true rfl) rfl ?_
  refine PW.lload 0 dX5_cheapestFlights_29 rfl ?_
  refine PW.lconst (v := 0) dX5_cheapestFlights_31 (by decide) ?_
  refine PW.lcmp dX5_cheapestFlights_32 ?_
  refine PW.if_ne (tgt := 39) dX5_cheapestFlights_33 (by decide) (fun c8 => ?_) (fun c8 => ?_)
  · replace h := ifn h c8
    refine PW.iconst (v := 0) dX5_cheapestFlights_39 (by decide) ?_
    refine PW.istore dX5_cheapestFlights_40 (Nat.le_of_ble_eq_true rfl) rfl ?_
    refine PW.iload 8 dX5_cheapestFlights_42 rfl ?_
    refine PW.i2l dX5_cheapestFlights_44 ?_
    refine PW.lload 1 dX5_cheapestFlights_45 rfl ?_
    refine PW.lmul dX5_cheapestFlights_47 ?_
    refine PW.iload_n 6 2 dX5_cheapestFlights_48 rfl rfl ?_
    refine PW.i2l dX5_cheapestFlights_49 ?_
    refine PW.lmul dX5_cheapestFlights_50 ?_
    refine PW.lstore dX5_cheapestFlights_51 (Nat.le_of_ble_eq_true rfl) rfl ?_
    refine PW.iconst (v := 1) dX5_cheapestFlights_53 (by decide) ?_
    refine PW.istore dX5_cheapestFlights_54 (Nat.le_of_ble_eq_true rfl) rfl ?_
    exact PW.pick [6, 7, 8, 9, 10, 5, 4, 3, 2, 1, 0] rfl (ok_w_X5_cheapestFlights_56 h hx)
  · replace h := ifp h c8
    refine PW.bipush (v := (-2)) dX5_cheapestFlights_36 (by decide) ?_
    cases h
    subst hx
    exact PW.iret (v := (-2 : Int32)) dX5_cheapestFlights_38 rfl rfl (Nat.le_refl 0) (Nat.le_refl 0)
