/-! X2_size -/
def f_X2_size (s : cS) : Int32 :=
  (iG s 32 4)
set_option maxRecDepth 20000 in
set_option maxHeartbeats 4000000 in
theorem p_X2_size {g : pG} {l : Launch} {s : cS} {q : Int32} (h : f_X2_size s = q) : PM g l 1 M_X2_size [.ref 32] (tS s) (some (.int q)) (tS s) 0 0 := by
  refine PM.of (by decide +kernel) (Nat.le_of_ble_eq_true rfl) ?_
  show PW g l (pRoom 1 0 0) M_X2_size _ 0 [(0, .ref 32)] [] (tS s) 0 0
  unfold f_X2_size at h
  generalize hF : pE g (some (.int q)) (tS s) 0 0 = F
  have hx := hF.symm
  refine PW.aload_n 0 0 dX2_size_0 rfl rfl rfl ?_
  refine CW.geti dX2_size_1 fL_X2_33 LA_32 (Or.inl rfl) ?_
  cases h
  subst hx
  exact PW.iret (v := (iG s 32 4)) dX2_size_4 rfl rfl (Nat.le_refl 0) (Nat.le_refl 0)
/-! X2_has -/
def f_X2_has (a0 : Int32) (s : cS) : Int32 :=
  if a0 < 0 then
    (0 : Int32)
  else
    if (iG s 32 4) ≤ a0 then
      (0 : Int32)
    else
      (1 : Int32)
set_option maxRecDepth 20000 in
set_option maxHeartbeats 4000000 in
theorem p_X2_has {g : pG} {l : Launch} {a0 : Int32} {s : cS} {q : Int32} (h : f_X2_has a0 s = q) : PM g l 1 M_X2_has [.ref 32, .int a0] (tS s) (some (.int q)) (tS s) 0 0 := by
  refine PM.of (by decide +kernel) (Nat.le_of_ble_eq_true rfl) ?_
  show PW g l (pRoom 1 0 0) M_X2_has _ 0 [(0, .ref 32), (1, .int a0)] [] (tS s) 0 0
  unfold f_X2_has at h
  generalize hF : pE g (some (.int q)) (tS s) 0 0 = F
  have hx := hF.symm
  refine PW.iload_n 1 1 dX2_has_0 rfl rfl ?_
  refine PW.if_lt (tgt := 16) dX2_has_1 (by decide) (fun c1 => ?_) (fun c1 => ?_)
  · replace h := ifp h c1
    refine PW.iconst (v := 0) dX2_has_16 (by decide) ?_
    cases h
    subst hx
    exact PW.iret (v := (0 : Int32)) dX2_has_17 rfl (narZ (Or.inl rfl)) (Nat.le_refl 0) (Nat.le_refl 0)
  · replace h := ifn h c1
    refine PW.iload_n 1 1 dX2_has_4 rfl rfl ?_
    refine PW.aload_n 0 0 dX2_has_5 rfl rfl rfl ?_
    refine CW.geti dX2_has_6 fL_X2_33 LA_32 (Or.inl rfl) ?_
    refine PW.icmp_ge (tgt := 16) dX2_has_9 (by decide) (fun c2 => ?_) (fun c2 => ?_)
    · replace h := ifp h c2
      refine PW.iconst (v := 0) dX2_has_16 (by decide) ?_
      cases h
      subst hx
      exact PW.iret (v := (0 : Int32)) dX2_has_17 rfl (narZ (Or.inl rfl)) (Nat.le_refl 0) (Nat.le_refl 0)
    · replace h := ifn h c2
      refine PW.iconst (v := 1) dX2_has_12 (by decide) ?_
      refine PW.goto (tgt := 17) dX2_has_13 (by decide) ?_
      cases h
      subst hx
      exact PW.iret (v := (1 : Int32)) dX2_has_17 rfl (narZ (Or.inr rfl)) (Nat.le_refl 0) (Nat.le_refl 0)
theorem f_X2_has_bool {a0 : Int32} {s : cS} : f_X2_has a0 s = 0 ∨ f_X2_has a0 s = 1 := by
  unfold f_X2_has
  repeat' split
  all_goals first | exact Or.inl rfl | exact Or.inr rfl
/-! X2_strainOf -/
def f_X2_strainOf (a0 : Int32) (a1 : Int32) (s : cS) : Option (Option Nat × cS) :=
  if ((a0 * (8 : Int32)) + a1) < 0 then
    some ((none, s))
  else
    if (80 : Int32) ≤ ((a0 * (8 : Int32)) + a1) then
      some ((none, s))
    else
      if inb ((a0 * (8 : Int32)) + a1) 80 then
      some (((rG s 33 ((a0 * (8 : Int32)) + a1).toNatClampNeg), s))
      else none
set_option maxRecDepth 20000 in
set_option maxHeartbeats 4000000 in
theorem p_X2_strainOf {g : pG} {l : Launch} {a0 : Int32} {a1 : Int32} {s : cS} {q : Option Nat × cS} (h : f_X2_strainOf a0 a1 s = some q) : PM g l 1 M_X2_strainOf [.ref 32, .int a0, .int a1] (tS s) (some (va_rf q.1)) (tS q.2) 0 0 := by
  refine PM.of (by decide +kernel) (Nat.le_of_ble_eq_true rfl) ?_
  show PW g l (pRoom 1 0 0) M_X2_strainOf _ 0 [(0, .ref 32), (1, .int a0), (2, .int a1)] [] (tS s) 0 0
  unfold f_X2_strainOf at h
  generalize hF : pE g (some (va_rf q.1)) (tS q.2) 0 0 = F
  have hx := hF.symm
  refine PW.iload_n 1 1 dX2_strainOf_0 rfl rfl ?_
  refine PW.bipush (v := 8) dX2_strainOf_1 (by decide) ?_
  refine PW.imul dX2_strainOf_3 ?_
  refine PW.iload_n 2 2 dX2_strainOf_4 rfl rfl ?_
  refine PW.iadd dX2_strainOf_5 ?_
  refine PW.istore_n dX2_strainOf_6 rfl (Nat.le_of_ble_eq_true rfl) rfl ?_
  refine PW.iload_n 0 3 dX2_strainOf_7 rfl rfl ?_
  refine PW.if_lt (tgt := 29) dX2_strainOf_8 (by decide) (fun c1 => ?_) (fun c1 => ?_)
  · replace h := ifp h c1
    refine PW.aconst_null dX2_strainOf_29 ?_
    cases h
    subst hx
    exact PW.aret dX2_strainOf_30 rfl (Or.inl ⟨_, rfl⟩) rfl (Nat.le_refl 0) (Nat.le_refl 0)
  · replace h := ifn h c1
    refine PW.iload_n 0 3 dX2_strainOf_11 rfl rfl ?_
    refine PW.aload_n 1 0 dX2_strainOf_12 rfl rfl rfl ?_
    refine CW.getr dX2_strainOf_13 fL_X2_15 LA_32 (Or.inr ⟨_, rfl⟩) rfl ?_
    refine CW.alen (v := 80) dX2_strainOf_16 LA_33 (by decide) rfl ?_
    refine PW.icmp_ge (tgt := 29) dX2_strainOf_17 (by decide) (fun c2 => ?_) (fun c2 => ?_)
    · replace h := ifp h c2
      refine PW.aconst_null dX2_strainOf_29 ?_
      cases h
      subst hx
      exact PW.aret dX2_strainOf_30 rfl (Or.inl ⟨_, rfl⟩) rfl (Nat.le_refl 0) (Nat.le_refl 0)
    · replace h := ifn h c2
      refine PW.aload_n 1 0 dX2_strainOf_20 rfl rfl rfl ?_
      refine CW.getr dX2_strainOf_21 fL_X2_15 LA_32 (Or.inr ⟨_, rfl⟩) rfl ?_
      refine PW.iload_n 0 3 dX2_strainOf_24 rfl rfl ?_
      by_cases c3 : inb ((a0 * (8 : Int32)) + a1) 80
      rotate_left
      · have h := ifn h c3; cases h
      replace h := ifp h c3
      refine CW.aald4 dX2_strainOf_25 LA_33 c3 ?_
      refine PW.goto (tgt := 30) dX2_strainOf_26 (by decide) ?_
      cases h
      subst hx
      exact PW.aret dX2_strainOf_30 rfl (Or.inl ⟨_, rfl⟩) (isA_rf _) (Nat.le_refl 0) (Nat.le_refl 0)
/-! X2_add -/
def j_X2_add_47 (x1 : Int32) (x2 : Int32) (s : cS) : Option ((Int32 × cS) ⊕ (Int32 × cS)) :=
  some (.inl ((x2 + (1 : Int32)), s))
set_option maxRecDepth 20000 in
set_option maxHeartbeats 4000000 in
theorem ok_j_X2_add_47 {g : pG} {l : Launch} {F : pF} {x1 : Int32} {x2 : Int32} {s : cS} {x : ((Int32 × cS) ⊕ (Int32 × cS))} (h : j_X2_add_47 x1 x2 s = some x) (hx : (KL (fun (v : Int32 × cS) => PW g l (pRoom 4 0 0) M_X2_add F 2 [(0, .ref 32), (1, .int x1), (2, .int v.1)] [] (tS v.2) 0 0) (fun q => F = pE g (some (.int q.1)) (tS q.2) 0 0)) x) : PW g l (pRoom 4 0 0) M_X2_add F 47 [(0, .ref 32), (1, .int x1), (2, .int x2)] [] (tS s) 0 0 := by
  unfold j_X2_add_47 at h
  refine PW.iinc (v := (x2 + (1 : Int32))) 2 dX2_add_47 rfl (by first | rfl | decide) (Nat.le_of_ble_eq_true rfl) rfl ?_
  refine PW.goto (tgt := 2) dX2_add_50 (by decide) ?_
  cases h
  exact PW.pick [1, 2, 0] rfl hx
def b_X2_add_2 (x1 : Int32) (x2 : Int32) (s : cS) : Option ((Int32 × cS) ⊕ (Int32 × cS)) :=
  if (f_X1_size s) ≤ x2 then
    oR (
      sb (pA s 34 10 (iG s 32 4) (0 : Int32)) fun s4 =>
      sb (pA s4 35 10 (iG s4 32 4) (-1 : Int32)) fun s7 =>
      sb (iS s7 32 4 ((iG s7 32 4) + (1 : Int32))) fun s9 =>
      some ((((iG s9 32 4) - (1 : Int32)), s9)))
  else
    ob (f_X2_strainOf (iG s 32 4) x2 s) fun r10 s11 =>
    orf r10 (
      j_X2_add_47 x1 x2 s11) fun T14 =>
      if kd T14 8 then
      tb (f_X8_begin T14 x2 (f_X1_lifeOf x2 ((x1 >>> (((2 : Int32) * x2) &&& 31)) &&& (3 : Int32)) s11) s11) fun r17 s18 =>
      j_X2_add_47 x1 x2 s18
      else none
set_option maxRecDepth 20000 in
set_option maxHeartbeats 4000000 in
theorem ok_b_X2_add_2 {g : pG} {l : Launch} {F : pF} {x1 : Int32} {x2 : Int32} {s : cS} {x : ((Int32 × cS) ⊕ (Int32 × cS))} (h : b_X2_add_2 x1 x2 s = some x) (hx : (KL (fun (v : Int32 × cS) => PW g l (pRoom 4 0 0) M_X2_add F 2 [(0, .ref 32), (1, .int x1), (2, .int v.1)] [] (tS v.2) 0 0) (fun q => F = pE g (some (.int q.1)) (tS q.2) 0 0)) x) : PW g l (pRoom 4 0 0) M_X2_add F 2 [(0, .ref 32), (1, .int x1), (2, .int x2)] [] (tS s) 0 0 := by
  unfold b_X2_add_2 at h
  refine PW.iload_n 2 2 dX2_add_2 rfl rfl ?_
  refine PW.aload_n 0 0 dX2_add_3 rfl rfl rfl ?_
  refine CW.getr dX2_add_4 fL_X2_26 LA_32 (Or.inl ⟨_, rfl⟩) rfl ?_
  refine CW.callVi (ci := 1) (st := [.int x2]) [] dX2_add_7 (p_X1_size rfl) MV_X1_size mL_X2_37 (by decide) rfl LA_3 rfl rfl (Nat.le_of_ble_eq_true rfl) (by first | decide | omega) ?_
  refine PW.icmp_ge (tgt := 53) dX2_add_10 (by decide) (fun c2 => ?_) (fun c2 => ?_)
  · replace h := ifp h c2
    obtain ⟨xo, hy, hxo⟩ := oRb h
    clear h
    subst hxo
    replace hx := KLr hx
    have h := hy
    clear hy
    refine PW.aload_n 0 0 dX2_add_53 rfl rfl rfl ?_
    refine CW.getr dX2_add_54 fL_X2_19 LA_32 (Or.inr ⟨_, rfl⟩) rfl ?_
    refine PW.aload_n 0 0 dX2_add_57 rfl rfl rfl ?_
    refine CW.geti dX2_add_58 fL_X2_33 LA_32 (Or.inl rfl) ?_
    refine PW.iconst (v := 0) dX2_add_61 (by decide) ?_
    obtain ⟨s4, q5, h⟩ := sbnd h
    refine CW.callSNv (st := []) [.ref 34, .int (iG s 32 4), .int (0 : Int32)] dX2_add_62 (ps_put LA_34 q5) MS_X11_put mN_X2_52 rfl rfl (Nat.le_of_ble_eq_true rfl) (by first | decide | omega) ?_
    refine PW.aload_n 0 0 dX2_add_65 rfl rfl rfl ?_
    refine CW.getr dX2_add_66 fL_X2_23 LA_32 (Or.inr ⟨_, rfl⟩) rfl ?_
    refine PW.aload_n 0 0 dX2_add_69 rfl rfl rfl ?_
    refine CW.geti dX2_add_70 fL_X2_33 LA_32 (Or.inl rfl) ?_
    refine PW.iconst (v := (-1)) dX2_add_73 (by decide) ?_
    obtain ⟨s7, q8, h⟩ := sbnd h
    refine CW.callSNv (st := []) [.ref 35, .int (iG s4 32 4), .int (-1 : Int32)] dX2_add_74 (ps_put LA_35 q8) MS_X11_put mN_X2_52 rfl rfl (Nat.le_of_ble_eq_true rfl) (by first | decide | omega) ?_
    refine PW.aload_n 0 0 dX2_add_77 rfl rfl rfl ?_
    refine PW.dup dX2_add_78 rfl ?_
    refine CW.geti dX2_add_79 fL_X2_33 LA_32 (Or.inl rfl) ?_
    refine PW.iconst (v := 1) dX2_add_82 (by decide) ?_
    refine PW.iadd dX2_add_83 ?_
    refine CW.puti dX2_add_84 fL_X2_33 rfl LA_32 rfl ?_
    obtain ⟨s9, es9, h⟩ := sbnd h
    refine PW.sbe es9 ?_
    clear es9
    refine PW.aload_n 0 0 dX2_add_87 rfl rfl rfl ?_
    refine CW.geti dX2_add_88 fL_X2_33 LA_32 (Or.inl rfl) ?_
    refine PW.iconst (v := 1) dX2_add_91 (by decide) ?_
    refine PW.isub dX2_add_92 ?_
    cases h
    subst hx
    exact PW.iret (v := ((iG s9 32 4) - (1 : Int32))) dX2_add_93 rfl rfl (Nat.le_refl 0) (Nat.le_refl 0)
  · replace h := ifn h c2
    refine PW.aload_n 0 0 dX2_add_13 rfl rfl rfl ?_
    refine PW.aload_n 0 0 dX2_add_14 rfl rfl rfl ?_
    refine CW.geti dX2_add_15 fL_X2_33 LA_32 (Or.inl rfl) ?_
    refine PW.iload_n 2 2 dX2_add_18 rfl rfl ?_
    obtain ⟨r10, s11, q12, h⟩ := obnd h
    refine CW.callVr (ci := 2) (st := []) [.int (iG s 32 4), .int x2] dX2_add_19 (p_X2_strainOf q12) MV_X2_strainOf mL_X2_40 (by decide) rfl LA_32 rfl rfl (Nat.le_of_ble_eq_true rfl) (by first | decide | omega) ?_
    refine PW.astore_n dX2_add_22 rfl (Nat.le_of_ble_eq_true rfl) rfl (isA_rf _) ?_
    refine PW.aload_n 0 3 dX2_add_23 rfl rfl (isA_rf _) ?_
    rcases c13 : r10 with _ | T14
    · replace h := orfn h c13
      try rw [c13]
      show PW _ _ _ _ _ _ [(3, .null), (0, .ref 32), (1, .int x1), (2, .int x2)] (.null :: []) _ _ _
      refine PW.ifnull_null (tgt := 47) dX2_add_24 (by decide) ?_
      exact PW.pick [1, 2, 3] rfl (ok_j_X2_add_47 h hx)
    · replace h := orfs h c13
      try rw [c13]
      show PW _ _ _ _ _ _ [(3, .ref T14), (0, .ref 32), (1, .int x1), (2, .int x2)] (.ref T14 :: []) _ _ _
      refine PW.ifnull_ref dX2_add_24 ?_
      refine PW.aload_n 0 3 dX2_add_27 rfl rfl rfl ?_
      refine PW.iload_n 3 2 dX2_add_28 rfl rfl ?_
      refine PW.aload_n 1 0 dX2_add_29 rfl rfl rfl ?_
      refine CW.getr dX2_add_30 fL_X2_26 LA_32 (Or.inl ⟨_, rfl⟩) rfl ?_
      refine PW.iload_n 3 2 dX2_add_33 rfl rfl ?_
      refine PW.iload_n 2 1 dX2_add_34 rfl rfl ?_
      refine PW.iconst (v := 2) dX2_add_35 (by decide) ?_
      refine PW.iload_n 3 2 dX2_add_36 rfl rfl ?_
      refine PW.imul dX2_add_37 ?_
      refine PW.ishr dX2_add_38 ?_
      refine PW.iconst (v := 3) dX2_add_39 (by decide) ?_
      refine PW.iand dX2_add_40 ?_
      refine CW.callVi (ci := 1) (st := [.int x2, .ref T14]) [.int x2, .int ((x1 >>> (((2 : Int32) * x2) &&& 31)) &&& (3 : Int32))] dX2_add_41 (p_X1_lifeOf rfl) MV_X1_lifeOf mL_X2_44 (by decide) rfl LA_3 rfl rfl (Nat.le_of_ble_eq_true rfl) (by first | decide | omega) ?_
      by_cases c16 : kd T14 8
      rotate_left
      · have h := ifn h c16; cases h
      replace h := ifp h c16
      obtain ⟨r17, s18, q19, h⟩ := tbnd h
      refine CW.callVv (ci := 8) (st := []) [.int x2, .int (f_X1_lifeOf x2 ((x1 >>> (((2 : Int32) * x2) &&& 31)) &&& (3 : Int32)) s11)] dX2_add_44 (p_X8_begin c16 q19) MV_X8_begin mL_X2_48 (by decide) rfl c16 rfl rfl (Nat.le_of_ble_eq_true rfl) (by first | decide | omega) ?_
      exact PW.pick [1, 2, 3] rfl (ok_j_X2_add_47 h hx)
def w_X2_add_2 (N : Nat) (x1 : Int32) (x2 : Int32) (s : cS) : Option (Int32 × cS) := itr (fun (v : Int32 × cS) => b_X2_add_2 x1 v.1 v.2) N (x2, s)
theorem ok_w_X2_add_2 {g : pG} {l : Launch} {F : pF} {N : Nat} {x1 : Int32} {x2 : Int32} {s : cS} {x : (Int32 × cS)} (h : w_X2_add_2 N x1 x2 s = some x) (hx : (fun q => F = pE g (some (.int q.1)) (tS q.2) 0 0) x) : PW g l (pRoom 4 0 0) M_X2_add F 2 [(0, .ref 32), (1, .int x1), (2, .int x2)] [] (tS s) 0 0 :=
  okIter (P := (fun (v : Int32 × cS) => PW g l (pRoom 4 0 0) M_X2_add F 2 [(0, .ref 32), (1, .int x1), (2, .int v.1)] [] (tS v.2) 0 0)) (K := (fun q => F = pE g (some (.int q.1)) (tS q.2) 0 0)) (fun v y hB hy => ok_b_X2_add_2 hB hy) N (x2, s) x h hx
def f_X2_add (N : Nat) (a0 : Int32) (s : cS) : Option (Int32 × cS) :=
  w_X2_add_2 N a0 (0 : Int32) s
set_option maxRecDepth 20000 in
set_option maxHeartbeats 4000000 in
theorem p_X2_add {g : pG} {l : Launch} {N : Nat} {a0 : Int32} {s : cS} {q : Int32 × cS} (h : f_X2_add N a0 s = some q) : PM g l 4 M_X2_add [.ref 32, .int a0] (tS s) (some (.int q.1)) (tS q.2) 0 0 := by
  refine PM.of (by decide +kernel) (Nat.le_of_ble_eq_true rfl) ?_
  show PW g l (pRoom 4 0 0) M_X2_add _ 0 [(0, .ref 32), (1, .int a0)] [] (tS s) 0 0
  unfold f_X2_add at h
  generalize hF : pE g (some (.int q.1)) (tS q.2) 0 0 = F
  have hx := hF.symm
  refine PW.iconst (v := 0) dX2_add_0 (by decide) ?_
  refine PW.istore_n dX2_add_1 rfl (Nat.le_of_ble_eq_true rfl) rfl ?_
  exact PW.pick [1, 2, 0] rfl (ok_w_X2_add_2 h hx)
/-! X2_pulls -/
def f_X2_pulls (a0 : Int32) (s : cS) : Int32 :=
  (aA s 34 10 a0)
set_option maxRecDepth 20000 in
set_option maxHeartbeats 4000000 in
theorem p_X2_pulls {g : pG} {l : Launch} {a0 : Int32} {s : cS} {q : Int32} (h : f_X2_pulls a0 s = q) : PM g l 2 M_X2_pulls [.ref 32, .int a0] (tS s) (some (.int q)) (tS s) 0 0 := by
  refine PM.of (by decide +kernel) (Nat.le_of_ble_eq_true rfl) ?_
  show PW g l (pRoom 2 0 0) M_X2_pulls _ 0 [(0, .ref 32), (1, .int a0)] [] (tS s) 0 0
  unfold f_X2_pulls at h
  generalize hF : pE g (some (.int q)) (tS s) 0 0 = F
  have hx := hF.symm
  refine PW.aload_n 0 0 dX2_pulls_0 rfl rfl rfl ?_
  refine CW.getr dX2_pulls_1 fL_X2_19 LA_32 (Or.inr ⟨_, rfl⟩) rfl ?_
  refine PW.iload_n 1 1 dX2_pulls_4 rfl rfl ?_
  refine CW.callSNi (st := []) [.ref 34, .int a0] dX2_pulls_5 (ps_at LA_34 rfl) MS_X11_at mN_X2_56 rfl rfl (Nat.le_of_ble_eq_true rfl) (by first | decide | omega) ?_
  cases h
  subst hx
  exact PW.iret (v := (aA s 34 10 a0)) dX2_pulls_8 rfl rfl (Nat.le_refl 0) (Nat.le_refl 0)
/-! X2_lostBy -/
def f_X2_lostBy (a0 : Int32) (s : cS) : Int32 :=
  (aA s 35 10 a0)
set_option maxRecDepth 20000 in
set_option maxHeartbeats 4000000 in
theorem p_X2_lostBy {g : pG} {l : Launch} {a0 : Int32} {s : cS} {q : Int32} (h : f_X2_lostBy a0 s = q) : PM g l 2 M_X2_lostBy [.ref 32, .int a0] (tS s) (some (.int q)) (tS s) 0 0 := by
  refine PM.of (by decide +kernel) (Nat.le_of_ble_eq_true rfl) ?_
  show PW g l (pRoom 2 0 0) M_X2_lostBy _ 0 [(0, .ref 32), (1, .int a0)] [] (tS s) 0 0
  unfold f_X2_lostBy at h
  generalize hF : pE g (some (.int q)) (tS s) 0 0 = F
  have hx := hF.symm
  refine PW.aload_n 0 0 dX2_lostBy_0 rfl rfl rfl ?_
  refine CW.getr dX2_lostBy_1 fL_X2_23 LA_32 (Or.inr ⟨_, rfl⟩) rfl ?_
  refine PW.iload_n 1 1 dX2_lostBy_4 rfl rfl ?_
  refine CW.callSNi (st := []) [.ref 35, .int a0] dX2_lostBy_5 (ps_at LA_35 rfl) MS_X11_at mN_X2_56 rfl rfl (Nat.le_of_ble_eq_true rfl) (by first | decide | omega) ?_
  cases h
  subst hx
  exact PW.iret (v := (aA s 35 10 a0)) dX2_lostBy_8 rfl rfl (Nat.le_refl 0) (Nat.le_refl 0)
/-! X2_stateOf -/
def f_X2_stateOf (a0 : Int32) (a1 : Int32) (a2 : Int32) (s : cS) : Option (Int32 × cS) :=
  ob (f_X2_strainOf a0 a1 s) fun r1 s2 =>
  orf r1 (
    some (((-1 : Int32), s2))) fun T5 =>
    if a2 = 0 then
      if kd T5 8 then
      some (((f_X8_wear T5 s2), s2))
      else none
    else
      if a2 = (1 : Int32) then
        if kd T5 8 then
        some (((f_X8_crack T5 s2), s2))
        else none
      else
        if kd T5 8 then
        some (((f_X8_most T5 s2), s2))
        else none
set_option maxRecDepth 20000 in
set_option maxHeartbeats 4000000 in
theorem p_X2_stateOf {g : pG} {l : Launch} {a0 : Int32} {a1 : Int32} {a2 : Int32} {s : cS} {q : Int32 × cS} (h : f_X2_stateOf a0 a1 a2 s = some q) : PM g l 2 M_X2_stateOf [.ref 32, .int a0, .int a1, .int a2] (tS s) (some (.int q.1)) (tS q.2) 0 0 := by
  refine PM.of (by decide +kernel) (Nat.le_of_ble_eq_true rfl) ?_
  show PW g l (pRoom 2 0 0) M_X2_stateOf _ 0 [(0, .ref 32), (1, .int a0), (2, .int a1), (3, .int a2)] [] (tS s) 0 0
  unfold f_X2_stateOf at h
  generalize hF : pE g (some (.int q.1)) (tS q.2) 0 0 = F
  have hx := hF.symm
  refine PW.aload_n 0 0 dX2_stateOf_0 rfl rfl rfl ?_
  refine PW.iload_n 1 1 dX2_stateOf_1 rfl rfl ?_
  refine PW.iload_n 2 2 dX2_stateOf_2 rfl rfl ?_
  obtain ⟨r1, s2, q3, h⟩ := obnd h
  refine CW.callVr (ci := 2) (st := []) [.int a0, .int a1] dX2_stateOf_3 (p_X2_strainOf q3) MV_X2_strainOf mL_X2_40 (by decide) rfl LA_32 rfl rfl (Nat.le_of_ble_eq_true rfl) (by first | decide | omega) ?_
  refine PW.astore dX2_stateOf_6 (Nat.le_of_ble_eq_true rfl) rfl (isA_rf _) ?_
  refine PW.aload 0 dX2_stateOf_8 rfl (isA_rf _) ?_
  rcases c4 : r1 with _ | T5
  · replace h := orfn h c4
    try rw [c4]
    show PW _ _ _ _ _ _ [(4, .null), (0, .ref 32), (1, .int a0), (2, .int a1), (3, .int a2)] (.null :: []) _ _ _
    refine PW.ifnonnull_null dX2_stateOf_10 ?_
    refine PW.iconst (v := (-1)) dX2_stateOf_13 (by decide) ?_
    cases h
    subst hx
    exact PW.iret (v := (-1 : Int32)) dX2_stateOf_14 rfl rfl (Nat.le_refl 0) (Nat.le_refl 0)
  · replace h := orfs h c4
    try rw [c4]
    show PW _ _ _ _ _ _ [(4, .ref T5), (0, .ref 32), (1, .int a0), (2, .int a1), (3, .int a2)] (.ref T5 :: []) _ _ _
    refine PW.ifnonnull_ref (tgt := 15) dX2_stateOf_10 (by decide) ?_
    refine PW.iload_n 4 3 dX2_stateOf_15 rfl rfl ?_
    refine PW.if_ne (tgt := 27) dX2_stateOf_16 (by decide) (fun c6 => ?_) (fun c6 => ?_)
    · replace h := ifn h c6
      refine PW.iload_n 4 3 dX2_stateOf_27 rfl rfl ?_
      refine PW.iconst (v := 1) dX2_stateOf_28 (by decide) ?_
      refine PW.icmp_ne (tgt := 40) dX2_stateOf_29 (by decide) (fun c7 => ?_) (fun c7 => ?_)
      · replace h := ifn h c7
        refine PW.aload 0 dX2_stateOf_40 rfl rfl ?_
        by_cases c8 : kd T5 8
        rotate_left
        · have h := ifn h c8; cases h
        replace h := ifp h c8
        refine CW.callVi (ci := 8) (st := []) [] dX2_stateOf_42 (p_X8_most c8 rfl) MV_X8_most mL_X2_66 (by decide) rfl c8 rfl rfl (Nat.le_of_ble_eq_true rfl) (by first | decide | omega) ?_
        cases h
        subst hx
        exact PW.iret (v := (f_X8_most T5 s2)) dX2_stateOf_45 rfl rfl (Nat.le_refl 0) (Nat.le_refl 0)
      · replace h := ifp h c7
        refine PW.aload 0 dX2_stateOf_32 rfl rfl ?_
        by_cases c10 : kd T5 8
        rotate_left
        · have h := ifn h c10; cases h
        replace h := ifp h c10
        refine CW.callVi (ci := 8) (st := []) [] dX2_stateOf_34 (p_X8_crack c10 rfl) MV_X8_crack mL_X2_63 (by decide) rfl c10 rfl rfl (Nat.le_of_ble_eq_true rfl) (by first | decide | omega) ?_
        refine PW.goto (tgt := 45) dX2_stateOf_37 (by decide) ?_
        cases h
        subst hx
        exact PW.iret (v := (f_X8_crack T5 s2)) dX2_stateOf_45 rfl rfl (Nat.le_refl 0) (Nat.le_refl 0)
    · replace h := ifp h c6
      refine PW.aload 0 dX2_stateOf_19 rfl rfl ?_
      by_cases c12 : kd T5 8
      rotate_left
      · have h := ifn h c12; cases h
      replace h := ifp h c12
      refine CW.callVi (ci := 8) (st := []) [] dX2_stateOf_21 (p_X8_wear c12 rfl) MV_X8_wear mL_X2_60 (by decide) rfl c12 rfl rfl (Nat.le_of_ble_eq_true rfl) (by first | decide | omega) ?_
      refine PW.goto (tgt := 45) dX2_stateOf_24 (by decide) ?_
      cases h
      subst hx
      exact PW.iret (v := (f_X8_wear T5 s2)) dX2_stateOf_45 rfl rfl (Nat.le_refl 0) (Nat.le_refl 0)
/-! X2_pullAll -/
def j_X2_pullAll_57 (x1 : Int32) (x2 : Int32) (x3 : Int32) (x4 : Int32) (s : cS) : Option (((Int32 × Int32) × cS) ⊕ (Int32 × cS)) :=
  some (.inl ((x3, (x4 + (1 : Int32))), s))
set_option maxRecDepth 20000 in
set_option maxHeartbeats 4000000 in
theorem ok_j_X2_pullAll_57 {g : pG} {l : Launch} {F : pF} {x1 : Int32} {x2 : Int32} {x3 : Int32} {x4 : Int32} {s : cS} {x : (((Int32 × Int32) × cS) ⊕ (Int32 × cS))} (h : j_X2_pullAll_57 x1 x2 x3 x4 s = some x) (hx : (KL (fun (v : (Int32 × Int32) × cS) => PW g l (pRoom 6 0 0) M_X2_pullAll F 5 [(0, .ref 32), (1, .int x1), (2, .int x2), (3, .int v.1.1), (4, .int v.1.2)] [] (tS v.2) 0 0) (fun q => F = pE g (some (.int q.1)) (tS q.2) 0 0)) x) : PW g l (pRoom 6 0 0) M_X2_pullAll F 57 [(0, .ref 32), (1, .int x1), (2, .int x2), (3, .int x3), (4, .int x4)] [] (tS s) 0 0 := by
  unfold j_X2_pullAll_57 at h
  refine PW.iinc (v := (x4 + (1 : Int32))) 4 dX2_pullAll_57 rfl (by first | rfl | decide) (Nat.le_of_ble_eq_true rfl) rfl ?_
  refine PW.goto (tgt := 5) dX2_pullAll_60 (by decide) ?_
  cases h
  exact PW.pick [1, 2, 3, 4, 0] rfl hx
def j_X2_pullAll_56 (x1 : Int32) (x2 : Int32) (x4 : Int32) (y0 : Int32) (s : cS) : Option (((Int32 × Int32) × cS) ⊕ (Int32 × cS)) :=
  j_X2_pullAll_57 x1 x2 y0 x4 s
set_option maxRecDepth 20000 in
set_option maxHeartbeats 4000000 in
theorem ok_j_X2_pullAll_56 {g : pG} {l : Launch} {F : pF} {x1 : Int32} {x2 : Int32} {x4 : Int32} {y0 : Int32} {s : cS} {x : (((Int32 × Int32) × cS) ⊕ (Int32 × cS))} (h : j_X2_pullAll_56 x1 x2 x4 y0 s = some x) (hx : (KL (fun (v : (Int32 × Int32) × cS) => PW g l (pRoom 6 0 0) M_X2_pullAll F 5 [(0, .ref 32), (1, .int x1), (2, .int x2), (3, .int v.1.1), (4, .int v.1.2)] [] (tS v.2) 0 0) (fun q => F = pE g (some (.int q.1)) (tS q.2) 0 0)) x) : PW g l (pRoom 6 0 0) M_X2_pullAll F 56 [(0, .ref 32), (1, .int x1), (2, .int x2), (4, .int x4)] [.int y0] (tS s) 0 0 := by
  unfold j_X2_pullAll_56 at h
  refine PW.istore_n dX2_pullAll_56 rfl (Nat.le_of_ble_eq_true rfl) rfl ?_
  exact PW.pick [1, 2, 3, 0, 4] rfl (ok_j_X2_pullAll_57 h hx)
def j_X2_pullAll_55 (x1 : Int32) (x2 : Int32) (x3 : Int32) (x4 : Int32) (s : cS) : Option (((Int32 × Int32) × cS) ⊕ (Int32 × cS)) :=
  j_X2_pullAll_56 x1 x2 x4 x3 s
set_option maxRecDepth 20000 in
set_option maxHeartbeats 4000000 in
theorem ok_j_X2_pullAll_55 {g : pG} {l : Launch} {F : pF} {x1 : Int32} {x2 : Int32} {x3 : Int32} {x4 : Int32} {s : cS} {x : (((Int32 × Int32) × cS) ⊕ (Int32 × cS))} (h : j_X2_pullAll_55 x1 x2 x3 x4 s = some x) (hx : (KL (fun (v : (Int32 × Int32) × cS) => PW g l (pRoom 6 0 0) M_X2_pullAll F 5 [(0, .ref 32), (1, .int x1), (2, .int x2), (3, .int v.1.1), (4, .int v.1.2)] [] (tS v.2) 0 0) (fun q => F = pE g (some (.int q.1)) (tS q.2) 0 0)) x) : PW g l (pRoom 6 0 0) M_X2_pullAll F 55 [(0, .ref 32), (1, .int x1), (2, .int x2), (3, .int x3), (4, .int x4)] [] (tS s) 0 0 := by
  unfold j_X2_pullAll_55 at h
  refine PW.iload_n 3 3 dX2_pullAll_55 rfl rfl ?_
  exact PW.pick [0, 1, 2, 4] rfl (ok_j_X2_pullAll_56 h hx)
def b_X2_pullAll_5 (N : Nat) (x1 : Int32) (x2 : Int32) (x3 : Int32) (x4 : Int32) (s : cS) : Option (((Int32 × Int32) × cS) ⊕ (Int32 × cS)) :=
  if (f_X1_size s) ≤ x4 then
    oR (
      some ((x3, s)))
  else
    ob (f_X2_strainOf x1 x4 s) fun r3 s4 =>
    orf r3 (
      j_X2_pullAll_57 x1 x2 x3 x4 s4) fun T7 =>
      if kd T7 8 then
      ob (f_X8_pullBy N T7 x2 s4) fun r9 s10 =>
      if x3 = (-1 : Int32) then
        if (f_X8_ranBy T7 s10) ≤ 0 then
          j_X2_pullAll_55 x1 x2 x3 x4 s10
        else
          j_X2_pullAll_56 x1 x2 x4 x4 s10
      else
        j_X2_pullAll_55 x1 x2 x3 x4 s10
      else none
set_option maxRecDepth 20000 in
set_option maxHeartbeats 4000000 in
theorem ok_b_X2_pullAll_5 {g : pG} {l : Launch} {F : pF} {N : Nat} {x1 : Int32} {x2 : Int32} {x3 : Int32} {x4 : Int32} {s : cS} {x : (((Int32 × Int32) × cS) ⊕ (Int32 × cS))} (h : b_X2_pullAll_5 N x1 x2 x3 x4 s = some x) (hx : (KL (fun (v : (Int32 × Int32) × cS) => PW g l (pRoom 6 0 0) M_X2_pullAll F 5 [(0, .ref 32), (1, .int x1), (2, .int x2), (3, .int v.1.1), (4, .int v.1.2)] [] (tS v.2) 0 0) (fun q => F = pE g (some (.int q.1)) (tS q.2) 0 0)) x) : PW g l (pRoom 6 0 0) M_X2_pullAll F 5 [(0, .ref 32), (1, .int x1), (2, .int x2), (3, .int x3), (4, .int x4)] [] (tS s) 0 0 := by
  unfold b_X2_pullAll_5 at h
  refine PW.iload 4 dX2_pullAll_5 rfl ?_
  refine PW.aload_n 0 0 dX2_pullAll_7 rfl rfl rfl ?_
  refine CW.getr dX2_pullAll_8 fL_X2_26 LA_32 (Or.inl ⟨_, rfl⟩) rfl ?_
  refine CW.callVi (ci := 1) (st := [.int x4]) [] dX2_pullAll_11 (p_X1_size rfl) MV_X1_size mL_X2_37 (by decide) rfl LA_3 rfl rfl (Nat.le_of_ble_eq_true rfl) (by first | decide | omega) ?_
  refine PW.icmp_ge (tgt := 63) dX2_pullAll_14 (by decide) (fun c2 => ?_) (fun c2 => ?_)
  · replace h := ifp h c2
    obtain ⟨xo, hy, hxo⟩ := oRb h
    clear h
    subst hxo
    replace hx := KLr hx
    have h := hy
    clear hy
    refine PW.iload_n 3 3 dX2_pullAll_63 rfl rfl ?_
    cases h
    subst hx
    exact PW.iret (v := x3) dX2_pullAll_64 rfl rfl (Nat.le_refl 0) (Nat.le_refl 0)
  · replace h := ifn h c2
    refine PW.aload_n 0 0 dX2_pullAll_17 rfl rfl rfl ?_
    refine PW.iload_n 1 1 dX2_pullAll_18 rfl rfl ?_
    refine PW.iload 4 dX2_pullAll_19 rfl ?_
    obtain ⟨r3, s4, q5, h⟩ := obnd h
    refine CW.callVr (ci := 2) (st := []) [.int x1, .int x4] dX2_pullAll_21 (p_X2_strainOf q5) MV_X2_strainOf mL_X2_40 (by decide) rfl LA_32 rfl rfl (Nat.le_of_ble_eq_true rfl) (by first | decide | omega) ?_
    refine PW.astore dX2_pullAll_24 (Nat.le_of_ble_eq_true rfl) rfl (isA_rf _) ?_
    refine PW.aload 0 dX2_pullAll_26 rfl (isA_rf _) ?_
    rcases c6 : r3 with _ | T7
    · replace h := orfn h c6
      try rw [c6]
      show PW _ _ _ _ _ _ [(5, .null), (0, .ref 32), (1, .int x1), (2, .int x2), (3, .int x3), (4, .int x4)] (.null :: []) _ _ _
      refine PW.ifnull_null (tgt := 57) dX2_pullAll_28 (by decide) ?_
      exact PW.pick [1, 2, 3, 4, 5] rfl (ok_j_X2_pullAll_57 h hx)
    · replace h := orfs h c6
      try rw [c6]
      show PW _ _ _ _ _ _ [(5, .ref T7), (0, .ref 32), (1, .int x1), (2, .int x2), (3, .int x3), (4, .int x4)] (.ref T7 :: []) _ _ _
      refine PW.ifnull_ref dX2_pullAll_28 ?_
      refine PW.aload 0 dX2_pullAll_31 rfl rfl ?_
      refine PW.iload_n 3 2 dX2_pullAll_33 rfl rfl ?_
      by_cases c8 : kd T7 8
      rotate_left
      · have h := ifn h c8; cases h
      replace h := ifp h c8
      obtain ⟨r9, s10, q11, h⟩ := obnd h
      refine CW.callVv (ci := 8) (st := []) [.int x2] dX2_pullAll_34 (p_X8_pullBy c8 q11) MV_X8_pullBy mL_X2_80 (by decide) rfl c8 rfl rfl (Nat.le_of_ble_eq_true rfl) (by first | decide | omega) ?_
      refine PW.iload_n 4 3 dX2_pullAll_37 rfl rfl ?_
      refine PW.iconst (v := (-1)) dX2_pullAll_38 (by decide) ?_
      refine PW.icmp_ne (tgt := 55) dX2_pullAll_39 (by decide) (fun c12 => ?_) (fun c12 => ?_)
      · replace h := ifn h c12
        exact PW.pick [1, 2, 3, 4, 5] rfl (ok_j_X2_pullAll_55 h hx)
      · replace h := ifp h c12
        refine PW.aload 0 dX2_pullAll_42 rfl rfl ?_
        refine CW.callVi (ci := 8) (st := []) [] dX2_pullAll_44 (p_X8_ranBy c8 rfl) MV_X8_ranBy mL_X2_84 (by decide) rfl c8 rfl rfl (Nat.le_of_ble_eq_true rfl) (by first | decide | omega) ?_
        refine PW.if_le (tgt := 55) dX2_pullAll_47 (by decide) (fun c14 => ?_) (fun c14 => ?_)
        · replace h := ifp h c14
          exact PW.pick [1, 2, 3, 4, 5] rfl (ok_j_X2_pullAll_55 h hx)
        · replace h := ifn h c14
          refine PW.iload 5 dX2_pullAll_50 rfl ?_
          refine PW.goto (tgt := 56) dX2_pullAll_52 (by decide) ?_
          exact PW.pick [1, 2, 3, 5] rfl (ok_j_X2_pullAll_56 h hx)
def w_X2_pullAll_5 (N : Nat) (x1 : Int32) (x2 : Int32) (x3 : Int32) (x4 : Int32) (s : cS) : Option (Int32 × cS) := itr (fun (v : (Int32 × Int32) × cS) => b_X2_pullAll_5 N x1 x2 v.1.1 v.1.2 v.2) N ((x3, x4), s)
theorem ok_w_X2_pullAll_5 {g : pG} {l : Launch} {F : pF} {N : Nat} {x1 : Int32} {x2 : Int32} {x3 : Int32} {x4 : Int32} {s : cS} {x : (Int32 × cS)} (h : w_X2_pullAll_5 N x1 x2 x3 x4 s = some x) (hx : (fun q => F = pE g (some (.int q.1)) (tS q.2) 0 0) x) : PW g l (pRoom 6 0 0) M_X2_pullAll F 5 [(0, .ref 32), (1, .int x1), (2, .int x2), (3, .int x3), (4, .int x4)] [] (tS s) 0 0 :=
  okIter (P := (fun (v : (Int32 × Int32) × cS) => PW g l (pRoom 6 0 0) M_X2_pullAll F 5 [(0, .ref 32), (1, .int x1), (2, .int x2), (3, .int v.1.1), (4, .int v.1.2)] [] (tS v.2) 0 0)) (K := (fun q => F = pE g (some (.int q.1)) (tS q.2) 0 0)) (fun v y hB hy => ok_b_X2_pullAll_5 hB hy) N ((x3, x4), s) x h hx
def f_X2_pullAll (N : Nat) (a0 : Int32) (a1 : Int32) (s : cS) : Option (Int32 × cS) :=
  w_X2_pullAll_5 N a0 a1 (-1 : Int32) (0 : Int32) s
set_option maxRecDepth 20000 in
set_option maxHeartbeats 4000000 in
theorem p_X2_pullAll {g : pG} {l : Launch} {N : Nat} {a0 : Int32} {a1 : Int32} {s : cS} {q : Int32 × cS} (h : f_X2_pullAll N a0 a1 s = some q) : PM g l 6 M_X2_pullAll [.ref 32, .int a0, .int a1] (tS s) (some (.int q.1)) (tS q.2) 0 0 := by
  refine PM.of (by decide +kernel) (Nat.le_of_ble_eq_true rfl) ?_
  show PW g l (pRoom 6 0 0) M_X2_pullAll _ 0 [(0, .ref 32), (1, .int a0), (2, .int a1)] [] (tS s) 0 0
  unfold f_X2_pullAll at h
  generalize hF : pE g (some (.int q.1)) (tS q.2) 0 0 = F
  have hx := hF.symm
  refine PW.iconst (v := (-1)) dX2_pullAll_0 (by decide) ?_
  refine PW.istore_n dX2_pullAll_1 rfl (Nat.le_of_ble_eq_true rfl) rfl ?_
  refine PW.iconst (v := 0) dX2_pullAll_2 (by decide) ?_
  refine PW.istore dX2_pullAll_3 (Nat.le_of_ble_eq_true rfl) rfl ?_
  exact PW.pick [2, 3, 4, 1, 0] rfl (ok_w_X2_pullAll_5 h hx)
/-! X2_goOn -/
def j_X2_goOn_84 (x1 : Int32) (x4 : Int32) (s : cS) : Option (Int32 × cS) :=
  sb (pA s 34 10 x1 ((f_X2_pulls x1 s) + x4)) fun s6 =>
  some ((x4, s6))
set_option maxRecDepth 20000 in
set_option maxHeartbeats 4000000 in
theorem ok_j_X2_goOn_84 {g : pG} {l : Launch} {F : pF} {x1 : Int32} {x4 : Int32} {s : cS} {x : (Int32 × cS)} (h : j_X2_goOn_84 x1 x4 s = some x) (hx : (fun q => F = pE g (some (.int q.1)) (tS q.2) 0 0) x) : PW g l (pRoom 7 0 0) M_X2_goOn F 84 [(0, .ref 32), (1, .int x1), (4, .int x4)] [] (tS s) 0 0 := by
  unfold j_X2_goOn_84 at h
  refine PW.aload_n 0 0 dX2_goOn_84 rfl rfl rfl ?_
  refine CW.getr dX2_goOn_85 fL_X2_19 LA_32 (Or.inr ⟨_, rfl⟩) rfl ?_
  refine PW.iload_n 1 1 dX2_goOn_88 rfl rfl ?_
  refine PW.aload_n 0 0 dX2_goOn_89 rfl rfl rfl ?_
  refine PW.iload_n 1 1 dX2_goOn_90 rfl rfl ?_
  refine CW.callVi (ci := 2) (st := [.int x1, .ref 34]) [.int x1] dX2_goOn_91 (p_X2_pulls rfl) MV_X2_pulls mL_X2_78 (by decide) rfl LA_32 rfl rfl (Nat.le_of_ble_eq_true rfl) (by first | decide | omega) ?_
  refine PW.iload 2 dX2_goOn_94 rfl ?_
  refine PW.iadd dX2_goOn_96 ?_
  obtain ⟨s6, q7, h⟩ := sbnd h
  refine CW.callSNv (st := []) [.ref 34, .int x1, .int ((f_X2_pulls x1 s) + x4)] dX2_goOn_97 (ps_put LA_34 q7) MS_X11_put mN_X2_52 rfl rfl (Nat.le_of_ble_eq_true rfl) (by first | decide | omega) ?_
  refine PW.iload 2 dX2_goOn_100 rfl ?_
  cases h
  subst hx
  exact PW.iret (v := x4) dX2_goOn_102 rfl rfl (Nat.le_refl 0) (Nat.le_refl 0)
def b_X2_goOn_46 (N : Nat) (x1 : Int32) (x2 : Int32) (x3 : Int32) (x4 : Int32) (x5 : Int32) (s : cS) : Option (((Int32 × Int32) × cS) ⊕ (Int32 × cS)) :=
  if x3 ≤ x5 then
    oR (
      j_X2_goOn_84 x1 x4 s)
  else
    if (f_X2_lostBy x1 s) = (-1 : Int32) then
      ob (f_X2_pullAll N x1 x2 s) fun r10 s11 =>
      sb (pA s11 35 10 x1 r10) fun s14 =>
      some (.inl (((x4 + (1 : Int32)), (x5 + (1 : Int32))), s14))
    else
      oR (
        j_X2_goOn_84 x1 x4 s)
set_option maxRecDepth 20000 in
set_option maxHeartbeats 4000000 in
theorem ok_b_X2_goOn_46 {g : pG} {l : Launch} {F : pF} {N : Nat} {x1 : Int32} {x2 : Int32} {x3 : Int32} {x4 : Int32} {x5 : Int32} {s : cS} {x : (((Int32 × Int32) × cS) ⊕ (Int32 × cS))} (h : b_X2_goOn_46 N x1 x2 x3 x4 x5 s = some x) (hx : (KL (fun (v : (Int32 × Int32) × cS) => PW g l (pRoom 7 0 0) M_X2_goOn F 46 [(0, .ref 32), (1, .int x1), (2, .int x2), (3, .int x3), (4, .int v.1.1), (5, .int v.1.2)] [] (tS v.2) 0 0) (fun q => F = pE g (some (.int q.1)) (tS q.2) 0 0)) x) : PW g l (pRoom 7 0 0) M_X2_goOn F 46 [(0, .ref 32), (1, .int x1), (2, .int x2), (3, .int x3), (4, .int x4), (5, .int x5)] [] (tS s) 0 0 := by
  unfold b_X2_goOn_46 at h
  refine PW.iload 5 dX2_goOn_46 rfl ?_
  refine PW.iload_n 3 3 dX2_goOn_48 rfl rfl ?_
  refine PW.icmp_ge (tgt := 84) dX2_goOn_49 (by decide) (fun c3 => ?_) (fun c3 => ?_)
  · replace h := ifp h c3
    obtain ⟨xo, hy, hxo⟩ := oRb h
    clear h
    subst hxo
    replace hx := KLr hx
    have h := hy
    clear hy
    exact PW.pick [0, 1, 4] rfl (ok_j_X2_goOn_84 h hx)
  · replace h := ifn h c3
    refine PW.aload_n 0 0 dX2_goOn_52 rfl rfl rfl ?_
    refine PW.iload_n 1 1 dX2_goOn_53 rfl rfl ?_
    refine CW.callVi (ci := 2) (st := []) [.int x1] dX2_goOn_54 (p_X2_lostBy rfl) MV_X2_lostBy mL_X2_72 (by decide) rfl LA_32 rfl rfl (Nat.le_of_ble_eq_true rfl) (by first | decide | omega) ?_
    refine PW.iconst (v := (-1)) dX2_goOn_57 (by decide) ?_
    refine PW.icmp_ne (tgt := 84) dX2_goOn_58 (by decide) (fun c9 => ?_) (fun c9 => ?_)
    · replace h := ifn h c9
      obtain ⟨xo, hy, hxo⟩ := oRb h
      clear h
      subst hxo
      replace hx := KLr hx
      have h := hy
      clear hy
      exact PW.pick [0, 1, 4] rfl (ok_j_X2_goOn_84 h hx)
    · replace h := ifp h c9
      refine PW.aload_n 0 0 dX2_goOn_61 rfl rfl rfl ?_
      refine CW.getr dX2_goOn_62 fL_X2_23 LA_32 (Or.inr ⟨_, rfl⟩) rfl ?_
      refine PW.iload_n 1 1 dX2_goOn_65 rfl rfl ?_
      refine PW.aload_n 0 0 dX2_goOn_66 rfl rfl rfl ?_
      refine PW.iload_n 1 1 dX2_goOn_67 rfl rfl ?_
      refine PW.iload_n 2 2 dX2_goOn_68 rfl rfl ?_
      obtain ⟨r10, s11, q12, h⟩ := obnd h
      refine CW.callVi (ci := 2) (st := [.int x1, .ref 35]) [.int x1, .int x2] dX2_goOn_69 (p_X2_pullAll q12) MV_X2_pullAll mL_X2_75 (by decide) rfl LA_32 rfl rfl (Nat.le_of_ble_eq_true rfl) (by first | decide | omega) ?_
      obtain ⟨s14, q15, h⟩ := sbnd h
      refine CW.callSNv (st := []) [.ref 35, .int x1, .int r10] dX2_goOn_72 (ps_put LA_35 q15) MS_X11_put mN_X2_52 rfl rfl (Nat.le_of_ble_eq_true rfl) (by first | decide | omega) ?_
      refine PW.iinc (v := (x4 + (1 : Int32))) 4 dX2_goOn_75 rfl (by first | rfl | decide) (Nat.le_of_ble_eq_true rfl) rfl ?_
      refine PW.iinc (v := (x5 + (1 : Int32))) 5 dX2_goOn_78 rfl (by first | rfl | decide) (Nat.le_of_ble_eq_true rfl) rfl ?_
      refine PW.goto (tgt := 46) dX2_goOn_81 (by decide) ?_
      cases h
      exact PW.pick [2, 3, 4, 5, 1, 0] rfl hx
def w_X2_goOn_46 (N : Nat) (x1 : Int32) (x2 : Int32) (x3 : Int32) (x4 : Int32) (x5 : Int32) (s : cS) : Option (Int32 × cS) := itr (fun (v : (Int32 × Int32) × cS) => b_X2_goOn_46 N x1 x2 x3 v.1.1 v.1.2 v.2) N ((x4, x5), s)
theorem ok_w_X2_goOn_46 {g : pG} {l : Launch} {F : pF} {N : Nat} {x1 : Int32} {x2 : Int32} {x3 : Int32} {x4 : Int32} {x5 : Int32} {s : cS} {x : (Int32 × cS)} (h : w_X2_goOn_46 N x1 x2 x3 x4 x5 s = some x) (hx : (fun q => F = pE g (some (.int q.1)) (tS q.2) 0 0) x) : PW g l (pRoom 7 0 0) M_X2_goOn F 46 [(0, .ref 32), (1, .int x1), (2, .int x2), (3, .int x3), (4, .int x4), (5, .int x5)] [] (tS s) 0 0 :=
  okIter (P := (fun (v : (Int32 × Int32) × cS) => PW g l (pRoom 7 0 0) M_X2_goOn F 46 [(0, .ref 32), (1, .int x1), (2, .int x2), (3, .int x3), (4, .int v.1.1), (5, .int v.1.2)] [] (tS v.2) 0 0)) (K := (fun q => F = pE g (some (.int q.1)) (tS q.2) 0 0)) (fun v y hB hy => ok_b_X2_goOn_46 hB hy) N ((x4, x5), s) x h hx
def j_X2_goOn_34 (x1 : Int32) (x2 : Int32) (x3 : Int32) (x4 : Int32) (s : cS) : Option ((Int32 × cS) ⊕ (Int32 × cS)) :=
  some (.inl ((x4 + (1 : Int32)), s))
set_option maxRecDepth 20000 in
set_option maxHeartbeats 4000000 in
theorem ok_j_X2_goOn_34 {g : pG} {l : Launch} {F : pF} {x1 : Int32} {x2 : Int32} {x3 : Int32} {x4 : Int32} {s : cS} {x : ((Int32 × cS) ⊕ (Int32 × cS))} (h : j_X2_goOn_34 x1 x2 x3 x4 s = some x) (hx : (KL (fun (v : Int32 × cS) => PW g l (pRoom 7 0 0) M_X2_goOn F 3 [(0, .ref 32), (1, .int x1), (2, .int x2), (3, .int x3), (4, .int v.1)] [] (tS v.2) 0 0) (fun q => F = pE g (some (.int q.1)) (tS q.2) 0 0)) x) : PW g l (pRoom 7 0 0) M_X2_goOn F 34 [(0, .ref 32), (1, .int x1), (2, .int x2), (3, .int x3), (4, .int x4)] [] (tS s) 0 0 := by
  unfold j_X2_goOn_34 at h
  refine PW.iinc (v := (x4 + (1 : Int32))) 4 dX2_goOn_34 rfl (by first | rfl | decide) (Nat.le_of_ble_eq_true rfl) rfl ?_
  refine PW.goto (tgt := 3) dX2_goOn_37 (by decide) ?_
  cases h
  exact PW.pick [1, 2, 3, 4, 0] rfl hx
def b_X2_goOn_3 (N : Nat) (x1 : Int32) (x2 : Int32) (x3 : Int32) (x4 : Int32) (s : cS) : Option ((Int32 × cS) ⊕ (Int32 × cS)) :=
  if (f_X1_size s) ≤ x4 then
    oR (
      w_X2_goOn_46 N x1 x2 x3 (0 : Int32) (0 : Int32) s)
  else
    ob (f_X2_strainOf x1 x4 s) fun r16 s17 =>
    orf r16 (
      j_X2_goOn_34 x1 x2 x3 x4 s17) fun T20 =>
      if kd T20 8 then
      tb (f_X8_forget T20 s17) fun r22 s23 =>
      j_X2_goOn_34 x1 x2 x3 x4 s23
      else none
set_option maxRecDepth 20000 in
set_option maxHeartbeats 4000000 in
theorem ok_b_X2_goOn_3 {g : pG} {l : Launch} {F : pF} {N : Nat} {x1 : Int32} {x2 : Int32} {x3 : Int32} {x4 : Int32} {s : cS} {x : ((Int32 × cS) ⊕ (Int32 × cS))} (h : b_X2_goOn_3 N x1 x2 x3 x4 s = some x) (hx : (KL (fun (v : Int32 × cS) => PW g l (pRoom 7 0 0) M_X2_goOn F 3 [(0, .ref 32), (1, .int x1), (2, .int x2), (3, .int x3), (4, .int v.1)] [] (tS v.2) 0 0) (fun q => F = pE g (some (.int q.1)) (tS q.2) 0 0)) x) : PW g l (pRoom 7 0 0) M_X2_goOn F 3 [(0, .ref 32), (1, .int x1), (2, .int x2), (3, .int x3), (4, .int x4)] [] (tS s) 0 0 := by
  unfold b_X2_goOn_3 at h
  refine PW.iload 4 dX2_goOn_3 rfl ?_
  refine PW.aload_n 0 0 dX2_goOn_5 rfl rfl rfl ?_
  refine CW.getr dX2_goOn_6 fL_X2_26 LA_32 (Or.inl ⟨_, rfl⟩) rfl ?_
  refine CW.callVi (ci := 1) (st := [.int x4]) [] dX2_goOn_9 (p_X1_size rfl) MV_X1_size mL_X2_37 (by decide) rfl LA_3 rfl rfl (Nat.le_of_ble_eq_true rfl) (by first | decide | omega) ?_
  refine PW.icmp_ge (tgt := 40) dX2_goOn_12 (by decide) (fun c2 => ?_) (fun c2 => ?_)
  · replace h := ifp h c2
    obtain ⟨xo, hy, hxo⟩ := oRb h
    clear h
    subst hxo
    replace hx := KLr hx
    have h := hy
    clear hy
    refine PW.iconst (v := 0) dX2_goOn_40 (by decide) ?_
    refine PW.istore dX2_goOn_41 (Nat.le_of_ble_eq_true rfl) rfl ?_
    refine PW.iconst (v := 0) dX2_goOn_43 (by decide) ?_
    refine PW.istore dX2_goOn_44 (Nat.le_of_ble_eq_true rfl) rfl ?_
    exact PW.pick [2, 3, 4, 5, 1, 0] rfl (ok_w_X2_goOn_46 h hx)
  · replace h := ifn h c2
    refine PW.aload_n 0 0 dX2_goOn_15 rfl rfl rfl ?_
    refine PW.iload_n 1 1 dX2_goOn_16 rfl rfl ?_
    refine PW.iload 4 dX2_goOn_17 rfl ?_
    obtain ⟨r16, s17, q18, h⟩ := obnd h
    refine CW.callVr (ci := 2) (st := []) [.int x1, .int x4] dX2_goOn_19 (p_X2_strainOf q18) MV_X2_strainOf mL_X2_40 (by decide) rfl LA_32 rfl rfl (Nat.le_of_ble_eq_true rfl) (by first | decide | omega) ?_
    refine PW.astore dX2_goOn_22 (Nat.le_of_ble_eq_true rfl) rfl (isA_rf _) ?_
    refine PW.aload 0 dX2_goOn_24 rfl (isA_rf _) ?_
    rcases c19 : r16 with _ | T20
    · replace h := orfn h c19
      try rw [c19]
      show PW _ _ _ _ _ _ [(5, .null), (0, .ref 32), (1, .int x1), (2, .int x2), (3, .int x3), (4, .int x4)] (.null :: []) _ _ _
      refine PW.ifnull_null (tgt := 34) dX2_goOn_26 (by decide) ?_
      exact PW.pick [1, 2, 3, 4, 5] rfl (ok_j_X2_goOn_34 h hx)
    · replace h := orfs h c19
      try rw [c19]
      show PW _ _ _ _ _ _ [(5, .ref T20), (0, .ref 32), (1, .int x1), (2, .int x2), (3, .int x3), (4, .int x4)] (.ref T20 :: []) _ _ _
      refine PW.ifnull_ref dX2_goOn_26 ?_
      refine PW.aload 0 dX2_goOn_29 rfl rfl ?_
      by_cases c21 : kd T20 8
      rotate_left
      · have h := ifn h c21; cases h
      replace h := ifp h c21
      obtain ⟨r22, s23, q24, h⟩ := tbnd h
      refine CW.callVv (ci := 8) (st := []) [] dX2_goOn_31 (p_X8_forget c21 q24) MV_X8_forget mL_X2_69 (by decide) rfl c21 rfl rfl (Nat.le_of_ble_eq_true rfl) (by first | decide | omega) ?_
      exact PW.pick [1, 2, 3, 4, 5] rfl (ok_j_X2_goOn_34 h hx)
def w_X2_goOn_3 (N : Nat) (x1 : Int32) (x2 : Int32) (x3 : Int32) (x4 : Int32) (s : cS) : Option (Int32 × cS) := itr (fun (v : Int32 × cS) => b_X2_goOn_3 N x1 x2 x3 v.1 v.2) N (x4, s)
theorem ok_w_X2_goOn_3 {g : pG} {l : Launch} {F : pF} {N : Nat} {x1 : Int32} {x2 : Int32} {x3 : Int32} {x4 : Int32} {s : cS} {x : (Int32 × cS)} (h : w_X2_goOn_3 N x1 x2 x3 x4 s = some x) (hx : (fun q => F = pE g (some (.int q.1)) (tS q.2) 0 0) x) : PW g l (pRoom 7 0 0) M_X2_goOn F 3 [(0, .ref 32), (1, .int x1), (2, .int x2), (3, .int x3), (4, .int x4)] [] (tS s) 0 0 :=
  okIter (P := (fun (v : Int32 × cS) => PW g l (pRoom 7 0 0) M_X2_goOn F 3 [(0, .ref 32), (1, .int x1), (2, .int x2), (3, .int x3), (4, .int v.1)] [] (tS v.2) 0 0)) (K := (fun q => F = pE g (some (.int q.1)) (tS q.2) 0 0)) (fun v y hB hy => ok_b_X2_goOn_3 hB hy) N (x4, s) x h hx
def f_X2_goOn (N : Nat) (a0 : Int32) (a1 : Int32) (a2 : Int32) (s : cS) : Option (Int32 × cS) :=
  w_X2_goOn_3 N a0 a1 a2 (0 : Int32) s
set_option maxRecDepth 20000 in
set_option maxHeartbeats 4000000 in
theorem p_X2_goOn {g : pG} {l : Launch} {N : Nat} {a0 : Int32} {a1 : Int32} {a2 : Int32} {s : cS} {q : Int32 × cS} (h : f_X2_goOn N a0 a1 a2 s = some q) : PM g l 7 M_X2_goOn [.ref 32, .int a0, .int a1, .int a2] (tS s) (some (.int q.1)) (tS q.2) 0 0 := by
  refine PM.of (by decide +kernel) (Nat.le_of_ble_eq_true rfl) ?_
  show PW g l (pRoom 7 0 0) M_X2_goOn _ 0 [(0, .ref 32), (1, .int a0), (2, .int a1), (3, .int a2)] [] (tS s) 0 0
  unfold f_X2_goOn at h
  generalize hF : pE g (some (.int q.1)) (tS q.2) 0 0 = F
  have hx := hF.symm
  refine PW.iconst (v := 0) dX2_goOn_0 (by decide) ?_
  refine PW.istore dX2_goOn_1 (Nat.le_of_ble_eq_true rfl) rfl ?_
  exact PW.pick [1, 2, 3, 4, 0] rfl (ok_w_X2_goOn_3 h hx)
/-! X2_firstWrong -/
def b_X2_firstWrong_3 (N : Nat) (x1 : Int32) (x2 : Int32) (x4 : Int32) (s : cS) : Option ((Int32 × cS) ⊕ (Int32 × cS)) :=
  if x2 ≤ x4 then
    oR (
      if (f_X1_size s) ≤ x2 then
        some (((-1 : Int32), s))
      else
        some ((((3 : Int32) * x2), s)))
  else
    if (f_X1_size s) ≤ x4 then
      oR (
        some ((((3 : Int32) * x4), s)))
    else
      ob (f_X9_word N ((3 : Int32) * x4) s) fun r6 s7 =>
      if r6 = x4 then
        ob (f_X9_word N (((3 : Int32) * x4) + (1 : Int32)) s7) fun r10 s11 =>
        ob (f_X2_stateOf x1 x4 (0 : Int32) s11) fun r13 s14 =>
        if r10 = r13 then
          ob (f_X9_word N (((3 : Int32) * x4) + (2 : Int32)) s14) fun r17 s18 =>
          ob (f_X2_stateOf x1 x4 (1 : Int32) s18) fun r20 s21 =>
          if r17 = r20 then
            some (.inl ((x4 + (1 : Int32)), s21))
          else
            oR (
              some (((((3 : Int32) * x4) + (2 : Int32)), s21)))
        else
          oR (
            some (((((3 : Int32) * x4) + (1 : Int32)), s14)))
      else
        oR (
          some ((((3 : Int32) * x4), s7)))
set_option maxRecDepth 20000 in
set_option maxHeartbeats 4000000 in
theorem ok_b_X2_firstWrong_3 {g : pG} {l : Launch} {F : pF} {N : Nat} {x1 : Int32} {x2 : Int32} {x4 : Int32} {s : cS} {x : ((Int32 × cS) ⊕ (Int32 × cS))} (h : b_X2_firstWrong_3 N x1 x2 x4 s = some x) (hx : (KL (fun (v : Int32 × cS) => PW g l (pRoom 3 0 0) M_X2_firstWrong F 3 [(0, .ref 32), (1, .int x1), (2, .int x2), (3, .ref 1), (4, .int v.1)] [] (tS v.2) 0 0) (fun q => F = pE g (some (.int q.1)) (tS q.2) 0 0)) x) : PW g l (pRoom 3 0 0) M_X2_firstWrong F 3 [(0, .ref 32), (1, .int x1), (2, .int x2), (3, .ref 1), (4, .int x4)] [] (tS s) 0 0 := by
  unfold b_X2_firstWrong_3 at h
  refine PW.iload 4 dX2_firstWrong_3 rfl ?_
  refine PW.iload_n 2 2 dX2_firstWrong_5 rfl rfl ?_
  refine PW.icmp_ge (tgt := 101) dX2_firstWrong_6 (by decide) (fun c1 => ?_) (fun c1 => ?_)
  · replace h := ifp h c1
    obtain ⟨xo, hy, hxo⟩ := oRb h
    clear h
    subst hxo
    replace hx := KLr hx
    have h := hy
    clear hy
    refine PW.iload_n 2 2 dX2_firstWrong_101 rfl rfl ?_
    refine PW.aload_n 0 0 dX2_firstWrong_102 rfl rfl rfl ?_
    refine CW.getr dX2_firstWrong_103 fL_X2_26 LA_32 (Or.inl ⟨_, rfl⟩) rfl ?_
    refine CW.callVi (ci := 1) (st := [.int x2]) [] dX2_firstWrong_106 (p_X1_size rfl) MV_X1_size mL_X2_37 (by decide) rfl LA_3 rfl rfl (Nat.le_of_ble_eq_true rfl) (by first | decide | omega) ?_
    refine PW.icmp_ge (tgt := 118) dX2_firstWrong_109 (by decide) (fun c3 => ?_) (fun c3 => ?_)
    · replace h := ifp h c3
      refine PW.iconst (v := (-1)) dX2_firstWrong_118 (by decide) ?_
      cases h
      subst hx
      exact PW.iret (v := (-1 : Int32)) dX2_firstWrong_119 rfl rfl (Nat.le_refl 0) (Nat.le_refl 0)
    · replace h := ifn h c3
      refine PW.iconst (v := 3) dX2_firstWrong_112 (by decide) ?_
      refine PW.iload_n 2 2 dX2_firstWrong_113 rfl rfl ?_
      refine PW.imul dX2_firstWrong_114 ?_
      refine PW.goto (tgt := 119) dX2_firstWrong_115 (by decide) ?_
      cases h
      subst hx
      exact PW.iret (v := ((3 : Int32) * x2)) dX2_firstWrong_119 rfl rfl (Nat.le_refl 0) (Nat.le_refl 0)
  · replace h := ifn h c1
    refine PW.iload 4 dX2_firstWrong_9 rfl ?_
    refine PW.aload_n 0 0 dX2_firstWrong_11 rfl rfl rfl ?_
    refine CW.getr dX2_firstWrong_12 fL_X2_26 LA_32 (Or.inl ⟨_, rfl⟩) rfl ?_
    refine CW.callVi (ci := 1) (st := [.int x4]) [] dX2_firstWrong_15 (p_X1_size rfl) MV_X1_size mL_X2_37 (by decide) rfl LA_3 rfl rfl (Nat.le_of_ble_eq_true rfl) (by first | decide | omega) ?_
    refine PW.icmp_ge (tgt := 34) dX2_firstWrong_18 (by decide) (fun c5 => ?_) (fun c5 => ?_)
    · replace h := ifp h c5
      obtain ⟨xo, hy, hxo⟩ := oRb h
      clear h
      subst hxo
      replace hx := KLr hx
      have h := hy
      clear hy
      refine PW.iconst (v := 3) dX2_firstWrong_34 (by decide) ?_
      refine PW.iload 4 dX2_firstWrong_35 rfl ?_
      refine PW.imul dX2_firstWrong_37 ?_
      cases h
      subst hx
      exact PW.iret (v := ((3 : Int32) * x4)) dX2_firstWrong_38 rfl rfl (Nat.le_refl 0) (Nat.le_refl 0)
    · replace h := ifn h c5
      refine PW.aload_n 3 3 dX2_firstWrong_21 rfl rfl rfl ?_
      refine PW.iconst (v := 3) dX2_firstWrong_22 (by decide) ?_
      refine PW.iload 4 dX2_firstWrong_23 rfl ?_
      refine PW.imul dX2_firstWrong_25 ?_
      obtain ⟨r6, s7, q8, h⟩ := obnd h
      refine CW.callVi (ci := 9) (st := []) [.int ((3 : Int32) * x4)] dX2_firstWrong_26 (p_X9_word q8) MV_X9_word mL_X2_87 (by decide) rfl LA_1 rfl rfl (Nat.le_of_ble_eq_true rfl) (by first | decide | omega) ?_
      refine PW.iload 4 dX2_firstWrong_29 rfl ?_
      refine PW.icmp_eq (tgt := 39) dX2_firstWrong_31 (by decide) (fun c9 => ?_) (fun c9 => ?_)
      · replace h := ifp h c9
        refine PW.aload_n 3 3 dX2_firstWrong_39 rfl rfl rfl ?_
        refine PW.iconst (v := 3) dX2_firstWrong_40 (by decide) ?_
        refine PW.iload 4 dX2_firstWrong_41 rfl ?_
        refine PW.imul dX2_firstWrong_43 ?_
        refine PW.iconst (v := 1) dX2_firstWrong_44 (by decide) ?_
        refine PW.iadd dX2_firstWrong_45 ?_
        obtain ⟨r10, s11, q12, h⟩ := obnd h
        refine CW.callVi (ci := 9) (st := []) [.int (((3 : Int32) * x4) + (1 : Int32))] dX2_firstWrong_46 (p_X9_word q12) MV_X9_word mL_X2_87 (by decide) rfl LA_1 rfl rfl (Nat.le_of_ble_eq_true rfl) (by first | decide | omega) ?_
        refine PW.aload_n 0 0 dX2_firstWrong_49 rfl rfl rfl ?_
        refine PW.iload_n 1 1 dX2_firstWrong_50 rfl rfl ?_
        refine PW.iload 4 dX2_firstWrong_51 rfl ?_
        refine PW.iconst (v := 0) dX2_firstWrong_53 (by decide) ?_
        obtain ⟨r13, s14, q15, h⟩ := obnd h
        refine CW.callVi (ci := 2) (st := [.int r10]) [.int x1, .int x4, .int (0 : Int32)] dX2_firstWrong_54 (p_X2_stateOf q15) MV_X2_stateOf mL_X2_92 (by decide) rfl LA_32 rfl rfl (Nat.le_of_ble_eq_true rfl) (by first | decide | omega) ?_
        refine PW.icmp_eq (tgt := 67) dX2_firstWrong_57 (by decide) (fun c16 => ?_) (fun c16 => ?_)
        · replace h := ifp h c16
          refine PW.aload_n 3 3 dX2_firstWrong_67 rfl rfl rfl ?_
          refine PW.iconst (v := 3) dX2_firstWrong_68 (by decide) ?_
          refine PW.iload 4 dX2_firstWrong_69 rfl ?_
          refine PW.imul dX2_firstWrong_71 ?_
          refine PW.iconst (v := 2) dX2_firstWrong_72 (by decide) ?_
          refine PW.iadd dX2_firstWrong_73 ?_
          obtain ⟨r17, s18, q19, h⟩ := obnd h
          refine CW.callVi (ci := 9) (st := []) [.int (((3 : Int32) * x4) + (2 : Int32))] dX2_firstWrong_74 (p_X9_word q19) MV_X9_word mL_X2_87 (by decide) rfl LA_1 rfl rfl (Nat.le_of_ble_eq_true rfl) (by first | decide | omega) ?_
          refine PW.aload_n 0 0 dX2_firstWrong_77 rfl rfl rfl ?_
          refine PW.iload_n 1 1 dX2_firstWrong_78 rfl rfl ?_
          refine PW.iload 4 dX2_firstWrong_79 rfl ?_
          refine PW.iconst (v := 1) dX2_firstWrong_81 (by decide) ?_
          obtain ⟨r20, s21, q22, h⟩ := obnd h
          refine CW.callVi (ci := 2) (st := [.int r17]) [.int x1, .int x4, .int (1 : Int32)] dX2_firstWrong_82 (p_X2_stateOf q22) MV_X2_stateOf mL_X2_92 (by decide) rfl LA_32 rfl rfl (Nat.le_of_ble_eq_true rfl) (by first | decide | omega) ?_
          refine PW.icmp_eq (tgt := 95) dX2_firstWrong_85 (by decide) (fun c23 => ?_) (fun c23 => ?_)
          · replace h := ifp h c23
            refine PW.iinc (v := (x4 + (1 : Int32))) 4 dX2_firstWrong_95 rfl (by first | rfl | decide) (Nat.le_of_ble_eq_true rfl) rfl ?_
            refine PW.goto (tgt := 3) dX2_firstWrong_98 (by decide) ?_
            cases h
            exact PW.pick [1, 2, 3, 4, 0] rfl hx
          · replace h := ifn h c23
            obtain ⟨xo, hy, hxo⟩ := oRb h
            clear h
            subst hxo
            replace hx := KLr hx
            have h := hy
            clear hy
            refine PW.iconst (v := 3) dX2_firstWrong_88 (by decide) ?_
            refine PW.iload 4 dX2_firstWrong_89 rfl ?_
            refine PW.imul dX2_firstWrong_91 ?_
            refine PW.iconst (v := 2) dX2_firstWrong_92 (by decide) ?_
            refine PW.iadd dX2_firstWrong_93 ?_
            cases h
            subst hx
            exact PW.iret (v := (((3 : Int32) * x4) + (2 : Int32))) dX2_firstWrong_94 rfl rfl (Nat.le_refl 0) (Nat.le_refl 0)
        · replace h := ifn h c16
          obtain ⟨xo, hy, hxo⟩ := oRb h
          clear h
          subst hxo
          replace hx := KLr hx
          have h := hy
          clear hy
          refine PW.iconst (v := 3) dX2_firstWrong_60 (by decide) ?_
          refine PW.iload 4 dX2_firstWrong_61 rfl ?_
          refine PW.imul dX2_firstWrong_63 ?_
          refine PW.iconst (v := 1) dX2_firstWrong_64 (by decide) ?_
          refine PW.iadd dX2_firstWrong_65 ?_
          cases h
          subst hx
          exact PW.iret (v := (((3 : Int32) * x4) + (1 : Int32))) dX2_firstWrong_66 rfl rfl (Nat.le_refl 0) (Nat.le_refl 0)
      · replace h := ifn h c9
        obtain ⟨xo, hy, hxo⟩ := oRb h
        clear h
        subst hxo
        replace hx := KLr hx
        have h := hy
        clear hy
        refine PW.iconst (v := 3) dX2_firstWrong_34 (by decide) ?_
        refine PW.iload 4 dX2_firstWrong_35 rfl ?_
        refine PW.imul dX2_firstWrong_37 ?_
        cases h
        subst hx
        exact PW.iret (v := ((3 : Int32) * x4)) dX2_firstWrong_38 rfl rfl (Nat.le_refl 0) (Nat.le_refl 0)
def w_X2_firstWrong_3 (N : Nat) (x1 : Int32) (x2 : Int32) (x4 : Int32) (s : cS) : Option (Int32 × cS) := itr (fun (v : Int32 × cS) => b_X2_firstWrong_3 N x1 x2 v.1 v.2) N (x4, s)
theorem ok_w_X2_firstWrong_3 {g : pG} {l : Launch} {F : pF} {N : Nat} {x1 : Int32} {x2 : Int32} {x4 : Int32} {s : cS} {x : (Int32 × cS)} (h : w_X2_firstWrong_3 N x1 x2 x4 s = some x) (hx : (fun q => F = pE g (some (.int q.1)) (tS q.2) 0 0) x) : PW g l (pRoom 3 0 0) M_X2_firstWrong F 3 [(0, .ref 32), (1, .int x1), (2, .int x2), (3, .ref 1), (4, .int x4)] [] (tS s) 0 0 :=
  okIter (P := (fun (v : Int32 × cS) => PW g l (pRoom 3 0 0) M_X2_firstWrong F 3 [(0, .ref 32), (1, .int x1), (2, .int x2), (3, .ref 1), (4, .int v.1)] [] (tS v.2) 0 0)) (K := (fun q => F = pE g (some (.int q.1)) (tS q.2) 0 0)) (fun v y hB hy => ok_b_X2_firstWrong_3 hB hy) N (x4, s) x h hx
def f_X2_firstWrong (N : Nat) (a0 : Int32) (a1 : Int32) (s : cS) : Option (Int32 × cS) :=
  w_X2_firstWrong_3 N a0 a1 (0 : Int32) s
set_option maxRecDepth 20000 in
set_option maxHeartbeats 4000000 in
theorem p_X2_firstWrong {g : pG} {l : Launch} {N : Nat} {a0 : Int32} {a1 : Int32} {s : cS} {q : Int32 × cS} (h : f_X2_firstWrong N a0 a1 s = some q) : PM g l 3 M_X2_firstWrong [.ref 32, .int a0, .int a1, .ref 1] (tS s) (some (.int q.1)) (tS q.2) 0 0 := by
  refine PM.of (by decide +kernel) (Nat.le_of_ble_eq_true rfl) ?_
  show PW g l (pRoom 3 0 0) M_X2_firstWrong _ 0 [(0, .ref 32), (1, .int a0), (2, .int a1), (3, .ref 1)] [] (tS s) 0 0
  unfold f_X2_firstWrong at h
  generalize hF : pE g (some (.int q.1)) (tS q.2) 0 0 = F
  have hx := hF.symm
  refine PW.iconst (v := 0) dX2_firstWrong_0 (by decide) ?_
  refine PW.istore dX2_firstWrong_1 (Nat.le_of_ble_eq_true rfl) rfl ?_
  exact PW.pick [1, 2, 3, 4, 0] rfl (ok_w_X2_firstWrong_3 h hx)
