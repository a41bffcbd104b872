/-! X1_takeSpareLaw -/
def f_X1_takeSpareLaw (s : cS) : (Unit × cS) :=
  sb (qA s s.1.2.1) fun s1 =>
  sb (qB s1 s.1.1) fun s2 =>
  tb (f_X1_changed s2) fun r3 s4 =>
  ((), s4)
set_option maxRecDepth 20000 in
set_option maxHeartbeats 4000000 in
theorem p_X1_takeSpareLaw {g : pG} {l : Launch} {s : cS} {q : Unit × cS} (h : f_X1_takeSpareLaw s = q) : PM g l 2 M_X1_takeSpareLaw [.ref 3] (tS s) none (tS q.2) 0 0 := by
  refine PM.of (by decide +kernel) (Nat.le_of_ble_eq_true rfl) ?_
  show PW g l (pRoom 2 0 0) M_X1_takeSpareLaw _ 0 [(0, .ref 3)] [] (tS s) 0 0
  unfold f_X1_takeSpareLaw at h
  generalize hF : pE g none (tS q.2) 0 0 = F
  have hx := hF.symm
  refine PW.aload_n 0 0 dX1_takeSpareLaw_0 rfl rfl rfl ?_
  refine CW.getr dX1_takeSpareLaw_1 fL_X1_34 LA_3 (Or.inl ⟨_, rfl⟩) rfl ?_
  refine PW.astore_n dX1_takeSpareLaw_4 rfl (Nat.le_of_ble_eq_true rfl) rfl rfl ?_
  refine PW.aload_n 1 0 dX1_takeSpareLaw_5 rfl rfl rfl ?_
  refine PW.aload_n 1 0 dX1_takeSpareLaw_6 rfl rfl rfl ?_
  refine CW.getr dX1_takeSpareLaw_7 fL_X1_38 LA_3 (Or.inl ⟨_, rfl⟩) rfl ?_
  refine CW.putqA dX1_takeSpareLaw_10 fL_X1_34 ?_
  obtain ⟨s1, es1, h⟩ := sbnd h
  refine PW.sbe es1 ?_
  clear es1
  refine PW.aload_n 1 0 dX1_takeSpareLaw_13 rfl rfl rfl ?_
  refine PW.aload_n 0 1 dX1_takeSpareLaw_14 rfl rfl rfl ?_
  refine CW.putqB dX1_takeSpareLaw_15 fL_X1_38 ?_
  obtain ⟨s2, es2, h⟩ := sbnd h
  refine PW.sbe es2 ?_
  clear es2
  refine PW.aload_n 1 0 dX1_takeSpareLaw_18 rfl rfl rfl ?_
  obtain ⟨r3, s4, q5, h⟩ := tbnd h
  refine CW.callVv (ci := 1) (st := []) [] dX1_takeSpareLaw_19 (p_X1_changed q5) MV_X1_changed mL_X1_62 (by decide) rfl LA_3 rfl rfl (Nat.le_of_ble_eq_true rfl) (by first | decide | omega) ?_
  cases h
  subst hx
  exact PW.vret dX1_takeSpareLaw_22 rfl (Nat.le_refl 0) (Nat.le_refl 0)
/-! X1_add -/
def f_X1_add (a0 : Int32) (a1 : Int32) (a2 : Int32) (a3 : Int32) (s : cS) : (Int32 × cS) :=
  sb (pA s 4 8 (iG s 3 7) a0) fun s2 =>
  sb (pA s2 5 8 (iG s2 3 7) a1) fun s5 =>
  sb (pA s5 6 8 (iG s5 3 7) a2) fun s8 =>
  sb (pA s8 7 8 (iG s8 3 7) a3) fun s11 =>
  sb (iS s11 3 7 ((iG s11 3 7) + (1 : Int32))) fun s13 =>
  tb (f_X1_changed s13) fun r14 s15 =>
  (((iG s15 3 7) - (1 : Int32)), s15)
set_option maxRecDepth 20000 in
set_option maxHeartbeats 4000000 in
theorem p_X1_add {g : pG} {l : Launch} {a0 : Int32} {a1 : Int32} {a2 : Int32} {a3 : Int32} {s : cS} {q : Int32 × cS} (h : f_X1_add a0 a1 a2 a3 s = q) : PM g l 2 M_X1_add [.ref 3, .int a0, .int a1, .int a2, .int a3] (tS s) (some (.int q.1)) (tS q.2) 0 0 := by
  refine PM.of (by decide +kernel) (Nat.le_of_ble_eq_true rfl) ?_
  show PW g l (pRoom 2 0 0) M_X1_add _ 0 [(0, .ref 3), (1, .int a0), (2, .int a1), (3, .int a2), (4, .int a3)] [] (tS s) 0 0
  unfold f_X1_add at h
  generalize hF : pE g (some (.int q.1)) (tS q.2) 0 0 = F
  have hx := hF.symm
  refine PW.aload_n 0 0 dX1_add_0 rfl rfl rfl ?_
  refine CW.getr dX1_add_1 fL_X1_9 LA_3 (Or.inr ⟨_, rfl⟩) rfl ?_
  refine PW.aload_n 0 0 dX1_add_4 rfl rfl rfl ?_
  refine CW.geti dX1_add_5 fL_X1_41 LA_3 (Or.inl rfl) ?_
  refine PW.iload_n 1 1 dX1_add_8 rfl rfl ?_
  obtain ⟨s2, q3, h⟩ := sbnd h
  refine CW.callSNv (st := []) [.ref 4, .int (iG s 3 7), .int a0] dX1_add_9 (ps_put LA_4 q3) MS_X11_put mN_X1_65 rfl rfl (Nat.le_of_ble_eq_true rfl) (by first | decide | omega) ?_
  refine PW.aload_n 0 0 dX1_add_12 rfl rfl rfl ?_
  refine CW.getr dX1_add_13 fL_X1_13 LA_3 (Or.inr ⟨_, rfl⟩) rfl ?_
  refine PW.aload_n 0 0 dX1_add_16 rfl rfl rfl ?_
  refine CW.geti dX1_add_17 fL_X1_41 LA_3 (Or.inl rfl) ?_
  refine PW.iload_n 2 2 dX1_add_20 rfl rfl ?_
  obtain ⟨s5, q6, h⟩ := sbnd h
  refine CW.callSNv (st := []) [.ref 5, .int (iG s2 3 7), .int a1] dX1_add_21 (ps_put LA_5 q6) MS_X11_put mN_X1_65 rfl rfl (Nat.le_of_ble_eq_true rfl) (by first | decide | omega) ?_
  refine PW.aload_n 0 0 dX1_add_24 rfl rfl rfl ?_
  refine CW.getr dX1_add_25 fL_X1_16 LA_3 (Or.inr ⟨_, rfl⟩) rfl ?_
  refine PW.aload_n 0 0 dX1_add_28 rfl rfl rfl ?_
  refine CW.geti dX1_add_29 fL_X1_41 LA_3 (Or.inl rfl) ?_
  refine PW.iload_n 3 3 dX1_add_32 rfl rfl ?_
  obtain ⟨s8, q9, h⟩ := sbnd h
  refine CW.callSNv (st := []) [.ref 6, .int (iG s5 3 7), .int a2] dX1_add_33 (ps_put LA_6 q9) MS_X11_put mN_X1_65 rfl rfl (Nat.le_of_ble_eq_true rfl) (by first | decide | omega) ?_
  refine PW.aload_n 0 0 dX1_add_36 rfl rfl rfl ?_
  refine CW.getr dX1_add_37 fL_X1_19 LA_3 (Or.inr ⟨_, rfl⟩) rfl ?_
  refine PW.aload_n 0 0 dX1_add_40 rfl rfl rfl ?_
  refine CW.geti dX1_add_41 fL_X1_41 LA_3 (Or.inl rfl) ?_
  refine PW.iload 4 dX1_add_44 rfl ?_
  obtain ⟨s11, q12, h⟩ := sbnd h
  refine CW.callSNv (st := []) [.ref 7, .int (iG s8 3 7), .int a3] dX1_add_46 (ps_put LA_7 q12) MS_X11_put mN_X1_65 rfl rfl (Nat.le_of_ble_eq_true rfl) (by first | decide | omega) ?_
  refine PW.aload_n 0 0 dX1_add_49 rfl rfl rfl ?_
  refine PW.dup dX1_add_50 rfl ?_
  refine CW.geti dX1_add_51 fL_X1_41 LA_3 (Or.inl rfl) ?_
  refine PW.iconst (v := 1) dX1_add_54 (by decide) ?_
  refine PW.iadd dX1_add_55 ?_
  refine CW.puti dX1_add_56 fL_X1_41 rfl LA_3 rfl ?_
  obtain ⟨s13, es13, h⟩ := sbnd h
  refine PW.sbe es13 ?_
  clear es13
  refine PW.aload_n 0 0 dX1_add_59 rfl rfl rfl ?_
  obtain ⟨r14, s15, q16, h⟩ := tbnd h
  refine CW.callVv (ci := 1) (st := []) [] dX1_add_60 (p_X1_changed q16) MV_X1_changed mL_X1_62 (by decide) rfl LA_3 rfl rfl (Nat.le_of_ble_eq_true rfl) (by first | decide | omega) ?_
  refine PW.aload_n 0 0 dX1_add_63 rfl rfl rfl ?_
  refine CW.geti dX1_add_64 fL_X1_41 LA_3 (Or.inl rfl) ?_
  refine PW.iconst (v := 1) dX1_add_67 (by decide) ?_
  refine PW.isub dX1_add_68 ?_
  cases h
  subst hx
  exact PW.iret (v := ((iG s15 3 7) - (1 : Int32))) dX1_add_69 rfl rfl (Nat.le_refl 0) (Nat.le_refl 0)
/-! X1_addLife -/
def f_X1_addLife (a0 : Int32) (a1 : Int32) (a2 : Int32) (s : cS) : (Int32 × cS) :=
  sb (pA s 9 32 ((a0 * (4 : Int32)) + (f_X1_livesOf a0 s)) a1) fun s3 =>
  sb (pA s3 10 32 ((a0 * (4 : Int32)) + (f_X1_livesOf a0 s)) a2) fun s6 =>
  sb (pA s6 8 8 a0 ((f_X1_livesOf a0 s) + (1 : Int32))) fun s9 =>
  tb (f_X1_changed s9) fun r11 s12 =>
  ((f_X1_livesOf a0 s), s12)
set_option maxRecDepth 20000 in
set_option maxHeartbeats 4000000 in
theorem p_X1_addLife {g : pG} {l : Launch} {a0 : Int32} {a1 : Int32} {a2 : Int32} {s : cS} {q : Int32 × cS} (h : f_X1_addLife a0 a1 a2 s = q) : PM g l 3 M_X1_addLife [.ref 3, .int a0, .int a1, .int a2] (tS s) (some (.int q.1)) (tS q.2) 0 0 := by
  refine PM.of (by decide +kernel) (Nat.le_of_ble_eq_true rfl) ?_
  show PW g l (pRoom 3 0 0) M_X1_addLife _ 0 [(0, .ref 3), (1, .int a0), (2, .int a1), (3, .int a2)] [] (tS s) 0 0
  unfold f_X1_addLife at h
  generalize hF : pE g (some (.int q.1)) (tS q.2) 0 0 = F
  have hx := hF.symm
  refine PW.aload_n 0 0 dX1_addLife_0 rfl rfl rfl ?_
  refine PW.iload_n 1 1 dX1_addLife_1 rfl rfl ?_
  refine CW.callVi (ci := 1) (st := []) [.int a0] dX1_addLife_2 (p_X1_livesOf rfl) MV_X1_livesOf mL_X1_69 (by decide) rfl LA_3 rfl rfl (Nat.le_of_ble_eq_true rfl) (by first | decide | omega) ?_
  refine PW.istore dX1_addLife_5 (Nat.le_of_ble_eq_true rfl) rfl ?_
  refine PW.aload_n 1 0 dX1_addLife_7 rfl rfl rfl ?_
  refine CW.getr dX1_addLife_8 fL_X1_25 LA_3 (Or.inr ⟨_, rfl⟩) rfl ?_
  refine PW.iload_n 2 1 dX1_addLife_11 rfl rfl ?_
  refine PW.iconst (v := 4) dX1_addLife_12 (by decide) ?_
  refine PW.imul dX1_addLife_13 ?_
  refine PW.iload 0 dX1_addLife_14 rfl ?_
  refine PW.iadd dX1_addLife_16 ?_
  refine PW.iload_n 3 2 dX1_addLife_17 rfl rfl ?_
  obtain ⟨s3, q4, h⟩ := sbnd h
  refine CW.callSNv (st := []) [.ref 9, .int ((a0 * (4 : Int32)) + (f_X1_livesOf a0 s)), .int a1] dX1_addLife_18 (ps_put LA_9 q4) MS_X11_put mN_X1_65 rfl rfl (Nat.le_of_ble_eq_true rfl) (by first | decide | omega) ?_
  refine PW.aload_n 1 0 dX1_addLife_21 rfl rfl rfl ?_
  refine CW.getr dX1_addLife_22 fL_X1_28 LA_3 (Or.inr ⟨_, rfl⟩) rfl ?_
  refine PW.iload_n 2 1 dX1_addLife_25 rfl rfl ?_
  refine PW.iconst (v := 4) dX1_addLife_26 (by decide) ?_
  refine PW.imul dX1_addLife_27 ?_
  refine PW.iload 0 dX1_addLife_28 rfl ?_
  refine PW.iadd dX1_addLife_30 ?_
  refine PW.iload_n 4 3 dX1_addLife_31 rfl rfl ?_
  obtain ⟨s6, q7, h⟩ := sbnd h
  refine CW.callSNv (st := []) [.ref 10, .int ((a0 * (4 : Int32)) + (f_X1_livesOf a0 s)), .int a2] dX1_addLife_32 (ps_put LA_10 q7) MS_X11_put mN_X1_65 rfl rfl (Nat.le_of_ble_eq_true rfl) (by first | decide | omega) ?_
  refine PW.aload_n 1 0 dX1_addLife_35 rfl rfl rfl ?_
  refine CW.getr dX1_addLife_36 fL_X1_22 LA_3 (Or.inr ⟨_, rfl⟩) rfl ?_
  refine PW.iload_n 2 1 dX1_addLife_39 rfl rfl ?_
  refine PW.iload 0 dX1_addLife_40 rfl ?_
  refine PW.iconst (v := 1) dX1_addLife_42 (by decide) ?_
  refine PW.iadd dX1_addLife_43 ?_
  obtain ⟨s9, q10, h⟩ := sbnd h
  refine CW.callSNv (st := []) [.ref 8, .int a0, .int ((f_X1_livesOf a0 s) + (1 : Int32))] dX1_addLife_44 (ps_put LA_8 q10) MS_X11_put mN_X1_65 rfl rfl (Nat.le_of_ble_eq_true rfl) (by first | decide | omega) ?_
  refine PW.aload_n 1 0 dX1_addLife_47 rfl rfl rfl ?_
  obtain ⟨r11, s12, q13, h⟩ := tbnd h
  refine CW.callVv (ci := 1) (st := []) [] dX1_addLife_48 (p_X1_changed q13) MV_X1_changed mL_X1_62 (by decide) rfl LA_3 rfl rfl (Nat.le_of_ble_eq_true rfl) (by first | decide | omega) ?_
  refine PW.iload 0 dX1_addLife_51 rfl ?_
  cases h
  subst hx
  exact PW.iret (v := (f_X1_livesOf a0 s)) dX1_addLife_53 rfl rfl (Nat.le_refl 0) (Nat.le_refl 0)
/-! X1_lifeOf -/
def f_X1_lifeOf (a0 : Int32) (a1 : Int32) (s : cS) : Int32 :=
  if (f_X1_hasLife a0 a1 s) = 0 then
    (0 : Int32)
  else
    (aA s 9 32 ((a0 * (4 : Int32)) + a1))
set_option maxRecDepth 20000 in
set_option maxHeartbeats 4000000 in
theorem p_X1_lifeOf {g : pG} {l : Launch} {a0 : Int32} {a1 : Int32} {s : cS} {q : Int32} (h : f_X1_lifeOf a0 a1 s = q) : PM g l 3 M_X1_lifeOf [.ref 3, .int a0, .int a1] (tS s) (some (.int q)) (tS s) 0 0 := by
  refine PM.of (by decide +kernel) (Nat.le_of_ble_eq_true rfl) ?_
  show PW g l (pRoom 3 0 0) M_X1_lifeOf _ 0 [(0, .ref 3), (1, .int a0), (2, .int a1)] [] (tS s) 0 0
  unfold f_X1_lifeOf at h
  generalize hF : pE g (some (.int q)) (tS s) 0 0 = F
  have hx := hF.symm
  refine PW.aload_n 0 0 dX1_lifeOf_0 rfl rfl rfl ?_
  refine PW.iload_n 1 1 dX1_lifeOf_1 rfl rfl ?_
  refine PW.iload_n 2 2 dX1_lifeOf_2 rfl rfl ?_
  refine CW.callVi (ci := 1) (st := []) [.int a0, .int a1] dX1_lifeOf_3 (p_X1_hasLife rfl) MV_X1_hasLife mL_X1_72 (by decide) rfl LA_3 rfl rfl (Nat.le_of_ble_eq_true rfl) (by first | decide | omega) ?_
  refine PW.if_eq (tgt := 24) dX1_lifeOf_6 (by decide) (fun c2 => ?_) (fun c2 => ?_)
  · replace h := ifp h c2
    refine PW.iconst (v := 0) dX1_lifeOf_24 (by decide) ?_
    cases h
    subst hx
    exact PW.iret (v := (0 : Int32)) dX1_lifeOf_25 rfl rfl (Nat.le_refl 0) (Nat.le_refl 0)
  · replace h := ifn h c2
    refine PW.aload_n 0 0 dX1_lifeOf_9 rfl rfl rfl ?_
    refine CW.getr dX1_lifeOf_10 fL_X1_25 LA_3 (Or.inr ⟨_, rfl⟩) rfl ?_
    refine PW.iload_n 1 1 dX1_lifeOf_13 rfl rfl ?_
    refine PW.iconst (v := 4) dX1_lifeOf_14 (by decide) ?_
    refine PW.imul dX1_lifeOf_15 ?_
    refine PW.iload_n 2 2 dX1_lifeOf_16 rfl rfl ?_
    refine PW.iadd dX1_lifeOf_17 ?_
    refine CW.callSNi (st := []) [.ref 9, .int ((a0 * (4 : Int32)) + a1)] dX1_lifeOf_18 (ps_at LA_9 rfl) MS_X11_at mN_X1_49 rfl rfl (Nat.le_of_ble_eq_true rfl) (by first | decide | omega) ?_
    refine PW.goto (tgt := 25) dX1_lifeOf_21 (by decide) ?_
    cases h
    subst hx
    exact PW.iret (v := (aA s 9 32 ((a0 * (4 : Int32)) + a1))) dX1_lifeOf_25 rfl rfl (Nat.le_refl 0) (Nat.le_refl 0)
/-! X1_weightOf -/
def f_X1_weightOf (a0 : Int32) (a1 : Int32) (s : cS) : Int32 :=
  (aA s 10 32 ((a0 * (4 : Int32)) + a1))
set_option maxRecDepth 20000 in
set_option maxHeartbeats 4000000 in
theorem p_X1_weightOf {g : pG} {l : Launch} {a0 : Int32} {a1 : Int32} {s : cS} {q : Int32} (h : f_X1_weightOf a0 a1 s = q) : PM g l 2 M_X1_weightOf [.ref 3, .int a0, .int a1] (tS s) (some (.int q)) (tS s) 0 0 := by
  refine PM.of (by decide +kernel) (Nat.le_of_ble_eq_true rfl) ?_
  show PW g l (pRoom 2 0 0) M_X1_weightOf _ 0 [(0, .ref 3), (1, .int a0), (2, .int a1)] [] (tS s) 0 0
  unfold f_X1_weightOf at h
  generalize hF : pE g (some (.int q)) (tS s) 0 0 = F
  have hx := hF.symm
  refine PW.aload_n 0 0 dX1_weightOf_0 rfl rfl rfl ?_
  refine CW.getr dX1_weightOf_1 fL_X1_28 LA_3 (Or.inr ⟨_, rfl⟩) rfl ?_
  refine PW.iload_n 1 1 dX1_weightOf_4 rfl rfl ?_
  refine PW.iconst (v := 4) dX1_weightOf_5 (by decide) ?_
  refine PW.imul dX1_weightOf_6 ?_
  refine PW.iload_n 2 2 dX1_weightOf_7 rfl rfl ?_
  refine PW.iadd dX1_weightOf_8 ?_
  refine CW.callSNi (st := []) [.ref 10, .int ((a0 * (4 : Int32)) + a1)] dX1_weightOf_9 (ps_at LA_10 rfl) MS_X11_at mN_X1_49 rfl rfl (Nat.le_of_ble_eq_true rfl) (by first | decide | omega) ?_
  cases h
  subst hx
  exact PW.iret (v := (aA s 10 32 ((a0 * (4 : Int32)) + a1))) dX1_weightOf_12 rfl rfl (Nat.le_refl 0) (Nat.le_refl 0)
/-! X1_reachOf -/
def f_X1_reachOf (a0 : Int32) (s : cS) : Int32 :=
  (aA s 7 8 a0)
set_option maxRecDepth 20000 in
set_option maxHeartbeats 4000000 in
theorem p_X1_reachOf {g : pG} {l : Launch} {a0 : Int32} {s : cS} {q : Int32} (h : f_X1_reachOf a0 s = q) : PM g l 2 M_X1_reachOf [.ref 3, .int a0] (tS s) (some (.int q)) (tS s) 0 0 := by
  refine PM.of (by decide +kernel) (Nat.le_of_ble_eq_true rfl) ?_
  show PW g l (pRoom 2 0 0) M_X1_reachOf _ 0 [(0, .ref 3), (1, .int a0)] [] (tS s) 0 0
  unfold f_X1_reachOf at h
  generalize hF : pE g (some (.int q)) (tS s) 0 0 = F
  have hx := hF.symm
  refine PW.aload_n 0 0 dX1_reachOf_0 rfl rfl rfl ?_
  refine CW.getr dX1_reachOf_1 fL_X1_19 LA_3 (Or.inr ⟨_, rfl⟩) rfl ?_
  refine PW.iload_n 1 1 dX1_reachOf_4 rfl rfl ?_
  refine CW.callSNi (st := []) [.ref 7, .int a0] dX1_reachOf_5 (ps_at LA_7 rfl) MS_X11_at mN_X1_49 rfl rfl (Nat.le_of_ble_eq_true rfl) (by first | decide | omega) ?_
  cases h
  subst hx
  exact PW.iret (v := (aA s 7 8 a0)) dX1_reachOf_8 rfl rfl (Nat.le_refl 0) (Nat.le_refl 0)
/-! X1_tellLaw -/
def f_X1_tellLaw (a0 : Int32) (s : cS) : Option (Unit × cS) :=
  if kd s.1.1 3 then
  tb (f_X3_setCorner s.1.1 (aA s 5 8 a0) (aA s 6 8 a0) (aA s 4 8 a0) a0 s) fun r5 s6 =>
  some (((), s6))
  else none
set_option maxRecDepth 20000 in
set_option maxHeartbeats 4000000 in
theorem p_X1_tellLaw {g : pG} {l : Launch} {a0 : Int32} {s : cS} {q : Unit × cS} (h : f_X1_tellLaw a0 s = some q) : PM g l 2 M_X1_tellLaw [.ref 3, .int a0] (tS s) none (tS q.2) 0 0 := by
  refine PM.of (by decide +kernel) (Nat.le_of_ble_eq_true rfl) ?_
  show PW g l (pRoom 2 0 0) M_X1_tellLaw _ 0 [(0, .ref 3), (1, .int a0)] [] (tS s) 0 0
  unfold f_X1_tellLaw at h
  generalize hF : pE g none (tS q.2) 0 0 = F
  have hx := hF.symm
  refine PW.aload_n 0 0 dX1_tellLaw_0 rfl rfl rfl ?_
  refine CW.getr dX1_tellLaw_1 fL_X1_34 LA_3 (Or.inl ⟨_, rfl⟩) rfl ?_
  refine PW.aload_n 0 0 dX1_tellLaw_4 rfl rfl rfl ?_
  refine CW.getr dX1_tellLaw_5 fL_X1_13 LA_3 (Or.inr ⟨_, rfl⟩) rfl ?_
  refine PW.iload_n 1 1 dX1_tellLaw_8 rfl rfl ?_
  refine CW.callSNi (st := [.ref s.1.1]) [.ref 5, .int a0] dX1_tellLaw_9 (ps_at LA_5 rfl) MS_X11_at mN_X1_49 rfl rfl (Nat.le_of_ble_eq_true rfl) (by first | decide | omega) ?_
  refine PW.aload_n 0 0 dX1_tellLaw_12 rfl rfl rfl ?_
  refine CW.getr dX1_tellLaw_13 fL_X1_16 LA_3 (Or.inr ⟨_, rfl⟩) rfl ?_
  refine PW.iload_n 1 1 dX1_tellLaw_16 rfl rfl ?_
  refine CW.callSNi (st := [.int (aA s 5 8 a0), .ref s.1.1]) [.ref 6, .int a0] dX1_tellLaw_17 (ps_at LA_6 rfl) MS_X11_at mN_X1_49 rfl rfl (Nat.le_of_ble_eq_true rfl) (by first | decide | omega) ?_
  refine PW.aload_n 0 0 dX1_tellLaw_20 rfl rfl rfl ?_
  refine CW.getr dX1_tellLaw_21 fL_X1_9 LA_3 (Or.inr ⟨_, rfl⟩) rfl ?_
  refine PW.iload_n 1 1 dX1_tellLaw_24 rfl rfl ?_
  refine CW.callSNi (st := [.int (aA s 6 8 a0), .int (aA s 5 8 a0), .ref s.1.1]) [.ref 4, .int a0] dX1_tellLaw_25 (ps_at LA_4 rfl) MS_X11_at mN_X1_49 rfl rfl (Nat.le_of_ble_eq_true rfl) (by first | decide | omega) ?_
  refine PW.iload_n 1 1 dX1_tellLaw_28 rfl rfl ?_
  by_cases c4 : kd s.1.1 3
  rotate_left
  · have h := ifn h c4; cases h
  replace h := ifp h c4
  obtain ⟨r5, s6, q7, h⟩ := tbnd h
  refine CW.callVv (ci := 3) (st := []) [.int (aA s 5 8 a0), .int (aA s 6 8 a0), .int (aA s 4 8 a0), .int a0] dX1_tellLaw_29 (p_X3_setCorner c4 q7) MV_X3_setCorner mL_X1_76 (by decide) rfl c4 rfl rfl (Nat.le_of_ble_eq_true rfl) (by first | decide | omega) ?_
  cases h
  subst hx
  exact PW.vret dX1_tellLaw_32 rfl (Nat.le_refl 0) (Nat.le_refl 0)
/-! X1_fits -/
def j_X1_fits_45 (x1 : Int32) (x2 : Int32) (s : cS) : Option ((Int32 × cS) ⊕ (Int32 × cS)) :=
  some (.inl ((x2 + (1 : Int32)), s))
set_option maxRecDepth 20000 in
set_option maxHeartbeats 4000000 in
theorem ok_j_X1_fits_45 {g : pG} {l : Launch} {F : pF} {x1 : Int32} {x2 : Int32} {s : cS} {x : ((Int32 × cS) ⊕ (Int32 × cS))} (h : j_X1_fits_45 x1 x2 s = some x) (hx : (KL (fun (v : Int32 × cS) => PW g l (pRoom 1 0 0) M_X1_fits F 15 [(0, .ref 3), (1, .int x1), (2, .int v.1)] [] (tS v.2) 0 0) (fun q => F = pE g (some (.int q.1)) (tS q.2) 0 0)) x) : PW g l (pRoom 1 0 0) M_X1_fits F 45 [(0, .ref 3), (1, .int x1), (2, .int x2)] [] (tS s) 0 0 := by
  unfold j_X1_fits_45 at h
  refine PW.iinc (v := (x2 + (1 : Int32))) 2 dX1_fits_45 rfl (by first | rfl | decide) (Nat.le_of_ble_eq_true rfl) rfl ?_
  refine PW.goto (tgt := 15) dX1_fits_48 (by decide) ?_
  cases h
  exact PW.pick [1, 2, 0] rfl hx
def b_X1_fits_15 (x1 : Int32) (x2 : Int32) (s : cS) : Option ((Int32 × cS) ⊕ (Int32 × cS)) :=
  if (8 : Int32) ≤ x2 then
    oR (
      some (((1 : Int32), s)))
  else
    if ((x1 >>> (((2 : Int32) * x2) &&& 31)) &&& (3 : Int32)) ≤ 0 then
      j_X1_fits_45 x1 x2 s
    else
      if inb x2 8 then
      if ((x1 >>> (((2 : Int32) * x2) &&& 31)) &&& (3 : Int32)) < (iG s 8 x2.toNatClampNeg) then
        j_X1_fits_45 x1 x2 s
      else
        oR (
          some (((0 : Int32), s)))
      else none
set_option maxRecDepth 20000 in
set_option maxHeartbeats 4000000 in
theorem ok_b_X1_fits_15 {g : pG} {l : Launch} {F : pF} {x1 : Int32} {x2 : Int32} {s : cS} {x : ((Int32 × cS) ⊕ (Int32 × cS))} (h : b_X1_fits_15 x1 x2 s = some x) (hx : (KL (fun (v : Int32 × cS) => PW g l (pRoom 1 0 0) M_X1_fits F 15 [(0, .ref 3), (1, .int x1), (2, .int v.1)] [] (tS v.2) 0 0) (fun q => F = pE g (some (.int q.1)) (tS q.2) 0 0)) x) : PW g l (pRoom 1 0 0) M_X1_fits F 15 [(0, .ref 3), (1, .int x1), (2, .int x2)] [] (tS s) 0 0 := by
  unfold b_X1_fits_15 at h
  refine PW.iload_n 2 2 dX1_fits_15 rfl rfl ?_
  refine PW.bipush (v := 8) dX1_fits_16 (by decide) ?_
  refine PW.icmp_ge (tgt := 51) dX1_fits_18 (by decide) (fun c3 => ?_) (fun c3 => ?_)
  · replace h := ifp h c3
    obtain ⟨xo, hy, hxo⟩ := oRb h
    clear h
    subst hxo
    replace hx := KLr hx
    have h := hy
    clear hy
    refine PW.iconst (v := 1) dX1_fits_51 (by decide) ?_
    cases h
    subst hx
    exact PW.iret (v := (1 : Int32)) dX1_fits_52 rfl (narZ (Or.inr rfl)) (Nat.le_refl 0) (Nat.le_refl 0)
  · replace h := ifn h c3
    refine PW.iload_n 1 1 dX1_fits_21 rfl rfl ?_
    refine PW.iconst (v := 2) dX1_fits_22 (by decide) ?_
    refine PW.iload_n 2 2 dX1_fits_23 rfl rfl ?_
    refine PW.imul dX1_fits_24 ?_
    refine PW.ishr dX1_fits_25 ?_
    refine PW.iconst (v := 3) dX1_fits_26 (by decide) ?_
    refine PW.iand dX1_fits_27 ?_
    refine PW.istore_n dX1_fits_28 rfl (Nat.le_of_ble_eq_true rfl) rfl ?_
    refine PW.iload_n 0 3 dX1_fits_29 rfl rfl ?_
    refine PW.if_le (tgt := 45) dX1_fits_30 (by decide) (fun c4 => ?_) (fun c4 => ?_)
    · replace h := ifp h c4
      exact PW.pick [1, 2, 3] rfl (ok_j_X1_fits_45 h hx)
    · replace h := ifn h c4
      refine PW.iload_n 0 3 dX1_fits_33 rfl rfl ?_
      refine PW.aload_n 1 0 dX1_fits_34 rfl rfl rfl ?_
      refine CW.getr dX1_fits_35 fL_X1_22 LA_3 (Or.inr ⟨_, rfl⟩) rfl ?_
      refine PW.iload_n 3 2 dX1_fits_38 rfl rfl ?_
      by_cases c5 : inb x2 8
      rotate_left
      · have h := ifn h c5; cases h
      replace h := ifp h c5
      refine CW.iald dX1_fits_39 LA_8 c5 ?_
      refine PW.icmp_lt (tgt := 45) dX1_fits_40 (by decide) (fun c6 => ?_) (fun c6 => ?_)
      · replace h := ifp h c6
        exact PW.pick [1, 2, 3] rfl (ok_j_X1_fits_45 h hx)
      · replace h := ifn h c6
        obtain ⟨xo, hy, hxo⟩ := oRb h
        clear h
        subst hxo
        replace hx := KLr hx
        have h := hy
        clear hy
        refine PW.iconst (v := 0) dX1_fits_43 (by decide) ?_
        cases h
        subst hx
        exact PW.iret (v := (0 : Int32)) dX1_fits_44 rfl (narZ (Or.inl rfl)) (Nat.le_refl 0) (Nat.le_refl 0)
def w_X1_fits_15 (N : Nat) (x1 : Int32) (x2 : Int32) (s : cS) : Option (Int32 × cS) := itr (fun (v : Int32 × cS) => b_X1_fits_15 x1 v.1 v.2) N (x2, s)
theorem ok_w_X1_fits_15 {g : pG} {l : Launch} {F : pF} {N : Nat} {x1 : Int32} {x2 : Int32} {s : cS} {x : (Int32 × cS)} (h : w_X1_fits_15 N x1 x2 s = some x) (hx : (fun q => F = pE g (some (.int q.1)) (tS q.2) 0 0) x) : PW g l (pRoom 1 0 0) M_X1_fits F 15 [(0, .ref 3), (1, .int x1), (2, .int x2)] [] (tS s) 0 0 :=
  okIter (P := (fun (v : Int32 × cS) => PW g l (pRoom 1 0 0) M_X1_fits F 15 [(0, .ref 3), (1, .int x1), (2, .int v.1)] [] (tS v.2) 0 0)) (K := (fun q => F = pE g (some (.int q.1)) (tS q.2) 0 0)) (fun v y hB hy => ok_b_X1_fits_15 hB hy) N (x2, s) x h hx
def f_X1_fits (N : Nat) (a0 : Int32) (s : cS) : Option (Int32 × cS) :=
  if a0 < 0 then
    some (((0 : Int32), s))
  else
    if (a0 >>> ((16 : Int32) &&& 31)) = 0 then
      w_X1_fits_15 N a0 (0 : Int32) s
    else
      some (((0 : Int32), s))
set_option maxRecDepth 20000 in
set_option maxHeartbeats 4000000 in
theorem p_X1_fits {g : pG} {l : Launch} {N : Nat} {a0 : Int32} {s : cS} {q : Int32 × cS} (h : f_X1_fits N a0 s = some q) : PM g l 1 M_X1_fits [.ref 3, .int a0] (tS s) (some (.int q.1)) (tS q.2) 0 0 := by
  refine PM.of (by decide +kernel) (Nat.le_of_ble_eq_true rfl) ?_
  show PW g l (pRoom 1 0 0) M_X1_fits _ 0 [(0, .ref 3), (1, .int a0)] [] (tS s) 0 0
  unfold f_X1_fits at h
  generalize hF : pE g (some (.int q.1)) (tS q.2) 0 0 = F
  have hx := hF.symm
  refine PW.iload_n 1 1 dX1_fits_0 rfl rfl ?_
  refine PW.if_lt (tgt := 11) dX1_fits_1 (by decide) (fun c1 => ?_) (fun c1 => ?_)
  · replace h := ifp h c1
    refine PW.iconst (v := 0) dX1_fits_11 (by decide) ?_
    cases h
    subst hx
    exact PW.iret (v := (0 : Int32)) dX1_fits_12 rfl (narZ (Or.inl rfl)) (Nat.le_refl 0) (Nat.le_refl 0)
  · replace h := ifn h c1
    refine PW.iload_n 1 1 dX1_fits_4 rfl rfl ?_
    refine PW.bipush (v := 16) dX1_fits_5 (by decide) ?_
    refine PW.ishr dX1_fits_7 ?_
    refine PW.if_eq (tgt := 13) dX1_fits_8 (by decide) (fun c2 => ?_) (fun c2 => ?_)
    · replace h := ifp h c2
      refine PW.iconst (v := 0) dX1_fits_13 (by decide) ?_
      refine PW.istore_n dX1_fits_14 rfl (Nat.le_of_ble_eq_true rfl) rfl ?_
      exact PW.pick [1, 2, 0] rfl (ok_w_X1_fits_15 h hx)
    · replace h := ifn h c2
      refine PW.iconst (v := 0) dX1_fits_11 (by decide) ?_
      cases h
      subst hx
      exact PW.iret (v := (0 : Int32)) dX1_fits_12 rfl (narZ (Or.inl rfl)) (Nat.le_refl 0) (Nat.le_refl 0)
