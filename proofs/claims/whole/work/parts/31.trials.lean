/-! X10_size -/
def f_X10_size (s : cS) : Int32 :=
  (iG s 124 5)
set_option maxRecDepth 20000 in
set_option maxHeartbeats 4000000 in
theorem p_X10_size {g : pG} {l : Launch} {s : cS} {q : Int32} (h : f_X10_size s = q) : PM g l 1 M_X10_size [.ref 124] (tS s) (some (.int q)) (tS s) 0 0 := by
  refine PM.of (by decide +kernel) (Nat.le_of_ble_eq_true rfl) ?_
  show PW g l (pRoom 1 0 0) M_X10_size _ 0 [(0, .ref 124)] [] (tS s) 0 0
  unfold f_X10_size at h
  generalize hF : pE g (some (.int q)) (tS s) 0 0 = F
  have hx := hF.symm
  refine PW.aload_n 0 0 dX10_size_0 rfl rfl rfl ?_
  refine CW.geti dX10_size_1 fL_X10_31 LA_124 (Or.inl rfl) ?_
  cases h
  subst hx
  exact PW.iret (v := (iG s 124 5)) dX10_size_4 rfl rfl (Nat.le_refl 0) (Nat.le_refl 0)
/-! X10_has -/
def f_X10_has (a0 : Int32) (s : cS) : Int32 :=
  if a0 < 0 then
    (0 : Int32)
  else
    if (iG s 124 5) ≤ a0 then
      (0 : Int32)
    else
      (1 : Int32)
set_option maxRecDepth 20000 in
set_option maxHeartbeats 4000000 in
theorem p_X10_has {g : pG} {l : Launch} {a0 : Int32} {s : cS} {q : Int32} (h : f_X10_has a0 s = q) : PM g l 1 M_X10_has [.ref 124, .int a0] (tS s) (some (.int q)) (tS s) 0 0 := by
  refine PM.of (by decide +kernel) (Nat.le_of_ble_eq_true rfl) ?_
  show PW g l (pRoom 1 0 0) M_X10_has _ 0 [(0, .ref 124), (1, .int a0)] [] (tS s) 0 0
  unfold f_X10_has at h
  generalize hF : pE g (some (.int q)) (tS s) 0 0 = F
  have hx := hF.symm
  refine PW.iload_n 1 1 dX10_has_0 rfl rfl ?_
  refine PW.if_lt (tgt := 16) dX10_has_1 (by decide) (fun c1 => ?_) (fun c1 => ?_)
  · replace h := ifp h c1
    refine PW.iconst (v := 0) dX10_has_16 (by decide) ?_
    cases h
    subst hx
    exact PW.iret (v := (0 : Int32)) dX10_has_17 rfl (narZ (Or.inl rfl)) (Nat.le_refl 0) (Nat.le_refl 0)
  · replace h := ifn h c1
    refine PW.iload_n 1 1 dX10_has_4 rfl rfl ?_
    refine PW.aload_n 0 0 dX10_has_5 rfl rfl rfl ?_
    refine CW.geti dX10_has_6 fL_X10_31 LA_124 (Or.inl rfl) ?_
    refine PW.icmp_ge (tgt := 16) dX10_has_9 (by decide) (fun c2 => ?_) (fun c2 => ?_)
    · replace h := ifp h c2
      refine PW.iconst (v := 0) dX10_has_16 (by decide) ?_
      cases h
      subst hx
      exact PW.iret (v := (0 : Int32)) dX10_has_17 rfl (narZ (Or.inl rfl)) (Nat.le_refl 0) (Nat.le_refl 0)
    · replace h := ifn h c2
      refine PW.iconst (v := 1) dX10_has_12 (by decide) ?_
      refine PW.goto (tgt := 17) dX10_has_13 (by decide) ?_
      cases h
      subst hx
      exact PW.iret (v := (1 : Int32)) dX10_has_17 rfl (narZ (Or.inr rfl)) (Nat.le_refl 0) (Nat.le_refl 0)
theorem f_X10_has_bool {a0 : Int32} {s : cS} : f_X10_has a0 s = 0 ∨ f_X10_has a0 s = 1 := by
  unfold f_X10_has
  repeat' split
  all_goals first | exact Or.inl rfl | exact Or.inr rfl
/-! X10_program -/
def f_X10_program (a0 : Int32) (s : cS) : Option (Option Nat × cS) :=
  if a0 < 0 then
    some ((none, s))
  else
    if (8 : Int32) ≤ a0 then
      some ((none, s))
    else
      if inb a0 8 then
      some (((rG s 129 a0.toNatClampNeg), s))
      else none
set_option maxRecDepth 20000 in
set_option maxHeartbeats 4000000 in
theorem p_X10_program {g : pG} {l : Launch} {a0 : Int32} {s : cS} {q : Option Nat × cS} (h : f_X10_program a0 s = some q) : PM g l 1 M_X10_program [.ref 124, .int a0] (tS s) (some (va_rf q.1)) (tS q.2) 0 0 := by
  refine PM.of (by decide +kernel) (Nat.le_of_ble_eq_true rfl) ?_
  show PW g l (pRoom 1 0 0) M_X10_program _ 0 [(0, .ref 124), (1, .int a0)] [] (tS s) 0 0
  unfold f_X10_program at h
  generalize hF : pE g (some (va_rf q.1)) (tS q.2) 0 0 = F
  have hx := hF.symm
  refine PW.iload_n 1 1 dX10_program_0 rfl rfl ?_
  refine PW.if_lt (tgt := 22) dX10_program_1 (by decide) (fun c1 => ?_) (fun c1 => ?_)
  · replace h := ifp h c1
    refine PW.aconst_null dX10_program_22 ?_
    cases h
    subst hx
    exact PW.aret dX10_program_23 rfl (Or.inl ⟨_, rfl⟩) rfl (Nat.le_refl 0) (Nat.le_refl 0)
  · replace h := ifn h c1
    refine PW.iload_n 1 1 dX10_program_4 rfl rfl ?_
    refine PW.aload_n 0 0 dX10_program_5 rfl rfl rfl ?_
    refine CW.getr dX10_program_6 fL_X10_26 LA_124 (Or.inr ⟨_, rfl⟩) rfl ?_
    refine CW.alen (v := 8) dX10_program_9 LA_129 (by decide) rfl ?_
    refine PW.icmp_ge (tgt := 22) dX10_program_10 (by decide) (fun c2 => ?_) (fun c2 => ?_)
    · replace h := ifp h c2
      refine PW.aconst_null dX10_program_22 ?_
      cases h
      subst hx
      exact PW.aret dX10_program_23 rfl (Or.inl ⟨_, rfl⟩) rfl (Nat.le_refl 0) (Nat.le_refl 0)
    · replace h := ifn h c2
      refine PW.aload_n 0 0 dX10_program_13 rfl rfl rfl ?_
      refine CW.getr dX10_program_14 fL_X10_26 LA_124 (Or.inr ⟨_, rfl⟩) rfl ?_
      refine PW.iload_n 1 1 dX10_program_17 rfl rfl ?_
      by_cases c3 : inb a0 8
      rotate_left
      · have h := ifn h c3; cases h
      replace h := ifp h c3
      refine CW.aald5 dX10_program_18 LA_129 c3 ?_
      refine PW.goto (tgt := 23) dX10_program_19 (by decide) ?_
      cases h
      subst hx
      exact PW.aret dX10_program_23 rfl (Or.inl ⟨_, rfl⟩) (isA_rf _) (Nat.le_refl 0) (Nat.le_refl 0)
/-! X10_add -/
def f_X10_add (N : Nat) (a0 : Int32) (a1 : Option Nat) (a2 : Int32) (a3 : Int32) (a4 : Int32) (s : cS) : Option (Int32 × cS) :=
  ob (f_X10_program (iG s 124 5) s) fun r1 s2 =>
  orf r1 (
    some (((-1 : Int32), s2))) fun T5 =>
    orf a1 (
      some (((-1 : Int32), s2))) fun T7 =>
      if kd T5 6 then
      if kd T7 6 then
      ob (f_X6_copy N T5 T7 s2) fun r10 s11 =>
      sb (pA s11 125 8 (iG s11 124 5) a0) fun s14 =>
      sb (pA s14 126 8 (iG s14 124 5) a2) fun s17 =>
      sb (pA s17 127 8 (iG s17 124 5) ((f_X6_pulls T7 s17) + a3)) fun s21 =>
      sb (pA s21 128 8 (iG s21 124 5) a4) fun s24 =>
      sb (iS s24 124 5 ((iG s24 124 5) + (1 : Int32))) fun s26 =>
      some ((((iG s26 124 5) - (1 : Int32)), s26))
      else none
      else none
set_option maxRecDepth 20000 in
set_option maxHeartbeats 4000000 in
theorem p_X10_add {g : pG} {l : Launch} {N : Nat} {a0 : Int32} {a1 : Option Nat} {a2 : Int32} {a3 : Int32} {a4 : Int32} {s : cS} {q : Int32 × cS} (h : f_X10_add N a0 a1 a2 a3 a4 s = some q) : PM g l 2 M_X10_add [.ref 124, .int a0, va_rf a1, .int a2, .int a3, .int a4] (tS s) (some (.int q.1)) (tS q.2) 0 0 := by
  refine PM.of (by decide +kernel) (by cases a1 <;> exact Nat.le_of_ble_eq_true rfl) ?_
  rw [show lv_args 0 [.ref 124, .int a0, va_rf a1, .int a2, .int a3, .int a4] = [(0, .ref 124), (1, .int a0), (2, va_rf a1), (3, .int a2), (4, .int a3), (5, .int a4)] from by cases a1 <;> rfl]
  show PW g l (pRoom 2 0 0) M_X10_add _ 0 [(0, .ref 124), (1, .int a0), (2, va_rf a1), (3, .int a2), (4, .int a3), (5, .int a4)] [] (tS s) 0 0
  unfold f_X10_add at h
  generalize hF : pE g (some (.int q.1)) (tS q.2) 0 0 = F
  have hx := hF.symm
  refine PW.aload_n 0 0 dX10_add_0 rfl rfl rfl ?_
  refine PW.aload_n 0 0 dX10_add_1 rfl rfl rfl ?_
  refine CW.geti dX10_add_2 fL_X10_31 LA_124 (Or.inl rfl) ?_
  obtain ⟨r1, s2, q3, h⟩ := obnd h
  refine CW.callVr (ci := 10) (st := []) [.int (iG s 124 5)] dX10_add_5 (p_X10_program q3) MV_X10_program mL_X10_35 (by decide) rfl LA_124 rfl rfl (Nat.le_of_ble_eq_true rfl) (by first | decide | omega) ?_
  refine PW.astore dX10_add_8 (Nat.le_of_ble_eq_true rfl) rfl (isA_rf _) ?_
  refine PW.aload 0 dX10_add_10 rfl (isA_rf _) ?_
  rcases c4 : r1 with _ | T5
  · replace h := orfn h c4
    try rw [c4]
    show PW _ _ _ _ _ _ [(6, .null), (0, .ref 124), (1, .int a0), (2, va_rf a1), (3, .int a2), (4, .int a3), (5, .int a4)] (.null :: []) _ _ _
    refine PW.ifnull_null (tgt := 19) dX10_add_12 (by decide) ?_
    refine PW.iconst (v := (-1)) dX10_add_19 (by decide) ?_
    cases h
    subst hx
    exact PW.iret (v := (-1 : Int32)) dX10_add_20 rfl rfl (Nat.le_refl 0) (Nat.le_refl 0)
  · replace h := orfs h c4
    try rw [c4]
    show PW _ _ _ _ _ _ [(6, .ref T5), (0, .ref 124), (1, .int a0), (2, va_rf a1), (3, .int a2), (4, .int a3), (5, .int a4)] (.ref T5 :: []) _ _ _
    refine PW.ifnull_ref dX10_add_12 ?_
    refine PW.aload_n 3 2 dX10_add_15 rfl rfl (isA_rf _) ?_
    rcases c6 : a1 with _ | T7
    · replace h := orfn h c6
      try rw [c6]
      show PW _ _ _ _ _ _ [(6, .ref T5), (0, .ref 124), (1, .int a0), (2, .null), (3, .int a2), (4, .int a3), (5, .int a4)] (.null :: []) _ _ _
      refine PW.ifnonnull_null dX10_add_16 ?_
      refine PW.iconst (v := (-1)) dX10_add_19 (by decide) ?_
      cases h
      subst hx
      exact PW.iret (v := (-1 : Int32)) dX10_add_20 rfl rfl (Nat.le_refl 0) (Nat.le_refl 0)
    · replace h := orfs h c6
      try rw [c6]
      show PW _ _ _ _ _ _ [(6, .ref T5), (0, .ref 124), (1, .int a0), (2, .ref T7), (3, .int a2), (4, .int a3), (5, .int a4)] (.ref T7 :: []) _ _ _
      refine PW.ifnonnull_ref (tgt := 21) dX10_add_16 (by decide) ?_
      refine PW.aload 0 dX10_add_21 rfl rfl ?_
      refine PW.aload_n 3 2 dX10_add_23 rfl rfl rfl ?_
      by_cases c8 : kd T5 6
      rotate_left
      · have h := ifn h c8; cases h
      replace h := ifp h c8
      by_cases c9 : kd T7 6
      rotate_left
      · have h := ifn h c9; cases h
      replace h := ifp h c9
      obtain ⟨r10, s11, q12, h⟩ := obnd h
      refine CW.callVv (ci := 6) (st := []) [.ref T7] dX10_add_24 (p_X6_copy c8 c9 q12) MV_X6_copy mL_X10_39 (by decide) rfl c8 rfl rfl (Nat.le_of_ble_eq_true rfl) (by first | decide | omega) ?_
      refine PW.aload_n 1 0 dX10_add_27 rfl rfl rfl ?_
      refine CW.getr dX10_add_28 fL_X10_11 LA_124 (Or.inr ⟨_, rfl⟩) rfl ?_
      refine PW.aload_n 1 0 dX10_add_31 rfl rfl rfl ?_
      refine CW.geti dX10_add_32 fL_X10_31 LA_124 (Or.inl rfl) ?_
      refine PW.iload_n 2 1 dX10_add_35 rfl rfl ?_
      obtain ⟨s14, q15, h⟩ := sbnd h
      refine CW.callSNv (st := []) [.ref 125, .int (iG s11 124 5), .int a0] dX10_add_36 (ps_put LA_125 q15) MS_X11_put mN_X10_43 rfl rfl (Nat.le_of_ble_eq_true rfl) (by first | decide | omega) ?_
      refine PW.aload_n 1 0 dX10_add_39 rfl rfl rfl ?_
      refine CW.getr dX10_add_40 fL_X10_15 LA_124 (Or.inr ⟨_, rfl⟩) rfl ?_
      refine PW.aload_n 1 0 dX10_add_43 rfl rfl rfl ?_
      refine CW.geti dX10_add_44 fL_X10_31 LA_124 (Or.inl rfl) ?_
      refine PW.iload_n 4 3 dX10_add_47 rfl rfl ?_
      obtain ⟨s17, q18, h⟩ := sbnd h
      refine CW.callSNv (st := []) [.ref 126, .int (iG s14 124 5), .int a2] dX10_add_48 (ps_put LA_126 q18) MS_X11_put mN_X10_43 rfl rfl (Nat.le_of_ble_eq_true rfl) (by first | decide | omega) ?_
      refine PW.aload_n 1 0 dX10_add_51 rfl rfl rfl ?_
      refine CW.getr dX10_add_52 fL_X10_18 LA_124 (Or.inr ⟨_, rfl⟩) rfl ?_
      refine PW.aload_n 1 0 dX10_add_55 rfl rfl rfl ?_
      refine CW.geti dX10_add_56 fL_X10_31 LA_124 (Or.inl rfl) ?_
      refine PW.aload_n 3 2 dX10_add_59 rfl rfl rfl ?_
      refine CW.callVi (ci := 6) (st := [.int (iG s17 124 5), .ref 127]) [] dX10_add_60 (p_X6_pulls c9 rfl) MV_X6_pulls mL_X10_47 (by decide) rfl c9 rfl rfl (Nat.le_of_ble_eq_true rfl) (by first | decide | omega) ?_
      refine PW.iload 5 dX10_add_63 rfl ?_
      refine PW.iadd dX10_add_65 ?_
      obtain ⟨s21, q22, h⟩ := sbnd h
      refine CW.callSNv (st := []) [.ref 127, .int (iG s17 124 5), .int ((f_X6_pulls T7 s17) + a3)] dX10_add_66 (ps_put LA_127 q22) MS_X11_put mN_X10_43 rfl rfl (Nat.le_of_ble_eq_true rfl) (by first | decide | omega) ?_
      refine PW.aload_n 1 0 dX10_add_69 rfl rfl rfl ?_
      refine CW.getr dX10_add_70 fL_X10_21 LA_124 (Or.inr ⟨_, rfl⟩) rfl ?_
      refine PW.aload_n 1 0 dX10_add_73 rfl rfl rfl ?_
      refine CW.geti dX10_add_74 fL_X10_31 LA_124 (Or.inl rfl) ?_
      refine PW.iload 6 dX10_add_77 rfl ?_
      obtain ⟨s24, q25, h⟩ := sbnd h
      refine CW.callSNv (st := []) [.ref 128, .int (iG s21 124 5), .int a4] dX10_add_79 (ps_put LA_128 q25) MS_X11_put mN_X10_43 rfl rfl (Nat.le_of_ble_eq_true rfl) (by first | decide | omega) ?_
      refine PW.aload_n 1 0 dX10_add_82 rfl rfl rfl ?_
      refine PW.dup dX10_add_83 rfl ?_
      refine CW.geti dX10_add_84 fL_X10_31 LA_124 (Or.inl rfl) ?_
      refine PW.iconst (v := 1) dX10_add_87 (by decide) ?_
      refine PW.iadd dX10_add_88 ?_
      refine CW.puti dX10_add_89 fL_X10_31 rfl LA_124 rfl ?_
      obtain ⟨s26, es26, h⟩ := sbnd h
      refine PW.sbe es26 ?_
      clear es26
      refine PW.aload_n 1 0 dX10_add_92 rfl rfl rfl ?_
      refine CW.geti dX10_add_93 fL_X10_31 LA_124 (Or.inl rfl) ?_
      refine PW.iconst (v := 1) dX10_add_96 (by decide) ?_
      refine PW.isub dX10_add_97 ?_
      cases h
      subst hx
      exact PW.iret (v := ((iG s26 124 5) - (1 : Int32))) dX10_add_98 rfl rfl (Nat.le_refl 0) (Nat.le_refl 0)
/-! X10_piece -/
def f_X10_piece (a0 : Int32) (s : cS) : Int32 :=
  (aA s 125 8 a0)
set_option maxRecDepth 20000 in
set_option maxHeartbeats 4000000 in
theorem p_X10_piece {g : pG} {l : Launch} {a0 : Int32} {s : cS} {q : Int32} (h : f_X10_piece a0 s = q) : PM g l 2 M_X10_piece [.ref 124, .int a0] (tS s) (some (.int q)) (tS s) 0 0 := by
  refine PM.of (by decide +kernel) (Nat.le_of_ble_eq_true rfl) ?_
  show PW g l (pRoom 2 0 0) M_X10_piece _ 0 [(0, .ref 124), (1, .int a0)] [] (tS s) 0 0
  unfold f_X10_piece at h
  generalize hF : pE g (some (.int q)) (tS s) 0 0 = F
  have hx := hF.symm
  refine PW.aload_n 0 0 dX10_piece_0 rfl rfl rfl ?_
  refine CW.getr dX10_piece_1 fL_X10_11 LA_124 (Or.inr ⟨_, rfl⟩) rfl ?_
  refine PW.iload_n 1 1 dX10_piece_4 rfl rfl ?_
  refine CW.callSNi (st := []) [.ref 125, .int a0] dX10_piece_5 (ps_at LA_125 rfl) MS_X11_at mN_X10_50 rfl rfl (Nat.le_of_ble_eq_true rfl) (by first | decide | omega) ?_
  cases h
  subst hx
  exact PW.iret (v := (aA s 125 8 a0)) dX10_piece_8 rfl rfl (Nat.le_refl 0) (Nat.le_refl 0)
/-! X10_pressure -/
def f_X10_pressure (a0 : Int32) (s : cS) : Int32 :=
  (aA s 126 8 a0)
set_option maxRecDepth 20000 in
set_option maxHeartbeats 4000000 in
theorem p_X10_pressure {g : pG} {l : Launch} {a0 : Int32} {s : cS} {q : Int32} (h : f_X10_pressure a0 s = q) : PM g l 2 M_X10_pressure [.ref 124, .int a0] (tS s) (some (.int q)) (tS s) 0 0 := by
  refine PM.of (by decide +kernel) (Nat.le_of_ble_eq_true rfl) ?_
  show PW g l (pRoom 2 0 0) M_X10_pressure _ 0 [(0, .ref 124), (1, .int a0)] [] (tS s) 0 0
  unfold f_X10_pressure at h
  generalize hF : pE g (some (.int q)) (tS s) 0 0 = F
  have hx := hF.symm
  refine PW.aload_n 0 0 dX10_pressure_0 rfl rfl rfl ?_
  refine CW.getr dX10_pressure_1 fL_X10_15 LA_124 (Or.inr ⟨_, rfl⟩) rfl ?_
  refine PW.iload_n 1 1 dX10_pressure_4 rfl rfl ?_
  refine CW.callSNi (st := []) [.ref 126, .int a0] dX10_pressure_5 (ps_at LA_126 rfl) MS_X11_at mN_X10_50 rfl rfl (Nat.le_of_ble_eq_true rfl) (by first | decide | omega) ?_
  cases h
  subst hx
  exact PW.iret (v := (aA s 126 8 a0)) dX10_pressure_8 rfl rfl (Nat.le_refl 0) (Nat.le_refl 0)
/-! X10_pulls -/
def f_X10_pulls (a0 : Int32) (s : cS) : Int32 :=
  (aA s 127 8 a0)
set_option maxRecDepth 20000 in
set_option maxHeartbeats 4000000 in
theorem p_X10_pulls {g : pG} {l : Launch} {a0 : Int32} {s : cS} {q : Int32} (h : f_X10_pulls a0 s = q) : PM g l 2 M_X10_pulls [.ref 124, .int a0] (tS s) (some (.int q)) (tS s) 0 0 := by
  refine PM.of (by decide +kernel) (Nat.le_of_ble_eq_true rfl) ?_
  show PW g l (pRoom 2 0 0) M_X10_pulls _ 0 [(0, .ref 124), (1, .int a0)] [] (tS s) 0 0
  unfold f_X10_pulls at h
  generalize hF : pE g (some (.int q)) (tS s) 0 0 = F
  have hx := hF.symm
  refine PW.aload_n 0 0 dX10_pulls_0 rfl rfl rfl ?_
  refine CW.getr dX10_pulls_1 fL_X10_18 LA_124 (Or.inr ⟨_, rfl⟩) rfl ?_
  refine PW.iload_n 1 1 dX10_pulls_4 rfl rfl ?_
  refine CW.callSNi (st := []) [.ref 127, .int a0] dX10_pulls_5 (ps_at LA_127 rfl) MS_X11_at mN_X10_50 rfl rfl (Nat.le_of_ble_eq_true rfl) (by first | decide | omega) ?_
  cases h
  subst hx
  exact PW.iret (v := (aA s 127 8 a0)) dX10_pulls_8 rfl rfl (Nat.le_refl 0) (Nat.le_refl 0)
/-! X10_cost -/
def f_X10_cost (a0 : Int32) (s : cS) : Int32 :=
  (aA s 128 8 a0)
set_option maxRecDepth 20000 in
set_option maxHeartbeats 4000000 in
theorem p_X10_cost {g : pG} {l : Launch} {a0 : Int32} {s : cS} {q : Int32} (h : f_X10_cost a0 s = q) : PM g l 2 M_X10_cost [.ref 124, .int a0] (tS s) (some (.int q)) (tS s) 0 0 := by
  refine PM.of (by decide +kernel) (Nat.le_of_ble_eq_true rfl) ?_
  show PW g l (pRoom 2 0 0) M_X10_cost _ 0 [(0, .ref 124), (1, .int a0)] [] (tS s) 0 0
  unfold f_X10_cost at h
  generalize hF : pE g (some (.int q)) (tS s) 0 0 = F
  have hx := hF.symm
  refine PW.aload_n 0 0 dX10_cost_0 rfl rfl rfl ?_
  refine CW.getr dX10_cost_1 fL_X10_21 LA_124 (Or.inr ⟨_, rfl⟩) rfl ?_
  refine PW.iload_n 1 1 dX10_cost_4 rfl rfl ?_
  refine CW.callSNi (st := []) [.ref 128, .int a0] dX10_cost_5 (ps_at LA_128 rfl) MS_X11_at mN_X10_50 rfl rfl (Nat.le_of_ble_eq_true rfl) (by first | decide | omega) ?_
  cases h
  subst hx
  exact PW.iret (v := (aA s 128 8 a0)) dX10_cost_8 rfl rfl (Nat.le_refl 0) (Nat.le_refl 0)
