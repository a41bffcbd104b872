/-! X11_wind -/
def f_X11_wind (a0 : Int32) (a1 : Int32) (a2 : Int32) (s : cS) : (Int32 × cS) :=
  if (wB a0 (1 : Int32) (50 : Int32)) = 0 then
    ((0 : Int32), s)
  else
    if (wB a1 (-20 : Int32) (20 : Int32)) = 0 then
      ((0 : Int32), s)
    else
      if (wB a2 a1 (20 : Int32)) = 0 then
        ((0 : Int32), s)
      else
        tb (f_X0_blow a0 a1 a2 s) fun r7 s8 =>
        ((1 : Int32), s8)
set_option maxRecDepth 20000 in
set_option maxHeartbeats 4000000 in
theorem p_X11_wind {g : pG} {l : Launch} {a0 : Int32} {a1 : Int32} {a2 : Int32} {s : cS} {q : Int32 × cS} (h : f_X11_wind a0 a1 a2 s = q) : PM g l 2 M_X11_wind [.ref 0, .int a0, .int a1, .int a2] (tS s) (some (.int q.1)) (tS q.2) 0 0 := by
  refine PM.of (by decide +kernel) (Nat.le_of_ble_eq_true rfl) ?_
  show PW g l (pRoom 2 0 0) M_X11_wind _ 0 [(0, .ref 0), (1, .int a0), (2, .int a1), (3, .int a2)] [] (tS s) 0 0
  unfold f_X11_wind at h
  generalize hF : pE g (some (.int q.1)) (tS q.2) 0 0 = F
  have hx := hF.symm
  refine PW.iload_n 1 1 dX11_wind_0 rfl rfl ?_
  refine PW.iconst (v := 1) dX11_wind_1 (by decide) ?_
  refine PW.bipush (v := 50) dX11_wind_2 (by decide) ?_
  refine CW.callSi (st := []) [.int a0, .int (1 : Int32), .int (50 : Int32)] dX11_wind_4 (ps_within rfl) MS_X11_within mL_X11_94 rfl rfl (Nat.le_of_ble_eq_true rfl) (by first | decide | omega) ?_
  refine PW.if_eq (tgt := 31) dX11_wind_7 (by decide) (fun c2 => ?_) (fun c2 => ?_)
  · replace h := ifp h c2
    refine PW.iconst (v := 0) dX11_wind_31 (by decide) ?_
    cases h
    subst hx
    exact PW.iret (v := (0 : Int32)) dX11_wind_32 rfl (narZ (Or.inl rfl)) (Nat.le_refl 0) (Nat.le_refl 0)
  · replace h := ifn h c2
    refine PW.iload_n 2 2 dX11_wind_10 rfl rfl ?_
    refine PW.bipush (v := (-20)) dX11_wind_11 (by decide) ?_
    refine PW.bipush (v := 20) dX11_wind_13 (by decide) ?_
    refine CW.callSi (st := []) [.int a1, .int (-20 : Int32), .int (20 : Int32)] dX11_wind_15 (ps_within rfl) MS_X11_within mL_X11_94 rfl rfl (Nat.le_of_ble_eq_true rfl) (by first | decide | omega) ?_
    refine PW.if_eq (tgt := 31) dX11_wind_18 (by decide) (fun c4 => ?_) (fun c4 => ?_)
    · replace h := ifp h c4
      refine PW.iconst (v := 0) dX11_wind_31 (by decide) ?_
      cases h
      subst hx
      exact PW.iret (v := (0 : Int32)) dX11_wind_32 rfl (narZ (Or.inl rfl)) (Nat.le_refl 0) (Nat.le_refl 0)
    · replace h := ifn h c4
      refine PW.iload_n 3 3 dX11_wind_21 rfl rfl ?_
      refine PW.iload_n 2 2 dX11_wind_22 rfl rfl ?_
      refine PW.bipush (v := 20) dX11_wind_23 (by decide) ?_
      refine CW.callSi (st := []) [.int a2, .int a1, .int (20 : Int32)] dX11_wind_25 (ps_within rfl) MS_X11_within mL_X11_94 rfl rfl (Nat.le_of_ble_eq_true rfl) (by first | decide | omega) ?_
      refine PW.if_ne (tgt := 33) dX11_wind_28 (by decide) (fun c6 => ?_) (fun c6 => ?_)
      · replace h := ifn h c6
        refine PW.aload_n 0 0 dX11_wind_33 rfl rfl rfl ?_
        refine CW.getr dX11_wind_34 fL_X11_80 LA_0 (Or.inl ⟨_, rfl⟩) rfl ?_
        refine PW.iload_n 1 1 dX11_wind_37 rfl rfl ?_
        refine PW.iload_n 2 2 dX11_wind_38 rfl rfl ?_
        refine PW.iload_n 3 3 dX11_wind_39 rfl rfl ?_
        obtain ⟨r7, s8, q9, h⟩ := tbnd h
        refine CW.callVv (ci := 0) (st := []) [.int a0, .int a1, .int a2] dX11_wind_40 (p_X0_blow q9) MV_X0_blow mL_X11_301 (by decide) rfl LA_162 rfl rfl (Nat.le_of_ble_eq_true rfl) (by first | decide | omega) ?_
        refine PW.iconst (v := 1) dX11_wind_43 (by decide) ?_
        cases h
        subst hx
        exact PW.iret (v := (1 : Int32)) dX11_wind_44 rfl (narZ (Or.inr rfl)) (Nat.le_refl 0) (Nat.le_refl 0)
      · replace h := ifp h c6
        refine PW.iconst (v := 0) dX11_wind_31 (by decide) ?_
        cases h
        subst hx
        exact PW.iret (v := (0 : Int32)) dX11_wind_32 rfl (narZ (Or.inl rfl)) (Nat.le_refl 0) (Nat.le_refl 0)
/-! X11_lies -/
def f_X11_lies (a0 : Int32) (a1 : Int32) (s : cS) : (Int32 × cS) :=
  if (wB a0 (0 : Int32) (100000 : Int32)) = 0 then
    ((-1 : Int32), s)
  else
    if (wB a1 (0 : Int32) (1000 : Int32)) = 0 then
      ((-1 : Int32), s)
    else
      if (f_X0_size s) < (10 : Int32) then
        tb (f_X0_add a0 a1 s) fun r7 s8 =>
        (r7, s8)
      else
        ((-1 : Int32), s)
set_option maxRecDepth 20000 in
set_option maxHeartbeats 4000000 in
theorem p_X11_lies {g : pG} {l : Launch} {a0 : Int32} {a1 : Int32} {s : cS} {q : Int32 × cS} (h : f_X11_lies a0 a1 s = q) : PM g l 3 M_X11_lies [.ref 0, .int a0, .int a1] (tS s) (some (.int q.1)) (tS q.2) 0 0 := by
  refine PM.of (by decide +kernel) (Nat.le_of_ble_eq_true rfl) ?_
  show PW g l (pRoom 3 0 0) M_X11_lies _ 0 [(0, .ref 0), (1, .int a0), (2, .int a1)] [] (tS s) 0 0
  unfold f_X11_lies at h
  generalize hF : pE g (some (.int q.1)) (tS q.2) 0 0 = F
  have hx := hF.symm
  refine PW.iload_n 1 1 dX11_lies_0 rfl rfl ?_
  refine PW.iconst (v := 0) dX11_lies_1 (by decide) ?_
  refine PW.ldc dX11_lies_2 kL_X11_193 ?_
  refine CW.callSi (st := []) [.int a0, .int (0 : Int32), .int (100000 : Int32)] dX11_lies_4 (ps_within rfl) MS_X11_within mL_X11_94 rfl rfl (Nat.le_of_ble_eq_true rfl) (by first | decide | omega) ?_
  refine PW.if_eq (tgt := 33) dX11_lies_7 (by decide) (fun c2 => ?_) (fun c2 => ?_)
  · replace h := ifp h c2
    refine PW.iconst (v := (-1)) dX11_lies_33 (by decide) ?_
    cases h
    subst hx
    exact PW.iret (v := (-1 : Int32)) dX11_lies_34 rfl rfl (Nat.le_refl 0) (Nat.le_refl 0)
  · replace h := ifn h c2
    refine PW.iload_n 2 2 dX11_lies_10 rfl rfl ?_
    refine PW.iconst (v := 0) dX11_lies_11 (by decide) ?_
    refine PW.sipush (v := 1000) dX11_lies_12 (by decide) ?_
    refine CW.callSi (st := []) [.int a1, .int (0 : Int32), .int (1000 : Int32)] dX11_lies_15 (ps_within rfl) MS_X11_within mL_X11_94 rfl rfl (Nat.le_of_ble_eq_true rfl) (by first | decide | omega) ?_
    refine PW.if_eq (tgt := 33) dX11_lies_18 (by decide) (fun c4 => ?_) (fun c4 => ?_)
    · replace h := ifp h c4
      refine PW.iconst (v := (-1)) dX11_lies_33 (by decide) ?_
      cases h
      subst hx
      exact PW.iret (v := (-1 : Int32)) dX11_lies_34 rfl rfl (Nat.le_refl 0) (Nat.le_refl 0)
    · replace h := ifn h c4
      refine PW.aload_n 0 0 dX11_lies_21 rfl rfl rfl ?_
      refine CW.getr dX11_lies_22 fL_X11_80 LA_0 (Or.inl ⟨_, rfl⟩) rfl ?_
      refine CW.callVi (ci := 0) (st := []) [] dX11_lies_25 (p_X0_size rfl) MV_X0_size mL_X11_304 (by decide) rfl LA_162 rfl rfl (Nat.le_of_ble_eq_true rfl) (by first | decide | omega) ?_
      refine PW.bipush (v := 10) dX11_lies_28 (by decide) ?_
      refine PW.icmp_lt (tgt := 35) dX11_lies_30 (by decide) (fun c6 => ?_) (fun c6 => ?_)
      · replace h := ifp h c6
        refine PW.aload_n 0 0 dX11_lies_35 rfl rfl rfl ?_
        refine CW.getr dX11_lies_36 fL_X11_80 LA_0 (Or.inl ⟨_, rfl⟩) rfl ?_
        refine PW.iload_n 1 1 dX11_lies_39 rfl rfl ?_
        refine PW.iload_n 2 2 dX11_lies_40 rfl rfl ?_
        obtain ⟨r7, s8, q9, h⟩ := tbnd h
        refine CW.callVi (ci := 0) (st := []) [.int a0, .int a1] dX11_lies_41 (p_X0_add q9) MV_X0_add mL_X11_305 (by decide) rfl LA_162 rfl rfl (Nat.le_of_ble_eq_true rfl) (by first | decide | omega) ?_
        cases h
        subst hx
        exact PW.iret (v := r7) dX11_lies_44 rfl rfl (Nat.le_refl 0) (Nat.le_refl 0)
      · replace h := ifn h c6
        refine PW.iconst (v := (-1)) dX11_lies_33 (by decide) ?_
        cases h
        subst hx
        exact PW.iret (v := (-1 : Int32)) dX11_lies_34 rfl rfl (Nat.le_refl 0) (Nat.le_refl 0)
/-! X11_span -/
def f_X11_span (N : Nat) (a0 : Int32) (a1 : Int32) (s : cS) : Option (Int32 × cS) :=
  if (f_X0_has a0 s) = 0 then
    some (((-1 : Int32), s))
  else
    if (wB a1 (0 : Int32) (1 : Int32)) = 0 then
      some (((-1 : Int32), s))
    else
      if a1 = 0 then
        ob (f_X0_earliest N a0 s) fun r9 s10 =>
        some ((r9, s10))
      else
        ob (f_X0_latest N a0 s) fun r6 s7 =>
        some ((r6, s7))
set_option maxRecDepth 20000 in
set_option maxHeartbeats 4000000 in
theorem p_X11_span {g : pG} {l : Launch} {N : Nat} {a0 : Int32} {a1 : Int32} {s : cS} {q : Int32 × cS} (h : f_X11_span N a0 a1 s = some q) : PM g l 4 M_X11_span [.ref 0, .int a0, .int a1] (tS s) (some (.int q.1)) (tS q.2) 0 0 := by
  refine PM.of (by decide +kernel) (Nat.le_of_ble_eq_true rfl) ?_
  show PW g l (pRoom 4 0 0) M_X11_span _ 0 [(0, .ref 0), (1, .int a0), (2, .int a1)] [] (tS s) 0 0
  unfold f_X11_span at h
  generalize hF : pE g (some (.int q.1)) (tS q.2) 0 0 = F
  have hx := hF.symm
  refine PW.aload_n 0 0 dX11_span_0 rfl rfl rfl ?_
  refine CW.getr dX11_span_1 fL_X11_80 LA_0 (Or.inl ⟨_, rfl⟩) rfl ?_
  refine PW.iload_n 1 1 dX11_span_4 rfl rfl ?_
  refine CW.callVi (ci := 0) (st := []) [.int a0] dX11_span_5 (p_X0_has rfl) MV_X0_has mL_X11_308 (by decide) rfl LA_162 rfl rfl (Nat.le_of_ble_eq_true rfl) (by first | decide | omega) ?_
  refine PW.if_eq (tgt := 20) dX11_span_8 (by decide) (fun c2 => ?_) (fun c2 => ?_)
  · replace h := ifp h c2
    refine PW.iconst (v := (-1)) dX11_span_20 (by decide) ?_
    cases h
    subst hx
    exact PW.iret (v := (-1 : Int32)) dX11_span_21 rfl rfl (Nat.le_refl 0) (Nat.le_refl 0)
  · replace h := ifn h c2
    refine PW.iload_n 2 2 dX11_span_11 rfl rfl ?_
    refine PW.iconst (v := 0) dX11_span_12 (by decide) ?_
    refine PW.iconst (v := 1) dX11_span_13 (by decide) ?_
    refine CW.callSi (st := []) [.int a1, .int (0 : Int32), .int (1 : Int32)] dX11_span_14 (ps_within rfl) MS_X11_within mL_X11_94 rfl rfl (Nat.le_of_ble_eq_true rfl) (by first | decide | omega) ?_
    refine PW.if_ne (tgt := 22) dX11_span_17 (by decide) (fun c4 => ?_) (fun c4 => ?_)
    · replace h := ifn h c4
      refine PW.iload_n 2 2 dX11_span_22 rfl rfl ?_
      refine PW.if_ne (tgt := 37) dX11_span_23 (by decide) (fun c5 => ?_) (fun c5 => ?_)
      · replace h := ifn h c5
        refine PW.aload_n 0 0 dX11_span_37 rfl rfl rfl ?_
        refine CW.getr dX11_span_38 fL_X11_80 LA_0 (Or.inl ⟨_, rfl⟩) rfl ?_
        refine PW.iload_n 1 1 dX11_span_41 rfl rfl ?_
        obtain ⟨r6, s7, q8, h⟩ := obnd h
        refine CW.callVi (ci := 0) (st := []) [.int a0] dX11_span_42 (p_X0_latest q8) MV_X0_latest mL_X11_312 (by decide) rfl LA_162 rfl rfl (Nat.le_of_ble_eq_true rfl) (by first | decide | omega) ?_
        cases h
        subst hx
        exact PW.iret (v := r6) dX11_span_45 rfl rfl (Nat.le_refl 0) (Nat.le_refl 0)
      · replace h := ifp h c5
        refine PW.aload_n 0 0 dX11_span_26 rfl rfl rfl ?_
        refine CW.getr dX11_span_27 fL_X11_80 LA_0 (Or.inl ⟨_, rfl⟩) rfl ?_
        refine PW.iload_n 1 1 dX11_span_30 rfl rfl ?_
        obtain ⟨r9, s10, q11, h⟩ := obnd h
        refine CW.callVi (ci := 0) (st := []) [.int a0] dX11_span_31 (p_X0_earliest q11) MV_X0_earliest mL_X11_309 (by decide) rfl LA_162 rfl rfl (Nat.le_of_ble_eq_true rfl) (by first | decide | omega) ?_
        refine PW.goto (tgt := 45) dX11_span_34 (by decide) ?_
        cases h
        subst hx
        exact PW.iret (v := r9) dX11_span_45 rfl rfl (Nat.le_refl 0) (Nat.le_refl 0)
    · replace h := ifp h c4
      refine PW.iconst (v := (-1)) dX11_span_20 (by decide) ?_
      cases h
      subst hx
      exact PW.iret (v := (-1 : Int32)) dX11_span_21 rfl rfl (Nat.le_refl 0) (Nat.le_refl 0)
/-! X11_order -/
def f_X11_order (N : Nat) (a0 : Int32) (a1 : Int32) (s : cS) : Option (Int32 × cS) :=
  if (f_X0_has a0 s) = 0 then
    some (((-1 : Int32), s))
  else
    if (f_X0_has a1 s) = 0 then
      some (((-1 : Int32), s))
    else
      ob (f_X0_compare N a0 a1 s) fun r5 s6 =>
      some ((r5, s6))
set_option maxRecDepth 20000 in
set_option maxHeartbeats 4000000 in
theorem p_X11_order {g : pG} {l : Launch} {N : Nat} {a0 : Int32} {a1 : Int32} {s : cS} {q : Int32 × cS} (h : f_X11_order N a0 a1 s = some q) : PM g l 4 M_X11_order [.ref 0, .int a0, .int a1] (tS s) (some (.int q.1)) (tS q.2) 0 0 := by
  refine PM.of (by decide +kernel) (Nat.le_of_ble_eq_true rfl) ?_
  show PW g l (pRoom 4 0 0) M_X11_order _ 0 [(0, .ref 0), (1, .int a0), (2, .int a1)] [] (tS s) 0 0
  unfold f_X11_order at h
  generalize hF : pE g (some (.int q.1)) (tS q.2) 0 0 = F
  have hx := hF.symm
  refine PW.aload_n 0 0 dX11_order_0 rfl rfl rfl ?_
  refine CW.getr dX11_order_1 fL_X11_80 LA_0 (Or.inl ⟨_, rfl⟩) rfl ?_
  refine PW.iload_n 1 1 dX11_order_4 rfl rfl ?_
  refine CW.callVi (ci := 0) (st := []) [.int a0] dX11_order_5 (p_X0_has rfl) MV_X0_has mL_X11_308 (by decide) rfl LA_162 rfl rfl (Nat.le_of_ble_eq_true rfl) (by first | decide | omega) ?_
  refine PW.if_eq (tgt := 34) dX11_order_8 (by decide) (fun c2 => ?_) (fun c2 => ?_)
  · replace h := ifp h c2
    refine PW.iconst (v := (-1)) dX11_order_34 (by decide) ?_
    cases h
    subst hx
    exact PW.iret (v := (-1 : Int32)) dX11_order_35 rfl rfl (Nat.le_refl 0) (Nat.le_refl 0)
  · replace h := ifn h c2
    refine PW.aload_n 0 0 dX11_order_11 rfl rfl rfl ?_
    refine CW.getr dX11_order_12 fL_X11_80 LA_0 (Or.inl ⟨_, rfl⟩) rfl ?_
    refine PW.iload_n 2 2 dX11_order_15 rfl rfl ?_
    refine CW.callVi (ci := 0) (st := []) [.int a1] dX11_order_16 (p_X0_has rfl) MV_X0_has mL_X11_308 (by decide) rfl LA_162 rfl rfl (Nat.le_of_ble_eq_true rfl) (by first | decide | omega) ?_
    refine PW.if_eq (tgt := 34) dX11_order_19 (by decide) (fun c4 => ?_) (fun c4 => ?_)
    · replace h := ifp h c4
      refine PW.iconst (v := (-1)) dX11_order_34 (by decide) ?_
      cases h
      subst hx
      exact PW.iret (v := (-1 : Int32)) dX11_order_35 rfl rfl (Nat.le_refl 0) (Nat.le_refl 0)
    · replace h := ifn h c4
      refine PW.aload_n 0 0 dX11_order_22 rfl rfl rfl ?_
      refine CW.getr dX11_order_23 fL_X11_80 LA_0 (Or.inl ⟨_, rfl⟩) rfl ?_
      refine PW.iload_n 1 1 dX11_order_26 rfl rfl ?_
      refine PW.iload_n 2 2 dX11_order_27 rfl rfl ?_
      obtain ⟨r5, s6, q7, h⟩ := obnd h
      refine CW.callVi (ci := 0) (st := []) [.int a0, .int a1] dX11_order_28 (p_X0_compare q7) MV_X0_compare mL_X11_315 (by decide) rfl LA_162 rfl rfl (Nat.le_of_ble_eq_true rfl) (by first | decide | omega) ?_
      refine PW.goto (tgt := 35) dX11_order_31 (by decide) ?_
      cases h
      subst hx
      exact PW.iret (v := r5) dX11_order_35 rfl rfl (Nat.le_refl 0) (Nat.le_refl 0)
/-! X11_cell -/
def f_X11_cell (a0 : Int32) (a1 : Int32) (a2 : Int32) (s : cS) : (Int32 × cS) :=
  if (f_X7_has a0 s) = 0 then
    ((0 : Int32), s)
  else
    if (wB a1 (0 : Int32) (39 : Int32)) = 0 then
      ((0 : Int32), s)
    else
      if (wB a2 (0 : Int32) (100 : Int32)) = 0 then
        ((0 : Int32), s)
      else
        tb (f_X7_weigh a0 a1 a2 s) fun r7 s8 =>
        ((1 : Int32), s8)
set_option maxRecDepth 20000 in
set_option maxHeartbeats 4000000 in
theorem p_X11_cell {g : pG} {l : Launch} {a0 : Int32} {a1 : Int32} {a2 : Int32} {s : cS} {q : Int32 × cS} (h : f_X11_cell a0 a1 a2 s = q) : PM g l 3 M_X11_cell [.ref 0, .int a0, .int a1, .int a2] (tS s) (some (.int q.1)) (tS q.2) 0 0 := by
  refine PM.of (by decide +kernel) (Nat.le_of_ble_eq_true rfl) ?_
  show PW g l (pRoom 3 0 0) M_X11_cell _ 0 [(0, .ref 0), (1, .int a0), (2, .int a1), (3, .int a2)] [] (tS s) 0 0
  unfold f_X11_cell at h
  generalize hF : pE g (some (.int q.1)) (tS q.2) 0 0 = F
  have hx := hF.symm
  refine PW.aload_n 0 0 dX11_cell_0 rfl rfl rfl ?_
  refine CW.getr dX11_cell_1 fL_X11_73 LA_0 (Or.inl ⟨_, rfl⟩) rfl ?_
  refine PW.iload_n 1 1 dX11_cell_4 rfl rfl ?_
  refine CW.callVi (ci := 7) (st := []) [.int a0] dX11_cell_5 (p_X7_has rfl) MV_X7_has mL_X11_283 (by decide) rfl LA_154 rfl rfl (Nat.le_of_ble_eq_true rfl) (by first | decide | omega) ?_
  refine PW.if_eq (tgt := 31) dX11_cell_8 (by decide) (fun c2 => ?_) (fun c2 => ?_)
  · replace h := ifp h c2
    refine PW.iconst (v := 0) dX11_cell_31 (by decide) ?_
    cases h
    subst hx
    exact PW.iret (v := (0 : Int32)) dX11_cell_32 rfl (narZ (Or.inl rfl)) (Nat.le_refl 0) (Nat.le_refl 0)
  · replace h := ifn h c2
    refine PW.iload_n 2 2 dX11_cell_11 rfl rfl ?_
    refine PW.iconst (v := 0) dX11_cell_12 (by decide) ?_
    refine PW.bipush (v := 39) dX11_cell_13 (by decide) ?_
    refine CW.callSi (st := []) [.int a1, .int (0 : Int32), .int (39 : Int32)] dX11_cell_15 (ps_within rfl) MS_X11_within mL_X11_94 rfl rfl (Nat.le_of_ble_eq_true rfl) (by first | decide | omega) ?_
    refine PW.if_eq (tgt := 31) dX11_cell_18 (by decide) (fun c4 => ?_) (fun c4 => ?_)
    · replace h := ifp h c4
      refine PW.iconst (v := 0) dX11_cell_31 (by decide) ?_
      cases h
      subst hx
      exact PW.iret (v := (0 : Int32)) dX11_cell_32 rfl (narZ (Or.inl rfl)) (Nat.le_refl 0) (Nat.le_refl 0)
    · replace h := ifn h c4
      refine PW.iload_n 3 3 dX11_cell_21 rfl rfl ?_
      refine PW.iconst (v := 0) dX11_cell_22 (by decide) ?_
      refine PW.bipush (v := 100) dX11_cell_23 (by decide) ?_
      refine CW.callSi (st := []) [.int a2, .int (0 : Int32), .int (100 : Int32)] dX11_cell_25 (ps_within rfl) MS_X11_within mL_X11_94 rfl rfl (Nat.le_of_ble_eq_true rfl) (by first | decide | omega) ?_
      refine PW.if_ne (tgt := 33) dX11_cell_28 (by decide) (fun c6 => ?_) (fun c6 => ?_)
      · replace h := ifn h c6
        refine PW.aload_n 0 0 dX11_cell_33 rfl rfl rfl ?_
        refine CW.getr dX11_cell_34 fL_X11_73 LA_0 (Or.inl ⟨_, rfl⟩) rfl ?_
        refine PW.iload_n 1 1 dX11_cell_37 rfl rfl ?_
        refine PW.iload_n 2 2 dX11_cell_38 rfl rfl ?_
        refine PW.iload_n 3 3 dX11_cell_39 rfl rfl ?_
        obtain ⟨r7, s8, q9, h⟩ := tbnd h
        refine CW.callVv (ci := 7) (st := []) [.int a0, .int a1, .int a2] dX11_cell_40 (p_X7_weigh q9) MV_X7_weigh mL_X11_318 (by decide) rfl LA_154 rfl rfl (Nat.le_of_ble_eq_true rfl) (by first | decide | omega) ?_
        refine PW.iconst (v := 1) dX11_cell_43 (by decide) ?_
        cases h
        subst hx
        exact PW.iret (v := (1 : Int32)) dX11_cell_44 rfl (narZ (Or.inr rfl)) (Nat.le_refl 0) (Nat.le_refl 0)
      · replace h := ifp h c6
        refine PW.iconst (v := 0) dX11_cell_31 (by decide) ?_
        cases h
        subst hx
        exact PW.iret (v := (0 : Int32)) dX11_cell_32 rfl (narZ (Or.inl rfl)) (Nat.le_refl 0) (Nat.le_refl 0)
/-! X11_nets -/
def f_X11_nets (N : Nat) (a0 : Int32) (a1 : Int32) (a2 : Int32) (s : cS) : Option (Int64 × cS) :=
  if (wB a0 (1 : Int32) (4 : Int32)) = 0 then
    some (((-1 : Int64), s))
  else
    if (wB a1 (1 : Int32) (10 : Int32)) = 0 then
      some (((-1 : Int64), s))
    else
      if (40 : Int32) < (a0 * a1) then
        some (((-1 : Int64), s))
      else
        if (wB a2 (-1 : Int32) (a0 - (1 : Int32))) = 0 then
          some (((-1 : Int64), s))
        else
          ob (f_X7_castNets N a0 a1 s) fun r8 s9 =>
          if a2 = (-1 : Int32) then
            some ((r8, s9))
          else
            some (((f_X7_net a2 s9).toInt64, s9))
set_option maxRecDepth 20000 in
set_option maxHeartbeats 4000000 in
theorem p_X11_nets {g : pG} {l : Launch} {N : Nat} {a0 : Int32} {a1 : Int32} {a2 : Int32} {s : cS} {q : Int64 × cS} (h : f_X11_nets N a0 a1 a2 s = some q) : PM g l 6 M_X11_nets [.ref 0, .int a0, .int a1, .int a2] (tS s) (some (.long q.1)) (tS q.2) 0 0 := by
  refine PM.of (by decide +kernel) (Nat.le_of_ble_eq_true rfl) ?_
  show PW g l (pRoom 6 0 0) M_X11_nets _ 0 [(0, .ref 0), (1, .int a0), (2, .int a1), (3, .int a2)] [] (tS s) 0 0
  unfold f_X11_nets at h
  generalize hF : pE g (some (.long q.1)) (tS q.2) 0 0 = F
  have hx := hF.symm
  refine PW.iload_n 1 1 dX11_nets_0 rfl rfl ?_
  refine PW.iconst (v := 1) dX11_nets_1 (by decide) ?_
  refine PW.iconst (v := 4) dX11_nets_2 (by decide) ?_
  refine CW.callSi (st := []) [.int a0, .int (1 : Int32), .int (4 : Int32)] dX11_nets_3 (ps_within rfl) MS_X11_within mL_X11_94 rfl rfl (Nat.le_of_ble_eq_true rfl) (by first | decide | omega) ?_
  refine PW.if_eq (tgt := 38) dX11_nets_6 (by decide) (fun c2 => ?_) (fun c2 => ?_)
  · replace h := ifp h c2
    refine PW.ldc2_w dX11_nets_38 kL_X11_215 ?_
    cases h
    subst hx
    exact PW.lret dX11_nets_41 rfl (Nat.le_refl 0) (Nat.le_refl 0)
  · replace h := ifn h c2
    refine PW.iload_n 2 2 dX11_nets_9 rfl rfl ?_
    refine PW.iconst (v := 1) dX11_nets_10 (by decide) ?_
    refine PW.bipush (v := 10) dX11_nets_11 (by decide) ?_
    refine CW.callSi (st := []) [.int a1, .int (1 : Int32), .int (10 : Int32)] dX11_nets_13 (ps_within rfl) MS_X11_within mL_X11_94 rfl rfl (Nat.le_of_ble_eq_true rfl) (by first | decide | omega) ?_
    refine PW.if_eq (tgt := 38) dX11_nets_16 (by decide) (fun c4 => ?_) (fun c4 => ?_)
    · replace h := ifp h c4
      refine PW.ldc2_w dX11_nets_38 kL_X11_215 ?_
      cases h
      subst hx
      exact PW.lret dX11_nets_41 rfl (Nat.le_refl 0) (Nat.le_refl 0)
    · replace h := ifn h c4
      refine PW.iload_n 1 1 dX11_nets_19 rfl rfl ?_
      refine PW.iload_n 2 2 dX11_nets_20 rfl rfl ?_
      refine PW.imul dX11_nets_21 ?_
      refine PW.bipush (v := 40) dX11_nets_22 (by decide) ?_
      refine PW.icmp_gt (tgt := 38) dX11_nets_24 (by decide) (fun c5 => ?_) (fun c5 => ?_)
      · replace h := ifp h c5
        refine PW.ldc2_w dX11_nets_38 kL_X11_215 ?_
        cases h
        subst hx
        exact PW.lret dX11_nets_41 rfl (Nat.le_refl 0) (Nat.le_refl 0)
      · replace h := ifn h c5
        refine PW.iload_n 3 3 dX11_nets_27 rfl rfl ?_
        refine PW.iconst (v := (-1)) dX11_nets_28 (by decide) ?_
        refine PW.iload_n 1 1 dX11_nets_29 rfl rfl ?_
        refine PW.iconst (v := 1) dX11_nets_30 (by decide) ?_
        refine PW.isub dX11_nets_31 ?_
        refine CW.callSi (st := []) [.int a2, .int (-1 : Int32), .int (a0 - (1 : Int32))] dX11_nets_32 (ps_within rfl) MS_X11_within mL_X11_94 rfl rfl (Nat.le_of_ble_eq_true rfl) (by first | decide | omega) ?_
        refine PW.if_ne (tgt := 42) dX11_nets_35 (by decide) (fun c7 => ?_) (fun c7 => ?_)
        · replace h := ifn h c7
          refine PW.aload_n 0 0 dX11_nets_42 rfl rfl rfl ?_
          refine CW.getr dX11_nets_43 fL_X11_73 LA_0 (Or.inl ⟨_, rfl⟩) rfl ?_
          refine PW.iload_n 1 1 dX11_nets_46 rfl rfl ?_
          refine PW.iload_n 2 2 dX11_nets_47 rfl rfl ?_
          obtain ⟨r8, s9, q10, h⟩ := obnd h
          refine CW.callVl (ci := 7) (st := []) [.int a0, .int a1] dX11_nets_48 (p_X7_castNets q10) MV_X7_castNets mL_X11_321 (by decide) rfl LA_154 rfl rfl (Nat.le_of_ble_eq_true rfl) (by first | decide | omega) ?_
          refine PW.lstore dX11_nets_51 (Nat.le_of_ble_eq_true rfl) rfl ?_
          refine PW.iload_n 4 3 dX11_nets_53 rfl rfl ?_
          refine PW.iconst (v := (-1)) dX11_nets_54 (by decide) ?_
          refine PW.icmp_ne (tgt := 63) dX11_nets_55 (by decide) (fun c11 => ?_) (fun c11 => ?_)
          · replace h := ifn h c11
            refine PW.aload_n 1 0 dX11_nets_63 rfl rfl rfl ?_
            refine CW.getr dX11_nets_64 fL_X11_73 LA_0 (Or.inl ⟨_, rfl⟩) rfl ?_
            refine PW.iload_n 4 3 dX11_nets_67 rfl rfl ?_
            refine CW.callVi (ci := 7) (st := []) [.int a2] dX11_nets_68 (p_X7_net rfl) MV_X7_net mL_X11_324 (by decide) rfl LA_154 rfl rfl (Nat.le_of_ble_eq_true rfl) (by first | decide | omega) ?_
            refine PW.i2l dX11_nets_71 ?_
            cases h
            subst hx
            exact PW.lret dX11_nets_72 rfl (Nat.le_refl 0) (Nat.le_refl 0)
          · replace h := ifp h c11
            refine PW.lload 0 dX11_nets_58 rfl ?_
            refine PW.goto (tgt := 72) dX11_nets_60 (by decide) ?_
            cases h
            subst hx
            exact PW.lret dX11_nets_72 rfl (Nat.le_refl 0) (Nat.le_refl 0)
        · replace h := ifp h c7
          refine PW.ldc2_w dX11_nets_38 kL_X11_215 ?_
          cases h
          subst hx
          exact PW.lret dX11_nets_41 rfl (Nat.le_refl 0) (Nat.le_refl 0)
/-! X11_fly -/
def f_X11_fly (N : Nat) (a0 : Int32) (a1 : Int32) (a2 : Int32) (a3 : Int32) (a4 : Int32) (s : cS) : Option (Int32 × cS) :=
  ob (f_X11_programOf a0 s) fun r1 s2 =>
  if (wB a2 (0 : Int32) (200 : Int32)) = 0 then
    some (((-1 : Int32), s2))
  else
    if (wB a3 (0 : Int32) (1000000 : Int32)) = 0 then
      some (((-1 : Int32), s2))
    else
      if (wB a4 (0 : Int32) (1000 : Int32)) = 0 then
        some (((-1 : Int32), s2))
      else
        ob (f_X11_canFly r1 a1 a2 s2) fun r10 s11 =>
        if r10 = 0 then
          some (((-1 : Int32), s11))
        else
          ob (f_X11_pullsOf r1 s11) fun r15 s16 =>
          ob (f_X5_prepare N (f_X1_every s11) a0 r1 a1 (r15 + a2) s16) fun r18 s19 =>
          ob (f_X11_pullsOf r1 s19) fun r21 s22 =>
          ob (f_X5_cheapestFlights N r21 a2 a3 a4 s22) fun r24 s25 =>
          some ((r24, s25))
set_option maxRecDepth 20000 in
set_option maxHeartbeats 4000000 in
theorem p_X11_fly {g : pG} {l : Launch} {N : Nat} {a0 : Int32} {a1 : Int32} {a2 : Int32} {a3 : Int32} {a4 : Int32} {s : cS} {q : Int32 × cS} (h : f_X11_fly N a0 a1 a2 a3 a4 s = some q) : PM g l 8 M_X11_fly [.ref 0, .int a0, .int a1, .int a2, .int a3, .int a4] (tS s) (some (.int q.1)) (tS q.2) 0 0 := by
  refine PM.of (by decide +kernel) (Nat.le_of_ble_eq_true rfl) ?_
  show PW g l (pRoom 8 0 0) M_X11_fly _ 0 [(0, .ref 0), (1, .int a0), (2, .int a1), (3, .int a2), (4, .int a3), (5, .int a4)] [] (tS s) 0 0
  unfold f_X11_fly at h
  generalize hF : pE g (some (.int q.1)) (tS q.2) 0 0 = F
  have hx := hF.symm
  refine PW.aload_n 0 0 dX11_fly_0 rfl rfl rfl ?_
  refine PW.iload_n 1 1 dX11_fly_1 rfl rfl ?_
  obtain ⟨r1, s2, q3, h⟩ := obnd h
  refine CW.callVr (ci := 11) (st := []) [.int a0] dX11_fly_2 (p_X11_programOf q3) MV_X11_programOf mL_X11_152 (by decide) rfl LA_0 rfl rfl (Nat.le_of_ble_eq_true rfl) (by first | decide | omega) ?_
  refine PW.astore dX11_fly_5 (Nat.le_of_ble_eq_true rfl) rfl (isA_rf _) ?_
  refine PW.iload_n 4 3 dX11_fly_7 rfl rfl ?_
  refine PW.iconst (v := 0) dX11_fly_8 (by decide) ?_
  refine PW.sipush (v := 200) dX11_fly_9 (by decide) ?_
  refine CW.callSi (st := []) [.int a2, .int (0 : Int32), .int (200 : Int32)] dX11_fly_12 (ps_within rfl) MS_X11_within mL_X11_94 rfl rfl (Nat.le_of_ble_eq_true rfl) (by first | decide | omega) ?_
  refine PW.if_eq (tgt := 41) dX11_fly_15 (by decide) (fun c5 => ?_) (fun c5 => ?_)
  · replace h := ifp h c5
    refine PW.iconst (v := (-1)) dX11_fly_41 (by decide) ?_
    cases h
    subst hx
    exact PW.iret (v := (-1 : Int32)) dX11_fly_42 rfl rfl (Nat.le_refl 0) (Nat.le_refl 0)
  · replace h := ifn h c5
    refine PW.iload 5 dX11_fly_18 rfl ?_
    refine PW.iconst (v := 0) dX11_fly_20 (by decide) ?_
    refine PW.ldc dX11_fly_21 kL_X11_111 ?_
    refine CW.callSi (st := []) [.int a3, .int (0 : Int32), .int (1000000 : Int32)] dX11_fly_23 (ps_within rfl) MS_X11_within mL_X11_94 rfl rfl (Nat.le_of_ble_eq_true rfl) (by first | decide | omega) ?_
    refine PW.if_eq (tgt := 41) dX11_fly_26 (by decide) (fun c7 => ?_) (fun c7 => ?_)
    · replace h := ifp h c7
      refine PW.iconst (v := (-1)) dX11_fly_41 (by decide) ?_
      cases h
      subst hx
      exact PW.iret (v := (-1 : Int32)) dX11_fly_42 rfl rfl (Nat.le_refl 0) (Nat.le_refl 0)
    · replace h := ifn h c7
      refine PW.iload 6 dX11_fly_29 rfl ?_
      refine PW.iconst (v := 0) dX11_fly_31 (by decide) ?_
      refine PW.sipush (v := 1000) dX11_fly_32 (by decide) ?_
      refine CW.callSi (st := []) [.int a4, .int (0 : Int32), .int (1000 : Int32)] dX11_fly_35 (ps_within rfl) MS_X11_within mL_X11_94 rfl rfl (Nat.le_of_ble_eq_true rfl) (by first | decide | omega) ?_
      refine PW.if_ne (tgt := 43) dX11_fly_38 (by decide) (fun c9 => ?_) (fun c9 => ?_)
      · replace h := ifn h c9
        refine PW.aload 0 dX11_fly_43 rfl (isA_rf _) ?_
        refine PW.iload_n 3 2 dX11_fly_45 rfl rfl ?_
        refine PW.iload_n 4 3 dX11_fly_46 rfl rfl ?_
        obtain ⟨r10, s11, q12, h⟩ := obnd h
        refine CW.callSi (st := []) [va_rf r1, .int a1, .int a2] dX11_fly_47 (p_X11_canFly q12) MS_X11_canFly mL_X11_211 rfl rfl (Nat.le_of_ble_eq_true rfl) (by first | decide | omega) ?_
        refine PW.if_ne (tgt := 55) dX11_fly_50 (by decide) (fun c13 => ?_) (fun c13 => ?_)
        · replace h := ifn h c13
          refine PW.aload_n 1 0 dX11_fly_55 rfl rfl rfl ?_
          refine CW.getr dX11_fly_56 fL_X11_59 LA_0 (Or.inl ⟨_, rfl⟩) rfl ?_
          refine PW.aload_n 1 0 dX11_fly_59 rfl rfl rfl ?_
          refine CW.getr dX11_fly_60 fL_X11_19 LA_0 (Or.inl ⟨_, rfl⟩) rfl ?_
          refine CW.callVi (ci := 1) (st := [.ref 116]) [] dX11_fly_63 (p_X1_every rfl) MV_X1_every mL_X11_217 (by decide) rfl LA_3 rfl rfl (Nat.le_of_ble_eq_true rfl) (by first | decide | omega) ?_
          refine PW.iload_n 2 1 dX11_fly_66 rfl rfl ?_
          refine PW.aload 0 dX11_fly_67 rfl (isA_rf _) ?_
          refine PW.iload_n 3 2 dX11_fly_69 rfl rfl ?_
          refine PW.aload 0 dX11_fly_70 rfl (isA_rf _) ?_
          obtain ⟨r15, s16, q17, h⟩ := obnd h
          refine CW.callSi (st := [.int a1, va_rf r1, .int a0, .int (f_X1_every s11), .ref 116]) [va_rf r1] dX11_fly_72 (p_X11_pullsOf q17) MS_X11_pullsOf mL_X11_224 rfl rfl (by cases r1 <;> exact Nat.le_of_ble_eq_true rfl) (by first | decide | omega) ?_
          refine PW.iload_n 4 3 dX11_fly_75 rfl rfl ?_
          refine PW.iadd dX11_fly_76 ?_
          obtain ⟨r18, s19, q20, h⟩ := obnd h
          refine CW.callVv (ci := 5) (st := []) [.int (f_X1_every s11), .int a0, va_rf r1, .int a1, .int (r15 + a2)] dX11_fly_77 (p_X5_prepare q20) MV_X5_prepare mL_X11_228 (by decide) rfl LA_116 rfl rfl (Nat.le_of_ble_eq_true rfl) (by first | decide | omega) ?_
          refine PW.aload_n 1 0 dX11_fly_80 rfl rfl rfl ?_
          refine CW.getr dX11_fly_81 fL_X11_59 LA_0 (Or.inl ⟨_, rfl⟩) rfl ?_
          refine PW.aload 0 dX11_fly_84 rfl (isA_rf _) ?_
          obtain ⟨r21, s22, q23, h⟩ := obnd h
          refine CW.callSi (st := [.ref 116]) [va_rf r1] dX11_fly_86 (p_X11_pullsOf q23) MS_X11_pullsOf mL_X11_224 rfl rfl (Nat.le_of_ble_eq_true rfl) (by first | decide | omega) ?_
          refine PW.iload_n 4 3 dX11_fly_89 rfl rfl ?_
          refine PW.iload 5 dX11_fly_90 rfl ?_
          refine PW.iload 6 dX11_fly_92 rfl ?_
          obtain ⟨r24, s25, q26, h⟩ := obnd h
          refine CW.callVi (ci := 5) (st := []) [.int r21, .int a2, .int a3, .int a4] dX11_fly_94 (p_X5_cheapestFlights q26) MV_X5_cheapestFlights mL_X11_327 (by decide) rfl LA_116 rfl rfl (Nat.le_of_ble_eq_true rfl) (by first | decide | omega) ?_
          cases h
          subst hx
          exact PW.iret (v := r24) dX11_fly_97 rfl rfl (Nat.le_refl 0) (Nat.le_refl 0)
        · replace h := ifp h c13
          refine PW.iconst (v := (-1)) dX11_fly_53 (by decide) ?_
          cases h
          subst hx
          exact PW.iret (v := (-1 : Int32)) dX11_fly_54 rfl rfl (Nat.le_refl 0) (Nat.le_refl 0)
      · replace h := ifp h c9
        refine PW.iconst (v := (-1)) dX11_fly_41 (by decide) ?_
        cases h
        subst hx
        exact PW.iret (v := (-1 : Int32)) dX11_fly_42 rfl rfl (Nat.le_refl 0) (Nat.le_refl 0)
/-! X11_check -/
def f_X11_check (N : Nat) (a0 : Int32) (a1 : Int32) (s : cS) : Option (Int32 × cS) :=
  if (f_X2_has a0 s) = 0 then
    some (((-2 : Int32), s))
  else
    if a1 < 0 then
      some (((-2 : Int32), s))
    else
      if a1 ≤ ((f_X9_size s) / (12 : Int32)) then
        ob (f_X2_firstWrong N a0 a1 s) fun r6 s7 =>
        tb (f_X9_clear s7) fun r9 s10 =>
        some ((r6, s10))
      else
        some (((-2 : Int32), s))
set_option maxRecDepth 20000 in
set_option maxHeartbeats 4000000 in
theorem p_X11_check {g : pG} {l : Launch} {N : Nat} {a0 : Int32} {a1 : Int32} {s : cS} {q : Int32 × cS} (h : f_X11_check N a0 a1 s = some q) : PM g l 4 M_X11_check [.ref 0, .int a0, .int a1] (tS s) (some (.int q.1)) (tS q.2) 0 0 := by
  refine PM.of (by decide +kernel) (Nat.le_of_ble_eq_true rfl) ?_
  show PW g l (pRoom 4 0 0) M_X11_check _ 0 [(0, .ref 0), (1, .int a0), (2, .int a1)] [] (tS s) 0 0
  unfold f_X11_check at h
  generalize hF : pE g (some (.int q.1)) (tS q.2) 0 0 = F
  have hx := hF.symm
  refine PW.aload_n 0 0 dX11_check_0 rfl rfl rfl ?_
  refine CW.getr dX11_check_1 fL_X11_52 LA_0 (Or.inl ⟨_, rfl⟩) rfl ?_
  refine PW.iload_n 1 1 dX11_check_4 rfl rfl ?_
  refine CW.callVi (ci := 2) (st := []) [.int a0] dX11_check_5 (p_X2_has rfl) MV_X2_has mL_X11_187 (by decide) rfl LA_32 rfl rfl (Nat.le_of_ble_eq_true rfl) (by first | decide | omega) ?_
  refine PW.if_eq (tgt := 29) dX11_check_8 (by decide) (fun c2 => ?_) (fun c2 => ?_)
  · replace h := ifp h c2
    refine PW.bipush (v := (-2)) dX11_check_29 (by decide) ?_
    cases h
    subst hx
    exact PW.iret (v := (-2 : Int32)) dX11_check_31 rfl rfl (Nat.le_refl 0) (Nat.le_refl 0)
  · replace h := ifn h c2
    refine PW.iload_n 2 2 dX11_check_11 rfl rfl ?_
    refine PW.if_lt (tgt := 29) dX11_check_12 (by decide) (fun c3 => ?_) (fun c3 => ?_)
    · replace h := ifp h c3
      refine PW.bipush (v := (-2)) dX11_check_29 (by decide) ?_
      cases h
      subst hx
      exact PW.iret (v := (-2 : Int32)) dX11_check_31 rfl rfl (Nat.le_refl 0) (Nat.le_refl 0)
    · replace h := ifn h c3
      refine PW.iload_n 2 2 dX11_check_15 rfl rfl ?_
      refine PW.aload_n 0 0 dX11_check_16 rfl rfl rfl ?_
      refine CW.getr dX11_check_17 fL_X11_10 LA_0 (Or.inl ⟨_, rfl⟩) rfl ?_
      refine CW.callVi (ci := 9) (st := [.int a1]) [] dX11_check_20 (p_X9_size rfl) MV_X9_size mL_X11_126 (by decide) rfl LA_1 rfl rfl (Nat.le_of_ble_eq_true rfl) (by first | decide | omega) ?_
      refine PW.bipush (v := 12) dX11_check_23 (by decide) ?_
      refine PW.idiv dX11_check_25 (by decide) ?_
      refine PW.icmp_le (tgt := 32) dX11_check_26 (by decide) (fun c5 => ?_) (fun c5 => ?_)
      · replace h := ifp h c5
        refine PW.aload_n 0 0 dX11_check_32 rfl rfl rfl ?_
        refine CW.getr dX11_check_33 fL_X11_52 LA_0 (Or.inl ⟨_, rfl⟩) rfl ?_
        refine PW.iload_n 1 1 dX11_check_36 rfl rfl ?_
        refine PW.iload_n 2 2 dX11_check_37 rfl rfl ?_
        refine PW.aload_n 0 0 dX11_check_38 rfl rfl rfl ?_
        refine CW.getr dX11_check_39 fL_X11_10 LA_0 (Or.inl ⟨_, rfl⟩) rfl ?_
        obtain ⟨r6, s7, q8, h⟩ := obnd h
        refine CW.callVi (ci := 2) (st := []) [.int a0, .int a1, .ref 1] dX11_check_42 (p_X2_firstWrong q8) MV_X2_firstWrong mL_X11_330 (by decide) rfl LA_32 rfl rfl (Nat.le_of_ble_eq_true rfl) (by first | decide | omega) ?_
        refine PW.istore_n dX11_check_45 rfl (Nat.le_of_ble_eq_true rfl) rfl ?_
        refine PW.aload_n 1 0 dX11_check_46 rfl rfl rfl ?_
        refine CW.getr dX11_check_47 fL_X11_10 LA_0 (Or.inl ⟨_, rfl⟩) rfl ?_
        obtain ⟨r9, s10, q11, h⟩ := tbnd h
        refine CW.callVv (ci := 9) (st := []) [] dX11_check_50 (p_X9_clear q11) MV_X9_clear mL_X11_136 (by decide) rfl LA_1 rfl rfl (Nat.le_of_ble_eq_true rfl) (by first | decide | omega) ?_
        refine PW.iload_n 0 3 dX11_check_53 rfl rfl ?_
        cases h
        subst hx
        exact PW.iret (v := r6) dX11_check_54 rfl rfl (Nat.le_refl 0) (Nat.le_refl 0)
      · replace h := ifn h c5
        refine PW.bipush (v := (-2)) dX11_check_29 (by decide) ?_
        cases h
        subst hx
        exact PW.iret (v := (-2 : Int32)) dX11_check_31 rfl rfl (Nat.le_refl 0) (Nat.le_refl 0)
/-! X11_countOfOne -/
def j_X11_countOfOne_37 (x1 : Int32) (s : cS) : Option (Int32 × cS) :=
  if (wB x1 (20 : Int32) (27 : Int32)) = 0 then
    some (((-1 : Int32), s))
  else
    ob (f_X11_programOf (x1 - (20 : Int32)) s) fun r5 s6 =>
    ob (f_X11_pullsOf r5 s6) fun r8 s9 =>
    some ((r8, s9))
set_option maxRecDepth 20000 in
set_option maxHeartbeats 4000000 in
theorem ok_j_X11_countOfOne_37 {g : pG} {l : Launch} {F : pF} {x1 : Int32} {s : cS} {x : (Int32 × cS)} (h : j_X11_countOfOne_37 x1 s = some x) (hx : (fun q => F = pE g (some (.int q.1)) (tS q.2) 0 0) x) : PW g l (pRoom 3 0 0) M_X11_countOfOne F 37 [(0, .ref 0), (1, .int x1)] [] (tS s) 0 0 := by
  unfold j_X11_countOfOne_37 at h
  refine PW.iload_n 1 1 dX11_countOfOne_37 rfl rfl ?_
  refine PW.bipush (v := 20) dX11_countOfOne_38 (by decide) ?_
  refine PW.bipush (v := 27) dX11_countOfOne_40 (by decide) ?_
  refine CW.callSi (st := []) [.int x1, .int (20 : Int32), .int (27 : Int32)] dX11_countOfOne_42 (ps_within rfl) MS_X11_within mL_X11_94 rfl rfl (Nat.le_of_ble_eq_true rfl) (by first | decide | omega) ?_
  refine PW.if_eq (tgt := 60) dX11_countOfOne_45 (by decide) (fun c4 => ?_) (fun c4 => ?_)
  · replace h := ifp h c4
    refine PW.iconst (v := (-1)) dX11_countOfOne_60 (by decide) ?_
    cases h
    subst hx
    exact PW.iret (v := (-1 : Int32)) dX11_countOfOne_61 rfl rfl (Nat.le_refl 0) (Nat.le_refl 0)
  · replace h := ifn h c4
    refine PW.aload_n 0 0 dX11_countOfOne_48 rfl rfl rfl ?_
    refine PW.iload_n 1 1 dX11_countOfOne_49 rfl rfl ?_
    refine PW.bipush (v := 20) dX11_countOfOne_50 (by decide) ?_
    refine PW.isub dX11_countOfOne_52 ?_
    obtain ⟨r5, s6, q7, h⟩ := obnd h
    refine CW.callVr (ci := 11) (st := []) [.int (x1 - (20 : Int32))] dX11_countOfOne_53 (p_X11_programOf q7) MV_X11_programOf mL_X11_152 (by decide) rfl LA_0 rfl rfl (Nat.le_of_ble_eq_true rfl) (by first | decide | omega) ?_
    obtain ⟨r8, s9, q10, h⟩ := obnd h
    refine CW.callSi (st := []) [va_rf r5] dX11_countOfOne_56 (p_X11_pullsOf q10) MS_X11_pullsOf mL_X11_224 rfl rfl (Nat.le_of_ble_eq_true rfl) (by first | decide | omega) ?_
    cases h
    subst hx
    exact PW.iret (v := r8) dX11_countOfOne_59 rfl rfl (Nat.le_refl 0) (Nat.le_refl 0)
def f_X11_countOfOne (a0 : Int32) (s : cS) : Option (Int32 × cS) :=
  if (wB a0 (10 : Int32) (17 : Int32)) = 0 then
    j_X11_countOfOne_37 a0 s
  else
    if (f_X1_has (a0 - (10 : Int32)) s) = 0 then
      j_X11_countOfOne_37 a0 s
    else
      some (((f_X1_livesOf (a0 - (10 : Int32)) s), s))
set_option maxRecDepth 20000 in
set_option maxHeartbeats 4000000 in
theorem p_X11_countOfOne {g : pG} {l : Launch} {a0 : Int32} {s : cS} {q : Int32 × cS} (h : f_X11_countOfOne a0 s = some q) : PM g l 3 M_X11_countOfOne [.ref 0, .int a0] (tS s) (some (.int q.1)) (tS q.2) 0 0 := by
  refine PM.of (by decide +kernel) (Nat.le_of_ble_eq_true rfl) ?_
  show PW g l (pRoom 3 0 0) M_X11_countOfOne _ 0 [(0, .ref 0), (1, .int a0)] [] (tS s) 0 0
  unfold f_X11_countOfOne at h
  generalize hF : pE g (some (.int q.1)) (tS q.2) 0 0 = F
  have hx := hF.symm
  refine PW.iload_n 1 1 dX11_countOfOne_0 rfl rfl ?_
  refine PW.bipush (v := 10) dX11_countOfOne_1 (by decide) ?_
  refine PW.bipush (v := 17) dX11_countOfOne_3 (by decide) ?_
  refine CW.callSi (st := []) [.int a0, .int (10 : Int32), .int (17 : Int32)] dX11_countOfOne_5 (ps_within rfl) MS_X11_within mL_X11_94 rfl rfl (Nat.le_of_ble_eq_true rfl) (by first | decide | omega) ?_
  refine PW.if_eq (tgt := 37) dX11_countOfOne_8 (by decide) (fun c2 => ?_) (fun c2 => ?_)
  · replace h := ifp h c2
    exact PW.pick [0, 1] rfl (ok_j_X11_countOfOne_37 h hx)
  · replace h := ifn h c2
    refine PW.aload_n 0 0 dX11_countOfOne_11 rfl rfl rfl ?_
    refine CW.getr dX11_countOfOne_12 fL_X11_19 LA_0 (Or.inl ⟨_, rfl⟩) rfl ?_
    refine PW.iload_n 1 1 dX11_countOfOne_15 rfl rfl ?_
    refine PW.bipush (v := 10) dX11_countOfOne_16 (by decide) ?_
    refine PW.isub dX11_countOfOne_18 ?_
    refine CW.callVi (ci := 1) (st := []) [.int (a0 - (10 : Int32))] dX11_countOfOne_19 (p_X1_has rfl) MV_X1_has mL_X11_107 (by decide) rfl LA_3 rfl rfl (Nat.le_of_ble_eq_true rfl) (by first | decide | omega) ?_
    refine PW.if_eq (tgt := 37) dX11_countOfOne_22 (by decide) (fun c12 => ?_) (fun c12 => ?_)
    · replace h := ifp h c12
      exact PW.pick [0, 1] rfl (ok_j_X11_countOfOne_37 h hx)
    · replace h := ifn h c12
      refine PW.aload_n 0 0 dX11_countOfOne_25 rfl rfl rfl ?_
      refine CW.getr dX11_countOfOne_26 fL_X11_19 LA_0 (Or.inl ⟨_, rfl⟩) rfl ?_
      refine PW.iload_n 1 1 dX11_countOfOne_29 rfl rfl ?_
      refine PW.bipush (v := 10) dX11_countOfOne_30 (by decide) ?_
      refine PW.isub dX11_countOfOne_32 ?_
      refine CW.callVi (ci := 1) (st := []) [.int (a0 - (10 : Int32))] dX11_countOfOne_33 (p_X1_livesOf rfl) MV_X1_livesOf mL_X11_112 (by decide) rfl LA_3 rfl rfl (Nat.le_of_ble_eq_true rfl) (by first | decide | omega) ?_
      cases h
      subst hx
      exact PW.iret (v := (f_X1_livesOf (a0 - (10 : Int32)) s)) dX11_countOfOne_36 rfl rfl (Nat.le_refl 0) (Nat.le_refl 0)
/-! X11_count -/
def f_X11_count (a0 : Int32) (s : cS) : Option (Int32 × cS) :=
  if a0 = 0 then
    some (((f_X1_size s), s))
  else
  if a0 = 1 then
    some (((f_X2_size s), s))
  else
  if a0 = 2 then
    some (((f_X10_size s), s))
  else
  if a0 = 3 then
    some (((f_X7_size s), s))
  else
  if a0 = 4 then
    some (((f_X7_finds s), s))
  else
  if a0 = 5 then
    some (((f_X0_size s), s))
  else
  if a0 = 6 then
    if kd s.1.1 3 then
    some (((f_X3_clauses s.1.1 s), s))
    else none
  else
  if a0 = 7 then
    some (((f_X9_size s), s))
  else
  ob (f_X11_countOfOne a0 s) fun r1 s2 =>
  some ((r1, s2))
set_option maxRecDepth 20000 in
set_option maxHeartbeats 4000000 in
theorem p_X11_count {g : pG} {l : Launch} {a0 : Int32} {s : cS} {q : Int32 × cS} (h : f_X11_count a0 s = some q) : PM g l 4 M_X11_count [.ref 0, .int a0] (tS s) (some (.int q.1)) (tS q.2) 0 0 := by
  refine PM.of (by decide +kernel) (Nat.le_of_ble_eq_true rfl) ?_
  show PW g l (pRoom 4 0 0) M_X11_count _ 0 [(0, .ref 0), (1, .int a0)] [] (tS s) 0 0
  unfold f_X11_count at h
  generalize hF : pE g (some (.int q.1)) (tS q.2) 0 0 = F
  have hx := hF.symm
  refine PW.iload_n 1 1 dX11_count_0 rfl rfl ?_
  by_cases c14 : a0 = 0
  · replace h := ifp h c14
    refine PW.tswI (off := 47) (tgt := 48) dX11_count_1 (by rw [c14]; decide) (by rw [c14]; decide) (by rw [c14]; first | rfl | decide) (by decide) ?_
    refine PW.aload_n 0 0 dX11_count_48 rfl rfl rfl ?_
    refine CW.getr dX11_count_49 fL_X11_19 LA_0 (Or.inl ⟨_, rfl⟩) rfl ?_
    refine CW.callVi (ci := 1) (st := []) [] dX11_count_52 (p_X1_size rfl) MV_X1_size mL_X11_98 (by decide) rfl LA_3 rfl rfl (Nat.le_of_ble_eq_true rfl) (by first | decide | omega) ?_
    cases h
    subst hx
    exact PW.iret (v := (f_X1_size s)) dX11_count_55 rfl rfl (Nat.le_refl 0) (Nat.le_refl 0)
  replace h := ifn h c14
  by_cases c15 : a0 = 1
  · replace h := ifp h c15
    refine PW.tswI (off := 55) (tgt := 56) dX11_count_1 (by rw [c15]; decide) (by rw [c15]; decide) (by rw [c15]; first | rfl | decide) (by decide) ?_
    refine PW.aload_n 0 0 dX11_count_56 rfl rfl rfl ?_
    refine CW.getr dX11_count_57 fL_X11_52 LA_0 (Or.inl ⟨_, rfl⟩) rfl ?_
    refine CW.callVi (ci := 2) (st := []) [] dX11_count_60 (p_X2_size rfl) MV_X2_size mL_X11_102 (by decide) rfl LA_32 rfl rfl (Nat.le_of_ble_eq_true rfl) (by first | decide | omega) ?_
    cases h
    subst hx
    exact PW.iret (v := (f_X2_size s)) dX11_count_63 rfl rfl (Nat.le_refl 0) (Nat.le_refl 0)
  replace h := ifn h c15
  by_cases c16 : a0 = 2
  · replace h := ifp h c16
    refine PW.tswI (off := 63) (tgt := 64) dX11_count_1 (by rw [c16]; decide) (by rw [c16]; decide) (by rw [c16]; first | rfl | decide) (by decide) ?_
    refine PW.aload_n 0 0 dX11_count_64 rfl rfl rfl ?_
    refine CW.getr dX11_count_65 fL_X11_66 LA_0 (Or.inl ⟨_, rfl⟩) rfl ?_
    refine CW.callVi (ci := 10) (st := []) [] dX11_count_68 (p_X10_size rfl) MV_X10_size mL_X11_252 (by decide) rfl LA_124 rfl rfl (Nat.le_of_ble_eq_true rfl) (by first | decide | omega) ?_
    cases h
    subst hx
    exact PW.iret (v := (f_X10_size s)) dX11_count_71 rfl rfl (Nat.le_refl 0) (Nat.le_refl 0)
  replace h := ifn h c16
  by_cases c17 : a0 = 3
  · replace h := ifp h c17
    refine PW.tswI (off := 71) (tgt := 72) dX11_count_1 (by rw [c17]; decide) (by rw [c17]; decide) (by rw [c17]; first | rfl | decide) (by decide) ?_
    refine PW.aload_n 0 0 dX11_count_72 rfl rfl rfl ?_
    refine CW.getr dX11_count_73 fL_X11_73 LA_0 (Or.inl ⟨_, rfl⟩) rfl ?_
    refine CW.callVi (ci := 7) (st := []) [] dX11_count_76 (p_X7_size rfl) MV_X7_size mL_X11_272 (by decide) rfl LA_154 rfl rfl (Nat.le_of_ble_eq_true rfl) (by first | decide | omega) ?_
    cases h
    subst hx
    exact PW.iret (v := (f_X7_size s)) dX11_count_79 rfl rfl (Nat.le_refl 0) (Nat.le_refl 0)
  replace h := ifn h c17
  by_cases c18 : a0 = 4
  · replace h := ifp h c18
    refine PW.tswI (off := 79) (tgt := 80) dX11_count_1 (by rw [c18]; decide) (by rw [c18]; decide) (by rw [c18]; first | rfl | decide) (by decide) ?_
    refine PW.aload_n 0 0 dX11_count_80 rfl rfl rfl ?_
    refine CW.getr dX11_count_81 fL_X11_73 LA_0 (Or.inl ⟨_, rfl⟩) rfl ?_
    refine CW.callVi (ci := 7) (st := []) [] dX11_count_84 (p_X7_finds rfl) MV_X7_finds mL_X11_274 (by decide) rfl LA_154 rfl rfl (Nat.le_of_ble_eq_true rfl) (by first | decide | omega) ?_
    cases h
    subst hx
    exact PW.iret (v := (f_X7_finds s)) dX11_count_87 rfl rfl (Nat.le_refl 0) (Nat.le_refl 0)
  replace h := ifn h c18
  by_cases c19 : a0 = 5
  · replace h := ifp h c19
    refine PW.tswI (off := 87) (tgt := 88) dX11_count_1 (by rw [c19]; decide) (by rw [c19]; decide) (by rw [c19]; first | rfl | decide) (by decide) ?_
    refine PW.aload_n 0 0 dX11_count_88 rfl rfl rfl ?_
    refine CW.getr dX11_count_89 fL_X11_80 LA_0 (Or.inl ⟨_, rfl⟩) rfl ?_
    refine CW.callVi (ci := 0) (st := []) [] dX11_count_92 (p_X0_size rfl) MV_X0_size mL_X11_304 (by decide) rfl LA_162 rfl rfl (Nat.le_of_ble_eq_true rfl) (by first | decide | omega) ?_
    cases h
    subst hx
    exact PW.iret (v := (f_X0_size s)) dX11_count_95 rfl rfl (Nat.le_refl 0) (Nat.le_refl 0)
  replace h := ifn h c19
  by_cases c20 : a0 = 6
  · replace h := ifp h c20
    refine PW.tswI (off := 95) (tgt := 96) dX11_count_1 (by rw [c20]; decide) (by rw [c20]; decide) (by rw [c20]; first | rfl | decide) (by decide) ?_
    refine PW.aload_n 0 0 dX11_count_96 rfl rfl rfl ?_
    refine CW.getr dX11_count_97 fL_X11_19 LA_0 (Or.inl ⟨_, rfl⟩) rfl ?_
    refine CW.callVr (ci := 1) (st := []) [] dX11_count_100 (p_X1_lawNow (q := some s.1.1) rfl) MV_X1_lawNow mL_X11_334 (by decide) rfl LA_3 rfl rfl (Nat.le_of_ble_eq_true rfl) (by first | decide | omega) ?_
    by_cases c11 : kd s.1.1 3
    rotate_left
    · have h := ifn h c11; cases h
    replace h := ifp h c11
    refine CW.callVi (ci := 3) (st := []) [] dX11_count_103 (p_X3_clauses c11 rfl) MV_X3_clauses mL_X11_149 (by decide) rfl c11 rfl rfl (Nat.le_of_ble_eq_true rfl) (by first | decide | omega) ?_
    cases h
    subst hx
    exact PW.iret (v := (f_X3_clauses s.1.1 s)) dX11_count_106 rfl rfl (Nat.le_refl 0) (Nat.le_refl 0)
  replace h := ifn h c20
  by_cases c21 : a0 = 7
  · replace h := ifp h c21
    refine PW.tswI (off := 106) (tgt := 107) dX11_count_1 (by rw [c21]; decide) (by rw [c21]; decide) (by rw [c21]; first | rfl | decide) (by decide) ?_
    refine PW.aload_n 0 0 dX11_count_107 rfl rfl rfl ?_
    refine CW.getr dX11_count_108 fL_X11_10 LA_0 (Or.inl ⟨_, rfl⟩) rfl ?_
    refine CW.callVi (ci := 9) (st := []) [] dX11_count_111 (p_X9_size rfl) MV_X9_size mL_X11_126 (by decide) rfl LA_1 rfl rfl (Nat.le_of_ble_eq_true rfl) (by first | decide | omega) ?_
    cases h
    subst hx
    exact PW.iret (v := (f_X9_size s)) dX11_count_114 rfl rfl (Nat.le_refl 0) (Nat.le_refl 0)
  replace h := ifn h c21
  have hout : a0.toInt < 0 ∨ 7 < a0.toInt := sw_out (fun k h1 h2 e => by
    have hk : k = 0 ∨ k = 1 ∨ k = 2 ∨ k = 3 ∨ k = 4 ∨ k = 5 ∨ k = 6 ∨ k = 7 := by omega
    rcases hk with rfl | rfl | rfl | rfl | rfl | rfl | rfl | rfl
    · exact c14 (sw_c e (by decide))
    · exact c15 (sw_c e (by decide))
    · exact c16 (sw_c e (by decide))
    · exact c17 (sw_c e (by decide))
    · exact c18 (sw_c e (by decide))
    · exact c19 (sw_c e (by decide))
    · exact c20 (sw_c e (by decide))
    · exact c21 (sw_c e (by decide)))
  refine PW.tswD (tgt := 115) dX11_count_1 hout (by decide) ?_
  refine PW.aload_n 0 0 dX11_count_115 rfl rfl rfl ?_
  refine PW.iload_n 1 1 dX11_count_116 rfl rfl ?_
  obtain ⟨r1, s2, q3, h⟩ := obnd h
  refine CW.callVi (ci := 11) (st := []) [.int a0] dX11_count_117 (p_X11_countOfOne q3) MV_X11_countOfOne mL_X11_337 (by decide) rfl LA_0 rfl rfl (Nat.le_of_ble_eq_true rfl) (by first | decide | omega) ?_
  cases h
  subst hx
  exact PW.iret (v := r1) dX11_count_120 rfl rfl (Nat.le_refl 0) (Nat.le_refl 0)
