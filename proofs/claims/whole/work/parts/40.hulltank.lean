/-! X11_corner -/
def f_X11_corner (a0 : Int32) (a1 : Int32) (a2 : Int32) (a3 : Int32) (s : cS) : (Int32 × cS) :=
  if (wB a0 (0 : Int32) (3 : Int32)) = 0 then
    ((-1 : Int32), s)
  else
    if (wB a1 (1 : Int32) (50 : Int32)) = 0 then
      ((-1 : Int32), s)
    else
      if (wB a2 (1 : Int32) (50 : Int32)) = 0 then
        ((-1 : Int32), s)
      else
        if (wB a3 (1 : Int32) (10000 : Int32)) = 0 then
          ((-1 : Int32), s)
        else
          if (8 : Int32) ≤ (f_X1_size s) then
            ((-1 : Int32), s)
          else
            if (f_X2_size s) ≤ 0 then
              tb (f_X1_add a0 a1 a2 a3 s) fun r13 s14 =>
              (r13, s14)
            else
              ((-1 : Int32), s)
set_option maxRecDepth 20000 in
set_option maxHeartbeats 4000000 in
theorem p_X11_corner {g : pG} {l : Launch} {a0 : Int32} {a1 : Int32} {a2 : Int32} {a3 : Int32} {s : cS} {q : Int32 × cS} (h : f_X11_corner a0 a1 a2 a3 s = q) : PM g l 3 M_X11_corner [.ref 0, .int a0, .int a1, .int a2, .int a3] (tS s) (some (.int q.1)) (tS q.2) 0 0 := by
  refine PM.of (by decide +kernel) (Nat.le_of_ble_eq_true rfl) ?_
  show PW g l (pRoom 3 0 0) M_X11_corner _ 0 [(0, .ref 0), (1, .int a0), (2, .int a1), (3, .int a2), (4, .int a3)] [] (tS s) 0 0
  unfold f_X11_corner at h
  generalize hF : pE g (some (.int q.1)) (tS q.2) 0 0 = F
  have hx := hF.symm
  refine PW.iload_n 1 1 dX11_corner_0 rfl rfl ?_
  refine PW.iconst (v := 0) dX11_corner_1 (by decide) ?_
  refine PW.iconst (v := 3) dX11_corner_2 (by decide) ?_
  refine CW.callSi (st := []) [.int a0, .int (0 : Int32), .int (3 : Int32)] dX11_corner_3 (ps_within rfl) MS_X11_within mL_X11_94 rfl rfl (Nat.le_of_ble_eq_true rfl) (by first | decide | omega) ?_
  refine PW.if_eq (tgt := 41) dX11_corner_6 (by decide) (fun c2 => ?_) (fun c2 => ?_)
  · replace h := ifp h c2
    refine PW.iconst (v := (-1)) dX11_corner_41 (by decide) ?_
    cases h
    subst hx
    exact PW.iret (v := (-1 : Int32)) dX11_corner_42 rfl rfl (Nat.le_refl 0) (Nat.le_refl 0)
  · replace h := ifn h c2
    refine PW.iload_n 2 2 dX11_corner_9 rfl rfl ?_
    refine PW.iconst (v := 1) dX11_corner_10 (by decide) ?_
    refine PW.bipush (v := 50) dX11_corner_11 (by decide) ?_
    refine CW.callSi (st := []) [.int a1, .int (1 : Int32), .int (50 : Int32)] dX11_corner_13 (ps_within rfl) MS_X11_within mL_X11_94 rfl rfl (Nat.le_of_ble_eq_true rfl) (by first | decide | omega) ?_
    refine PW.if_eq (tgt := 41) dX11_corner_16 (by decide) (fun c4 => ?_) (fun c4 => ?_)
    · replace h := ifp h c4
      refine PW.iconst (v := (-1)) dX11_corner_41 (by decide) ?_
      cases h
      subst hx
      exact PW.iret (v := (-1 : Int32)) dX11_corner_42 rfl rfl (Nat.le_refl 0) (Nat.le_refl 0)
    · replace h := ifn h c4
      refine PW.iload_n 3 3 dX11_corner_19 rfl rfl ?_
      refine PW.iconst (v := 1) dX11_corner_20 (by decide) ?_
      refine PW.bipush (v := 50) dX11_corner_21 (by decide) ?_
      refine CW.callSi (st := []) [.int a2, .int (1 : Int32), .int (50 : Int32)] dX11_corner_23 (ps_within rfl) MS_X11_within mL_X11_94 rfl rfl (Nat.le_of_ble_eq_true rfl) (by first | decide | omega) ?_
      refine PW.if_eq (tgt := 41) dX11_corner_26 (by decide) (fun c6 => ?_) (fun c6 => ?_)
      · replace h := ifp h c6
        refine PW.iconst (v := (-1)) dX11_corner_41 (by decide) ?_
        cases h
        subst hx
        exact PW.iret (v := (-1 : Int32)) dX11_corner_42 rfl rfl (Nat.le_refl 0) (Nat.le_refl 0)
      · replace h := ifn h c6
        refine PW.iload 4 dX11_corner_29 rfl ?_
        refine PW.iconst (v := 1) dX11_corner_31 (by decide) ?_
        refine PW.sipush (v := 10000) dX11_corner_32 (by decide) ?_
        refine CW.callSi (st := []) [.int a3, .int (1 : Int32), .int (10000 : Int32)] dX11_corner_35 (ps_within rfl) MS_X11_within mL_X11_94 rfl rfl (Nat.le_of_ble_eq_true rfl) (by first | decide | omega) ?_
        refine PW.if_ne (tgt := 43) dX11_corner_38 (by decide) (fun c8 => ?_) (fun c8 => ?_)
        · replace h := ifn h c8
          refine PW.aload_n 0 0 dX11_corner_43 rfl rfl rfl ?_
          refine CW.getr dX11_corner_44 fL_X11_19 LA_0 (Or.inl ⟨_, rfl⟩) rfl ?_
          refine CW.callVi (ci := 1) (st := []) [] dX11_corner_47 (p_X1_size rfl) MV_X1_size mL_X11_98 (by decide) rfl LA_3 rfl rfl (Nat.le_of_ble_eq_true rfl) (by first | decide | omega) ?_
          refine PW.bipush (v := 8) dX11_corner_50 (by decide) ?_
          refine PW.icmp_ge (tgt := 65) dX11_corner_52 (by decide) (fun c10 => ?_) (fun c10 => ?_)
          · replace h := ifp h c10
            refine PW.iconst (v := (-1)) dX11_corner_65 (by decide) ?_
            cases h
            subst hx
            exact PW.iret (v := (-1 : Int32)) dX11_corner_66 rfl rfl (Nat.le_refl 0) (Nat.le_refl 0)
          · replace h := ifn h c10
            refine PW.aload_n 0 0 dX11_corner_55 rfl rfl rfl ?_
            refine CW.getr dX11_corner_56 fL_X11_52 LA_0 (Or.inl ⟨_, rfl⟩) rfl ?_
            refine CW.callVi (ci := 2) (st := []) [] dX11_corner_59 (p_X2_size rfl) MV_X2_size mL_X11_102 (by decide) rfl LA_32 rfl rfl (Nat.le_of_ble_eq_true rfl) (by first | decide | omega) ?_
            refine PW.if_le (tgt := 67) dX11_corner_62 (by decide) (fun c12 => ?_) (fun c12 => ?_)
            · replace h := ifp h c12
              refine PW.aload_n 0 0 dX11_corner_67 rfl rfl rfl ?_
              refine CW.getr dX11_corner_68 fL_X11_19 LA_0 (Or.inl ⟨_, rfl⟩) rfl ?_
              refine PW.iload_n 1 1 dX11_corner_71 rfl rfl ?_
              refine PW.iload_n 2 2 dX11_corner_72 rfl rfl ?_
              refine PW.iload_n 3 3 dX11_corner_73 rfl rfl ?_
              refine PW.iload 4 dX11_corner_74 rfl ?_
              obtain ⟨r13, s14, q15, h⟩ := tbnd h
              refine CW.callVi (ci := 1) (st := []) [.int a0, .int a1, .int a2, .int a3] dX11_corner_76 (p_X1_add q15) MV_X1_add mL_X11_103 (by decide) rfl LA_3 rfl rfl (Nat.le_of_ble_eq_true rfl) (by first | decide | omega) ?_
              cases h
              subst hx
              exact PW.iret (v := r13) dX11_corner_79 rfl rfl (Nat.le_refl 0) (Nat.le_refl 0)
            · replace h := ifn h c12
              refine PW.iconst (v := (-1)) dX11_corner_65 (by decide) ?_
              cases h
              subst hx
              exact PW.iret (v := (-1 : Int32)) dX11_corner_66 rfl rfl (Nat.le_refl 0) (Nat.le_refl 0)
        · replace h := ifp h c8
          refine PW.iconst (v := (-1)) dX11_corner_41 (by decide) ?_
          cases h
          subst hx
          exact PW.iret (v := (-1 : Int32)) dX11_corner_42 rfl rfl (Nat.le_refl 0) (Nat.le_refl 0)
/-! X11_life -/
def f_X11_life (a0 : Int32) (a1 : Int32) (a2 : Int32) (s : cS) : (Int32 × cS) :=
  if (f_X1_has a0 s) = 0 then
    ((-1 : Int32), s)
  else
    if (wB a1 (1 : Int32) (1000000 : Int32)) = 0 then
      ((-1 : Int32), s)
    else
      if (wB a2 (1 : Int32) (5 : Int32)) = 0 then
        ((-1 : Int32), s)
      else
        if (4 : Int32) ≤ (f_X1_livesOf a0 s) then
          ((-1 : Int32), s)
        else
          if (f_X2_size s) ≤ 0 then
            tb (f_X1_addLife a0 a1 a2 s) fun r11 s12 =>
            (r11, s12)
          else
            ((-1 : Int32), s)
set_option maxRecDepth 20000 in
set_option maxHeartbeats 4000000 in
theorem p_X11_life {g : pG} {l : Launch} {a0 : Int32} {a1 : Int32} {a2 : Int32} {s : cS} {q : Int32 × cS} (h : f_X11_life a0 a1 a2 s = q) : PM g l 4 M_X11_life [.ref 0, .int a0, .int a1, .int a2] (tS s) (some (.int q.1)) (tS q.2) 0 0 := by
  refine PM.of (by decide +kernel) (Nat.le_of_ble_eq_true rfl) ?_
  show PW g l (pRoom 4 0 0) M_X11_life _ 0 [(0, .ref 0), (1, .int a0), (2, .int a1), (3, .int a2)] [] (tS s) 0 0
  unfold f_X11_life at h
  generalize hF : pE g (some (.int q.1)) (tS q.2) 0 0 = F
  have hx := hF.symm
  refine PW.aload_n 0 0 dX11_life_0 rfl rfl rfl ?_
  refine CW.getr dX11_life_1 fL_X11_19 LA_0 (Or.inl ⟨_, rfl⟩) rfl ?_
  refine PW.iload_n 1 1 dX11_life_4 rfl rfl ?_
  refine CW.callVi (ci := 1) (st := []) [.int a0] dX11_life_5 (p_X1_has rfl) MV_X1_has mL_X11_107 (by decide) rfl LA_3 rfl rfl (Nat.le_of_ble_eq_true rfl) (by first | decide | omega) ?_
  refine PW.if_eq (tgt := 30) dX11_life_8 (by decide) (fun c2 => ?_) (fun c2 => ?_)
  · replace h := ifp h c2
    refine PW.iconst (v := (-1)) dX11_life_30 (by decide) ?_
    cases h
    subst hx
    exact PW.iret (v := (-1 : Int32)) dX11_life_31 rfl rfl (Nat.le_refl 0) (Nat.le_refl 0)
  · replace h := ifn h c2
    refine PW.iload_n 2 2 dX11_life_11 rfl rfl ?_
    refine PW.iconst (v := 1) dX11_life_12 (by decide) ?_
    refine PW.ldc dX11_life_13 kL_X11_111 ?_
    refine CW.callSi (st := []) [.int a1, .int (1 : Int32), .int (1000000 : Int32)] dX11_life_15 (ps_within rfl) MS_X11_within mL_X11_94 rfl rfl (Nat.le_of_ble_eq_true rfl) (by first | decide | omega) ?_
    refine PW.if_eq (tgt := 30) dX11_life_18 (by decide) (fun c4 => ?_) (fun c4 => ?_)
    · replace h := ifp h c4
      refine PW.iconst (v := (-1)) dX11_life_30 (by decide) ?_
      cases h
      subst hx
      exact PW.iret (v := (-1 : Int32)) dX11_life_31 rfl rfl (Nat.le_refl 0) (Nat.le_refl 0)
    · replace h := ifn h c4
      refine PW.iload_n 3 3 dX11_life_21 rfl rfl ?_
      refine PW.iconst (v := 1) dX11_life_22 (by decide) ?_
      refine PW.iconst (v := 5) dX11_life_23 (by decide) ?_
      refine CW.callSi (st := []) [.int a2, .int (1 : Int32), .int (5 : Int32)] dX11_life_24 (ps_within rfl) MS_X11_within mL_X11_94 rfl rfl (Nat.le_of_ble_eq_true rfl) (by first | decide | omega) ?_
      refine PW.if_ne (tgt := 32) dX11_life_27 (by decide) (fun c6 => ?_) (fun c6 => ?_)
      · replace h := ifn h c6
        refine PW.aload_n 0 0 dX11_life_32 rfl rfl rfl ?_
        refine CW.getr dX11_life_33 fL_X11_19 LA_0 (Or.inl ⟨_, rfl⟩) rfl ?_
        refine PW.iload_n 1 1 dX11_life_36 rfl rfl ?_
        refine CW.callVi (ci := 1) (st := []) [.int a0] dX11_life_37 (p_X1_livesOf rfl) MV_X1_livesOf mL_X11_112 (by decide) rfl LA_3 rfl rfl (Nat.le_of_ble_eq_true rfl) (by first | decide | omega) ?_
        refine PW.iconst (v := 4) dX11_life_40 (by decide) ?_
        refine PW.icmp_ge (tgt := 54) dX11_life_41 (by decide) (fun c8 => ?_) (fun c8 => ?_)
        · replace h := ifp h c8
          refine PW.iconst (v := (-1)) dX11_life_54 (by decide) ?_
          cases h
          subst hx
          exact PW.iret (v := (-1 : Int32)) dX11_life_55 rfl rfl (Nat.le_refl 0) (Nat.le_refl 0)
        · replace h := ifn h c8
          refine PW.aload_n 0 0 dX11_life_44 rfl rfl rfl ?_
          refine CW.getr dX11_life_45 fL_X11_52 LA_0 (Or.inl ⟨_, rfl⟩) rfl ?_
          refine CW.callVi (ci := 2) (st := []) [] dX11_life_48 (p_X2_size rfl) MV_X2_size mL_X11_102 (by decide) rfl LA_32 rfl rfl (Nat.le_of_ble_eq_true rfl) (by first | decide | omega) ?_
          refine PW.if_le (tgt := 56) dX11_life_51 (by decide) (fun c10 => ?_) (fun c10 => ?_)
          · replace h := ifp h c10
            refine PW.aload_n 0 0 dX11_life_56 rfl rfl rfl ?_
            refine CW.getr dX11_life_57 fL_X11_19 LA_0 (Or.inl ⟨_, rfl⟩) rfl ?_
            refine PW.iload_n 1 1 dX11_life_60 rfl rfl ?_
            refine PW.iload_n 2 2 dX11_life_61 rfl rfl ?_
            refine PW.iload_n 3 3 dX11_life_62 rfl rfl ?_
            obtain ⟨r11, s12, q13, h⟩ := tbnd h
            refine CW.callVi (ci := 1) (st := []) [.int a0, .int a1, .int a2] dX11_life_63 (p_X1_addLife q13) MV_X1_addLife mL_X11_116 (by decide) rfl LA_3 rfl rfl (Nat.le_of_ble_eq_true rfl) (by first | decide | omega) ?_
            cases h
            subst hx
            exact PW.iret (v := r11) dX11_life_66 rfl rfl (Nat.le_refl 0) (Nat.le_refl 0)
          · replace h := ifn h c10
            refine PW.iconst (v := (-1)) dX11_life_54 (by decide) ?_
            cases h
            subst hx
            exact PW.iret (v := (-1 : Int32)) dX11_life_55 rfl rfl (Nat.le_refl 0) (Nat.le_refl 0)
      · replace h := ifp h c6
        refine PW.iconst (v := (-1)) dX11_life_30 (by decide) ?_
        cases h
        subst hx
        exact PW.iret (v := (-1 : Int32)) dX11_life_31 rfl rfl (Nat.le_refl 0) (Nat.le_refl 0)
/-! X11_feed -/
def f_X11_feed (N : Nat) (a0 : Int32) (a1 : Int32) (a2 : Int32) (a3 : Int32) (a4 : Int32) (s : cS) : Option (Int32 × cS) :=
  if (f_X9_hasRoomFor (20 : Int32) s) = 0 then
    some (((-1 : Int32), s))
  else
    ob (f_X9_add N a0 s) fun r3 s4 =>
    ob (f_X9_add N a1 s4) fun r6 s7 =>
    ob (f_X9_add N a2 s7) fun r9 s10 =>
    ob (f_X9_add N a3 s10) fun r12 s13 =>
    ob (f_X9_add N a4 s13) fun r15 s16 =>
    some (((f_X9_size s16), s16))
set_option maxRecDepth 20000 in
set_option maxHeartbeats 4000000 in
theorem p_X11_feed {g : pG} {l : Launch} {N : Nat} {a0 : Int32} {a1 : Int32} {a2 : Int32} {a3 : Int32} {a4 : Int32} {s : cS} {q : Int32 × cS} (h : f_X11_feed N a0 a1 a2 a3 a4 s = some q) : PM g l 3 M_X11_feed [.ref 0, .int a0, .int a1, .int a2, .int a3, .int a4] (tS s) (some (.int q.1)) (tS q.2) 0 0 := by
  refine PM.of (by decide +kernel) (Nat.le_of_ble_eq_true rfl) ?_
  show PW g l (pRoom 3 0 0) M_X11_feed _ 0 [(0, .ref 0), (1, .int a0), (2, .int a1), (3, .int a2), (4, .int a3), (5, .int a4)] [] (tS s) 0 0
  unfold f_X11_feed at h
  generalize hF : pE g (some (.int q.1)) (tS q.2) 0 0 = F
  have hx := hF.symm
  refine PW.aload_n 0 0 dX11_feed_0 rfl rfl rfl ?_
  refine CW.getr dX11_feed_1 fL_X11_10 LA_0 (Or.inl ⟨_, rfl⟩) rfl ?_
  refine PW.bipush (v := 20) dX11_feed_4 (by decide) ?_
  refine CW.callVi (ci := 9) (st := []) [.int (20 : Int32)] dX11_feed_6 (p_X9_hasRoomFor rfl) MV_X9_hasRoomFor mL_X11_120 (by decide) rfl LA_1 rfl rfl (Nat.le_of_ble_eq_true rfl) (by first | decide | omega) ?_
  refine PW.if_ne (tgt := 14) dX11_feed_9 (by decide) (fun c2 => ?_) (fun c2 => ?_)
  · replace h := ifn h c2
    refine PW.aload_n 0 0 dX11_feed_14 rfl rfl rfl ?_
    refine CW.getr dX11_feed_15 fL_X11_10 LA_0 (Or.inl ⟨_, rfl⟩) rfl ?_
    refine PW.iload_n 1 1 dX11_feed_18 rfl rfl ?_
    obtain ⟨r3, s4, q5, h⟩ := obnd h
    refine CW.callVv (ci := 9) (st := []) [.int a0] dX11_feed_19 (p_X9_add q5) MV_X9_add mL_X11_123 (by decide) rfl LA_1 rfl rfl (Nat.le_of_ble_eq_true rfl) (by first | decide | omega) ?_
    refine PW.aload_n 0 0 dX11_feed_22 rfl rfl rfl ?_
    refine CW.getr dX11_feed_23 fL_X11_10 LA_0 (Or.inl ⟨_, rfl⟩) rfl ?_
    refine PW.iload_n 2 2 dX11_feed_26 rfl rfl ?_
    obtain ⟨r6, s7, q8, h⟩ := obnd h
    refine CW.callVv (ci := 9) (st := []) [.int a1] dX11_feed_27 (p_X9_add q8) MV_X9_add mL_X11_123 (by decide) rfl LA_1 rfl rfl (Nat.le_of_ble_eq_true rfl) (by first | decide | omega) ?_
    refine PW.aload_n 0 0 dX11_feed_30 rfl rfl rfl ?_
    refine CW.getr dX11_feed_31 fL_X11_10 LA_0 (Or.inl ⟨_, rfl⟩) rfl ?_
    refine PW.iload_n 3 3 dX11_feed_34 rfl rfl ?_
    obtain ⟨r9, s10, q11, h⟩ := obnd h
    refine CW.callVv (ci := 9) (st := []) [.int a2] dX11_feed_35 (p_X9_add q11) MV_X9_add mL_X11_123 (by decide) rfl LA_1 rfl rfl (Nat.le_of_ble_eq_true rfl) (by first | decide | omega) ?_
    refine PW.aload_n 0 0 dX11_feed_38 rfl rfl rfl ?_
    refine CW.getr dX11_feed_39 fL_X11_10 LA_0 (Or.inl ⟨_, rfl⟩) rfl ?_
    refine PW.iload 4 dX11_feed_42 rfl ?_
    obtain ⟨r12, s13, q14, h⟩ := obnd h
    refine CW.callVv (ci := 9) (st := []) [.int a3] dX11_feed_44 (p_X9_add q14) MV_X9_add mL_X11_123 (by decide) rfl LA_1 rfl rfl (Nat.le_of_ble_eq_true rfl) (by first | decide | omega) ?_
    refine PW.aload_n 0 0 dX11_feed_47 rfl rfl rfl ?_
    refine CW.getr dX11_feed_48 fL_X11_10 LA_0 (Or.inl ⟨_, rfl⟩) rfl ?_
    refine PW.iload 5 dX11_feed_51 rfl ?_
    obtain ⟨r15, s16, q17, h⟩ := obnd h
    refine CW.callVv (ci := 9) (st := []) [.int a4] dX11_feed_53 (p_X9_add q17) MV_X9_add mL_X11_123 (by decide) rfl LA_1 rfl rfl (Nat.le_of_ble_eq_true rfl) (by first | decide | omega) ?_
    refine PW.aload_n 0 0 dX11_feed_56 rfl rfl rfl ?_
    refine CW.getr dX11_feed_57 fL_X11_10 LA_0 (Or.inl ⟨_, rfl⟩) rfl ?_
    refine CW.callVi (ci := 9) (st := []) [] dX11_feed_60 (p_X9_size rfl) MV_X9_size mL_X11_126 (by decide) rfl LA_1 rfl rfl (Nat.le_of_ble_eq_true rfl) (by first | decide | omega) ?_
    cases h
    subst hx
    exact PW.iret (v := (f_X9_size s16)) dX11_feed_63 rfl rfl (Nat.le_refl 0) (Nat.le_refl 0)
  · replace h := ifp h c2
    refine PW.iconst (v := (-1)) dX11_feed_12 (by decide) ?_
    cases h
    subst hx
    exact PW.iret (v := (-1 : Int32)) dX11_feed_13 rfl rfl (Nat.le_refl 0) (Nat.le_refl 0)
/-! X11_law -/
def f_X11_law (N : Nat) (a0 : Int32) (s : cS) : Option (Int32 × cS) :=
  if (wB a0 (1 : Int32) (160 : Int32)) = 0 then
    some (((-1 : Int32), s))
  else
    if a0 ≤ (f_X9_size s) then
      tb (f_X9_open a0 s) fun r6 s7 =>
      if kd s.1.2.1 3 then
      ob (F_read N s.1.2.1 s7) fun r10 s11 =>
      tb (f_X9_clear s11) fun r13 s14 =>
      if (f_X9_sound s14) = 0 then
        some (((f_X9_faultTold s14), s14))
      else
        tb (f_X1_takeSpareLaw s14) fun r18 s19 =>
        some (((f_X3_clauses s.1.2.1 s19), s19))
      else none
    else
      some (((-1 : Int32), s))
set_option maxRecDepth 20000 in
set_option maxHeartbeats 4000000 in
theorem p_X11_law {g : pG} {l : Launch} {N : Nat} {a0 : Int32} {s : cS} {q : Int32 × cS} (h : f_X11_law N a0 s = some q) : PM g l 87 M_X11_law [.ref 0, .int a0] (tS s) (some (.int q.1)) (tS q.2) 0 0 := by
  refine PM.of (by decide +kernel) (Nat.le_of_ble_eq_true rfl) ?_
  show PW g l (pRoom 87 0 0) M_X11_law _ 0 [(0, .ref 0), (1, .int a0)] [] (tS s) 0 0
  unfold f_X11_law at h
  generalize hF : pE g (some (.int q.1)) (tS q.2) 0 0 = F
  have hx := hF.symm
  refine PW.iload_n 1 1 dX11_law_0 rfl rfl ?_
  refine PW.iconst (v := 1) dX11_law_1 (by decide) ?_
  refine PW.sipush (v := 160) dX11_law_2 (by decide) ?_
  refine CW.callSi (st := []) [.int a0, .int (1 : Int32), .int (160 : Int32)] dX11_law_5 (ps_within rfl) MS_X11_within mL_X11_94 rfl rfl (Nat.le_of_ble_eq_true rfl) (by first | decide | omega) ?_
  refine PW.if_eq (tgt := 22) dX11_law_8 (by decide) (fun c2 => ?_) (fun c2 => ?_)
  · replace h := ifp h c2
    refine PW.iconst (v := (-1)) dX11_law_22 (by decide) ?_
    cases h
    subst hx
    exact PW.iret (v := (-1 : Int32)) dX11_law_23 rfl rfl (Nat.le_refl 0) (Nat.le_refl 0)
  · replace h := ifn h c2
    refine PW.iload_n 1 1 dX11_law_11 rfl rfl ?_
    refine PW.aload_n 0 0 dX11_law_12 rfl rfl rfl ?_
    refine CW.getr dX11_law_13 fL_X11_10 LA_0 (Or.inl ⟨_, rfl⟩) rfl ?_
    refine CW.callVi (ci := 9) (st := [.int a0]) [] dX11_law_16 (p_X9_size rfl) MV_X9_size mL_X11_126 (by decide) rfl LA_1 rfl rfl (Nat.le_of_ble_eq_true rfl) (by first | decide | omega) ?_
    refine PW.icmp_le (tgt := 24) dX11_law_19 (by decide) (fun c4 => ?_) (fun c4 => ?_)
    · replace h := ifp h c4
      refine PW.aload_n 0 0 dX11_law_24 rfl rfl rfl ?_
      refine CW.getr dX11_law_25 fL_X11_19 LA_0 (Or.inl ⟨_, rfl⟩) rfl ?_
      refine CW.callVr (ci := 1) (st := []) [] dX11_law_28 (p_X1_spareLaw (q := some s.1.2.1) rfl) MV_X1_spareLaw mL_X11_25 (by decide) rfl LA_3 rfl rfl (Nat.le_of_ble_eq_true rfl) (by first | decide | omega) ?_
      refine PW.astore_n dX11_law_31 rfl (Nat.le_of_ble_eq_true rfl) rfl rfl ?_
      refine PW.aload_n 1 0 dX11_law_32 rfl rfl rfl ?_
      refine CW.getr dX11_law_33 fL_X11_10 LA_0 (Or.inl ⟨_, rfl⟩) rfl ?_
      refine PW.iload_n 2 1 dX11_law_36 rfl rfl ?_
      obtain ⟨r6, s7, q8, h⟩ := tbnd h
      refine CW.callVv (ci := 9) (st := []) [.int a0] dX11_law_37 (p_X9_open q8) MV_X9_open mL_X11_129 (by decide) rfl LA_1 rfl rfl (Nat.le_of_ble_eq_true rfl) (by first | decide | omega) ?_
      refine PW.aload_n 1 0 dX11_law_40 rfl rfl rfl ?_
      refine CW.getr dX11_law_41 fL_X11_32 LA_0 (Or.inl ⟨_, rfl⟩) rfl ?_
      refine PW.aload_n 0 2 dX11_law_44 rfl rfl rfl ?_
      by_cases c9 : kd s.1.2.1 3
      rotate_left
      · have h := ifn h c9; cases h
      replace h := ifp h c9
      obtain ⟨r10, s11, q12, h⟩ := obnd h
      refine CW.callVv (ci := 4) (st := []) [.ref s.1.2.1] dX11_law_45 (pF_read c9 q12) MV_X4_read mL_X11_132 (by decide) rfl LA_27 rfl rfl (Nat.le_of_ble_eq_true rfl) (by first | decide | omega) ?_
      refine PW.aload_n 1 0 dX11_law_48 rfl rfl rfl ?_
      refine CW.getr dX11_law_49 fL_X11_10 LA_0 (Or.inl ⟨_, rfl⟩) rfl ?_
      obtain ⟨r13, s14, q15, h⟩ := tbnd h
      refine CW.callVv (ci := 9) (st := []) [] dX11_law_52 (p_X9_clear q15) MV_X9_clear mL_X11_136 (by decide) rfl LA_1 rfl rfl (Nat.le_of_ble_eq_true rfl) (by first | decide | omega) ?_
      refine PW.aload_n 1 0 dX11_law_55 rfl rfl rfl ?_
      refine CW.getr dX11_law_56 fL_X11_10 LA_0 (Or.inl ⟨_, rfl⟩) rfl ?_
      refine CW.callVi (ci := 9) (st := []) [] dX11_law_59 (p_X9_sound rfl) MV_X9_sound mL_X11_139 (by decide) rfl LA_1 rfl rfl (Nat.le_of_ble_eq_true rfl) (by first | decide | omega) ?_
      refine PW.if_ne (tgt := 73) dX11_law_62 (by decide) (fun c17 => ?_) (fun c17 => ?_)
      · replace h := ifn h c17
        refine PW.aload_n 1 0 dX11_law_73 rfl rfl rfl ?_
        refine CW.getr dX11_law_74 fL_X11_19 LA_0 (Or.inl ⟨_, rfl⟩) rfl ?_
        obtain ⟨r18, s19, q20, h⟩ := tbnd h
        refine CW.callVv (ci := 1) (st := []) [] dX11_law_77 (p_X1_takeSpareLaw q20) MV_X1_takeSpareLaw mL_X11_146 (by decide) rfl LA_3 rfl rfl (Nat.le_of_ble_eq_true rfl) (by first | decide | omega) ?_
        refine PW.aload_n 0 2 dX11_law_80 rfl rfl rfl ?_
        refine CW.callVi (ci := 3) (st := []) [] dX11_law_81 (p_X3_clauses c9 rfl) MV_X3_clauses mL_X11_149 (by decide) rfl c9 rfl rfl (Nat.le_of_ble_eq_true rfl) (by first | decide | omega) ?_
        cases h
        subst hx
        exact PW.iret (v := (f_X3_clauses s.1.2.1 s19)) dX11_law_84 rfl rfl (Nat.le_refl 0) (Nat.le_refl 0)
      · replace h := ifp h c17
        refine PW.aload_n 1 0 dX11_law_65 rfl rfl rfl ?_
        refine CW.getr dX11_law_66 fL_X11_10 LA_0 (Or.inl ⟨_, rfl⟩) rfl ?_
        refine CW.callVi (ci := 9) (st := []) [] dX11_law_69 (p_X9_faultTold rfl) MV_X9_faultTold mL_X11_143 (by decide) rfl LA_1 rfl rfl (Nat.le_of_ble_eq_true rfl) (by first | decide | omega) ?_
        cases h
        subst hx
        exact PW.iret (v := (f_X9_faultTold s14)) dX11_law_72 rfl rfl (Nat.le_refl 0) (Nat.le_refl 0)
    · replace h := ifn h c4
      refine PW.iconst (v := (-1)) dX11_law_22 (by decide) ?_
      cases h
      subst hx
      exact PW.iret (v := (-1 : Int32)) dX11_law_23 rfl rfl (Nat.le_refl 0) (Nat.le_refl 0)
/-! X11_programOf -/
def f_X11_programOf (a0 : Int32) (s : cS) : Option (Option Nat × cS) :=
  if a0 < 0 then
    some ((none, s))
  else
    if (8 : Int32) ≤ a0 then
      some ((none, s))
    else
      if inb a0 8 then
      some (((rG s 28 a0.toNatClampNeg), s))
      else none
set_option maxRecDepth 20000 in
set_option maxHeartbeats 4000000 in
theorem p_X11_programOf {g : pG} {l : Launch} {a0 : Int32} {s : cS} {q : Option Nat × cS} (h : f_X11_programOf a0 s = some q) : PM g l 1 M_X11_programOf [.ref 0, .int a0] (tS s) (some (va_rf q.1)) (tS q.2) 0 0 := by
  refine PM.of (by decide +kernel) (Nat.le_of_ble_eq_true rfl) ?_
  show PW g l (pRoom 1 0 0) M_X11_programOf _ 0 [(0, .ref 0), (1, .int a0)] [] (tS s) 0 0
  unfold f_X11_programOf at h
  generalize hF : pE g (some (va_rf q.1)) (tS q.2) 0 0 = F
  have hx := hF.symm
  refine PW.iload_n 1 1 dX11_programOf_0 rfl rfl ?_
  refine PW.if_lt (tgt := 22) dX11_programOf_1 (by decide) (fun c1 => ?_) (fun c1 => ?_)
  · replace h := ifp h c1
    refine PW.aconst_null dX11_programOf_22 ?_
    cases h
    subst hx
    exact PW.aret dX11_programOf_23 rfl (Or.inl ⟨_, rfl⟩) rfl (Nat.le_refl 0) (Nat.le_refl 0)
  · replace h := ifn h c1
    refine PW.iload_n 1 1 dX11_programOf_4 rfl rfl ?_
    refine PW.aload_n 0 0 dX11_programOf_5 rfl rfl rfl ?_
    refine CW.getr dX11_programOf_6 fL_X11_38 LA_0 (Or.inr ⟨_, rfl⟩) rfl ?_
    refine CW.alen (v := 8) dX11_programOf_9 LA_28 (by decide) rfl ?_
    refine PW.icmp_ge (tgt := 22) dX11_programOf_10 (by decide) (fun c2 => ?_) (fun c2 => ?_)
    · replace h := ifp h c2
      refine PW.aconst_null dX11_programOf_22 ?_
      cases h
      subst hx
      exact PW.aret dX11_programOf_23 rfl (Or.inl ⟨_, rfl⟩) rfl (Nat.le_refl 0) (Nat.le_refl 0)
    · replace h := ifn h c2
      refine PW.aload_n 0 0 dX11_programOf_13 rfl rfl rfl ?_
      refine CW.getr dX11_programOf_14 fL_X11_38 LA_0 (Or.inr ⟨_, rfl⟩) rfl ?_
      refine PW.iload_n 1 1 dX11_programOf_17 rfl rfl ?_
      by_cases c3 : inb a0 8
      rotate_left
      · have h := ifn h c3; cases h
      replace h := ifp h c3
      refine CW.aald5 dX11_programOf_18 LA_28 c3 ?_
      refine PW.goto (tgt := 23) dX11_programOf_19 (by decide) ?_
      cases h
      subst hx
      exact PW.aret dX11_programOf_23 rfl (Or.inl ⟨_, rfl⟩) (isA_rf _) (Nat.le_refl 0) (Nat.le_refl 0)
/-! X11_program -/
def f_X11_program (N : Nat) (a0 : Int32) (a1 : Int32) (s : cS) : Option (Int32 × cS) :=
  ob (f_X11_programOf a0 s) fun r1 s2 =>
  orf r1 (
    some (((-1 : Int32), s2))) fun T5 =>
    if (wB a1 (1 : Int32) (60 : Int32)) = 0 then
      some (((-1 : Int32), s2))
    else
      if a1 ≤ (f_X9_size s2) then
        tb (f_X9_open a1 s2) fun r10 s11 =>
        ob (f_X6_read N 166 s11) fun r13 s14 =>
        tb (f_X9_clear s14) fun r16 s17 =>
        if (f_X9_sound s17) = 0 then
          some (((f_X9_faultTold s17), s17))
        else
          if kd T5 6 then
          ob (f_X6_copy N T5 166 s17) fun r22 s23 =>
          tb (f_X1_changed s23) fun r25 s26 =>
          some (((f_X6_pulls T5 s26), s26))
          else none
      else
        some (((-1 : Int32), s2))
set_option maxRecDepth 20000 in
set_option maxHeartbeats 4000000 in
theorem p_X11_program {g : pG} {l : Launch} {N : Nat} {a0 : Int32} {a1 : Int32} {s : cS} {q : Int32 × cS} (h : f_X11_program N a0 a1 s = some q) : PM g l 6 M_X11_program [.ref 0, .int a0, .int a1] (tS s) (some (.int q.1)) (tS q.2) 0 0 := by
  refine PM.of (by decide +kernel) (Nat.le_of_ble_eq_true rfl) ?_
  show PW g l (pRoom 6 0 0) M_X11_program _ 0 [(0, .ref 0), (1, .int a0), (2, .int a1)] [] (tS s) 0 0
  unfold f_X11_program at h
  generalize hF : pE g (some (.int q.1)) (tS q.2) 0 0 = F
  have hx := hF.symm
  refine PW.aload_n 0 0 dX11_program_0 rfl rfl rfl ?_
  refine PW.iload_n 1 1 dX11_program_1 rfl rfl ?_
  obtain ⟨r1, s2, q3, h⟩ := obnd h
  refine CW.callVr (ci := 11) (st := []) [.int a0] dX11_program_2 (p_X11_programOf q3) MV_X11_programOf mL_X11_152 (by decide) rfl LA_0 rfl rfl (Nat.le_of_ble_eq_true rfl) (by first | decide | omega) ?_
  refine PW.astore_n dX11_program_5 rfl (Nat.le_of_ble_eq_true rfl) rfl (isA_rf _) ?_
  refine PW.aload_n 0 3 dX11_program_6 rfl rfl (isA_rf _) ?_
  rcases c4 : r1 with _ | T5
  · replace h := orfn h c4
    try rw [c4]
    show PW _ _ _ _ _ _ [(3, .null), (0, .ref 0), (1, .int a0), (2, .int a1)] (.null :: []) _ _ _
    refine PW.ifnull_null (tgt := 31) dX11_program_7 (by decide) ?_
    refine PW.iconst (v := (-1)) dX11_program_31 (by decide) ?_
    cases h
    subst hx
    exact PW.iret (v := (-1 : Int32)) dX11_program_32 rfl rfl (Nat.le_refl 0) (Nat.le_refl 0)
  · replace h := orfs h c4
    try rw [c4]
    show PW _ _ _ _ _ _ [(3, .ref T5), (0, .ref 0), (1, .int a0), (2, .int a1)] (.ref T5 :: []) _ _ _
    refine PW.ifnull_ref dX11_program_7 ?_
    refine PW.iload_n 3 2 dX11_program_10 rfl rfl ?_
    refine PW.iconst (v := 1) dX11_program_11 (by decide) ?_
    refine PW.bipush (v := 60) dX11_program_12 (by decide) ?_
    refine CW.callSi (st := []) [.int a1, .int (1 : Int32), .int (60 : Int32)] dX11_program_14 (ps_within rfl) MS_X11_within mL_X11_94 rfl rfl (Nat.le_of_ble_eq_true rfl) (by first | decide | omega) ?_
    refine PW.if_eq (tgt := 31) dX11_program_17 (by decide) (fun c7 => ?_) (fun c7 => ?_)
    · replace h := ifp h c7
      refine PW.iconst (v := (-1)) dX11_program_31 (by decide) ?_
      cases h
      subst hx
      exact PW.iret (v := (-1 : Int32)) dX11_program_32 rfl rfl (Nat.le_refl 0) (Nat.le_refl 0)
    · replace h := ifn h c7
      refine PW.iload_n 3 2 dX11_program_20 rfl rfl ?_
      refine PW.aload_n 1 0 dX11_program_21 rfl rfl rfl ?_
      refine CW.getr dX11_program_22 fL_X11_10 LA_0 (Or.inl ⟨_, rfl⟩) rfl ?_
      refine CW.callVi (ci := 9) (st := [.int a1]) [] dX11_program_25 (p_X9_size rfl) MV_X9_size mL_X11_126 (by decide) rfl LA_1 rfl rfl (Nat.le_of_ble_eq_true rfl) (by first | decide | omega) ?_
      refine PW.icmp_le (tgt := 33) dX11_program_28 (by decide) (fun c9 => ?_) (fun c9 => ?_)
      · replace h := ifp h c9
        refine PW.aload_n 1 0 dX11_program_33 rfl rfl rfl ?_
        refine CW.getr dX11_program_34 fL_X11_10 LA_0 (Or.inl ⟨_, rfl⟩) rfl ?_
        refine PW.iload_n 3 2 dX11_program_37 rfl rfl ?_
        obtain ⟨r10, s11, q12, h⟩ := tbnd h
        refine CW.callVv (ci := 9) (st := []) [.int a1] dX11_program_38 (p_X9_open q12) MV_X9_open mL_X11_129 (by decide) rfl LA_1 rfl rfl (Nat.le_of_ble_eq_true rfl) (by first | decide | omega) ?_
        refine PW.aload_n 1 0 dX11_program_41 rfl rfl rfl ?_
        refine CW.getr dX11_program_42 fL_X11_91 LA_0 (Or.inl ⟨_, rfl⟩) rfl ?_
        refine PW.aload_n 1 0 dX11_program_45 rfl rfl rfl ?_
        refine CW.getr dX11_program_46 fL_X11_10 LA_0 (Or.inl ⟨_, rfl⟩) rfl ?_
        obtain ⟨r13, s14, q15, h⟩ := obnd h
        refine CW.callVv (ci := 6) (st := []) [.ref 1] dX11_program_49 (p_X6_read LA_166 q15) MV_X6_read mL_X11_156 (by decide) rfl LA_166 rfl rfl (Nat.le_of_ble_eq_true rfl) (by first | decide | omega) ?_
        refine PW.aload_n 1 0 dX11_program_52 rfl rfl rfl ?_
        refine CW.getr dX11_program_53 fL_X11_10 LA_0 (Or.inl ⟨_, rfl⟩) rfl ?_
        obtain ⟨r16, s17, q18, h⟩ := tbnd h
        refine CW.callVv (ci := 9) (st := []) [] dX11_program_56 (p_X9_clear q18) MV_X9_clear mL_X11_136 (by decide) rfl LA_1 rfl rfl (Nat.le_of_ble_eq_true rfl) (by first | decide | omega) ?_
        refine PW.aload_n 1 0 dX11_program_59 rfl rfl rfl ?_
        refine CW.getr dX11_program_60 fL_X11_10 LA_0 (Or.inl ⟨_, rfl⟩) rfl ?_
        refine CW.callVi (ci := 9) (st := []) [] dX11_program_63 (p_X9_sound rfl) MV_X9_sound mL_X11_139 (by decide) rfl LA_1 rfl rfl (Nat.le_of_ble_eq_true rfl) (by first | decide | omega) ?_
        refine PW.if_ne (tgt := 77) dX11_program_66 (by decide) (fun c20 => ?_) (fun c20 => ?_)
        · replace h := ifn h c20
          refine PW.aload_n 0 3 dX11_program_77 rfl rfl rfl ?_
          refine PW.aload_n 1 0 dX11_program_78 rfl rfl rfl ?_
          refine CW.getr dX11_program_79 fL_X11_91 LA_0 (Or.inl ⟨_, rfl⟩) rfl ?_
          by_cases c21 : kd T5 6
          rotate_left
          · have h := ifn h c21; cases h
          replace h := ifp h c21
          obtain ⟨r22, s23, q24, h⟩ := obnd h
          refine CW.callVv (ci := 6) (st := []) [.ref 166] dX11_program_82 (p_X6_copy c21 LA_166 q24) MV_X6_copy mL_X11_159 (by decide) rfl c21 rfl rfl (Nat.le_of_ble_eq_true rfl) (by first | decide | omega) ?_
          refine PW.aload_n 1 0 dX11_program_85 rfl rfl rfl ?_
          refine CW.getr dX11_program_86 fL_X11_19 LA_0 (Or.inl ⟨_, rfl⟩) rfl ?_
          obtain ⟨r25, s26, q27, h⟩ := tbnd h
          refine CW.callVv (ci := 1) (st := []) [] dX11_program_89 (p_X1_changed q27) MV_X1_changed mL_X11_163 (by decide) rfl LA_3 rfl rfl (Nat.le_of_ble_eq_true rfl) (by first | decide | omega) ?_
          refine PW.aload_n 0 3 dX11_program_92 rfl rfl rfl ?_
          refine CW.callVi (ci := 6) (st := []) [] dX11_program_93 (p_X6_pulls c21 rfl) MV_X6_pulls mL_X11_166 (by decide) rfl c21 rfl rfl (Nat.le_of_ble_eq_true rfl) (by first | decide | omega) ?_
          cases h
          subst hx
          exact PW.iret (v := (f_X6_pulls T5 s26)) dX11_program_96 rfl rfl (Nat.le_refl 0) (Nat.le_refl 0)
        · replace h := ifp h c20
          refine PW.aload_n 1 0 dX11_program_69 rfl rfl rfl ?_
          refine CW.getr dX11_program_70 fL_X11_10 LA_0 (Or.inl ⟨_, rfl⟩) rfl ?_
          refine CW.callVi (ci := 9) (st := []) [] dX11_program_73 (p_X9_faultTold rfl) MV_X9_faultTold mL_X11_143 (by decide) rfl LA_1 rfl rfl (Nat.le_of_ble_eq_true rfl) (by first | decide | omega) ?_
          cases h
          subst hx
          exact PW.iret (v := (f_X9_faultTold s17)) dX11_program_76 rfl rfl (Nat.le_refl 0) (Nat.le_refl 0)
      · replace h := ifn h c9
        refine PW.iconst (v := (-1)) dX11_program_31 (by decide) ?_
        cases h
        subst hx
        exact PW.iret (v := (-1 : Int32)) dX11_program_32 rfl rfl (Nat.le_refl 0) (Nat.le_refl 0)
/-! X11_pull -/
def f_X11_pull (N : Nat) (a0 : Int32) (a1 : Int32) (a2 : Int32) (s : cS) : Option (Int32 × cS) :=
  if (f_X1_has a0 s) = 0 then
    some (((-1 : Int32), s))
  else
    if (wB a1 (0 : Int32) (99 : Int32)) = 0 then
      some (((-1 : Int32), s))
    else
      if (wB a2 (0 : Int32) (1 : Int32)) = 0 then
        some (((-1 : Int32), s))
      else
        tb (f_X8_begin 165 a0 (0 : Int32) s) fun r7 s8 =>
        ob (f_X8_reckon N 165 a1 s8) fun r10 s11 =>
        if a2 = 0 then
          some (((f_X8_pulled 165 s11), s11))
        else
          some (((f_X8_more 165 s11), s11))
set_option maxRecDepth 20000 in
set_option maxHeartbeats 4000000 in
theorem p_X11_pull {g : pG} {l : Launch} {N : Nat} {a0 : Int32} {a1 : Int32} {a2 : Int32} {s : cS} {q : Int32 × cS} (h : f_X11_pull N a0 a1 a2 s = some q) : PM g l 5 M_X11_pull [.ref 0, .int a0, .int a1, .int a2] (tS s) (some (.int q.1)) (tS q.2) 0 0 := by
  refine PM.of (by decide +kernel) (Nat.le_of_ble_eq_true rfl) ?_
  show PW g l (pRoom 5 0 0) M_X11_pull _ 0 [(0, .ref 0), (1, .int a0), (2, .int a1), (3, .int a2)] [] (tS s) 0 0
  unfold f_X11_pull at h
  generalize hF : pE g (some (.int q.1)) (tS q.2) 0 0 = F
  have hx := hF.symm
  refine PW.aload_n 0 0 dX11_pull_0 rfl rfl rfl ?_
  refine CW.getr dX11_pull_1 fL_X11_19 LA_0 (Or.inl ⟨_, rfl⟩) rfl ?_
  refine PW.iload_n 1 1 dX11_pull_4 rfl rfl ?_
  refine CW.callVi (ci := 1) (st := []) [.int a0] dX11_pull_5 (p_X1_has rfl) MV_X1_has mL_X11_107 (by decide) rfl LA_3 rfl rfl (Nat.le_of_ble_eq_true rfl) (by first | decide | omega) ?_
  refine PW.if_eq (tgt := 30) dX11_pull_8 (by decide) (fun c2 => ?_) (fun c2 => ?_)
  · replace h := ifp h c2
    refine PW.iconst (v := (-1)) dX11_pull_30 (by decide) ?_
    cases h
    subst hx
    exact PW.iret (v := (-1 : Int32)) dX11_pull_31 rfl rfl (Nat.le_refl 0) (Nat.le_refl 0)
  · replace h := ifn h c2
    refine PW.iload_n 2 2 dX11_pull_11 rfl rfl ?_
    refine PW.iconst (v := 0) dX11_pull_12 (by decide) ?_
    refine PW.bipush (v := 99) dX11_pull_13 (by decide) ?_
    refine CW.callSi (st := []) [.int a1, .int (0 : Int32), .int (99 : Int32)] dX11_pull_15 (ps_within rfl) MS_X11_within mL_X11_94 rfl rfl (Nat.le_of_ble_eq_true rfl) (by first | decide | omega) ?_
    refine PW.if_eq (tgt := 30) dX11_pull_18 (by decide) (fun c4 => ?_) (fun c4 => ?_)
    · replace h := ifp h c4
      refine PW.iconst (v := (-1)) dX11_pull_30 (by decide) ?_
      cases h
      subst hx
      exact PW.iret (v := (-1 : Int32)) dX11_pull_31 rfl rfl (Nat.le_refl 0) (Nat.le_refl 0)
    · replace h := ifn h c4
      refine PW.iload_n 3 3 dX11_pull_21 rfl rfl ?_
      refine PW.iconst (v := 0) dX11_pull_22 (by decide) ?_
      refine PW.iconst (v := 1) dX11_pull_23 (by decide) ?_
      refine CW.callSi (st := []) [.int a2, .int (0 : Int32), .int (1 : Int32)] dX11_pull_24 (ps_within rfl) MS_X11_within mL_X11_94 rfl rfl (Nat.le_of_ble_eq_true rfl) (by first | decide | omega) ?_
      refine PW.if_ne (tgt := 32) dX11_pull_27 (by decide) (fun c6 => ?_) (fun c6 => ?_)
      · replace h := ifn h c6
        refine PW.aload_n 0 0 dX11_pull_32 rfl rfl rfl ?_
        refine CW.getr dX11_pull_33 fL_X11_87 LA_0 (Or.inl ⟨_, rfl⟩) rfl ?_
        refine PW.iload_n 1 1 dX11_pull_36 rfl rfl ?_
        refine PW.iconst (v := 0) dX11_pull_37 (by decide) ?_
        obtain ⟨r7, s8, q9, h⟩ := tbnd h
        refine CW.callVv (ci := 8) (st := []) [.int a0, .int (0 : Int32)] dX11_pull_38 (p_X8_begin LA_165 q9) MV_X8_begin mL_X11_169 (by decide) rfl LA_165 rfl rfl (Nat.le_of_ble_eq_true rfl) (by first | decide | omega) ?_
        refine PW.aload_n 0 0 dX11_pull_41 rfl rfl rfl ?_
        refine CW.getr dX11_pull_42 fL_X11_87 LA_0 (Or.inl ⟨_, rfl⟩) rfl ?_
        refine PW.iload_n 2 2 dX11_pull_45 rfl rfl ?_
        obtain ⟨r10, s11, q12, h⟩ := obnd h
        refine CW.callVv (ci := 8) (st := []) [.int a1] dX11_pull_46 (p_X8_reckon LA_165 q12) MV_X8_reckon mL_X11_173 (by decide) rfl LA_165 rfl rfl (Nat.le_of_ble_eq_true rfl) (by first | decide | omega) ?_
        refine PW.iload_n 3 3 dX11_pull_49 rfl rfl ?_
        refine PW.if_ne (tgt := 63) dX11_pull_50 (by decide) (fun c13 => ?_) (fun c13 => ?_)
        · replace h := ifn h c13
          refine PW.aload_n 0 0 dX11_pull_63 rfl rfl rfl ?_
          refine CW.getr dX11_pull_64 fL_X11_87 LA_0 (Or.inl ⟨_, rfl⟩) rfl ?_
          refine CW.callVi (ci := 8) (st := []) [] dX11_pull_67 (p_X8_more LA_165 rfl) MV_X8_more mL_X11_179 (by decide) rfl LA_165 rfl rfl (Nat.le_of_ble_eq_true rfl) (by first | decide | omega) ?_
          cases h
          subst hx
          exact PW.iret (v := (f_X8_more 165 s11)) dX11_pull_70 rfl rfl (Nat.le_refl 0) (Nat.le_refl 0)
        · replace h := ifp h c13
          refine PW.aload_n 0 0 dX11_pull_53 rfl rfl rfl ?_
          refine CW.getr dX11_pull_54 fL_X11_87 LA_0 (Or.inl ⟨_, rfl⟩) rfl ?_
          refine CW.callVi (ci := 8) (st := []) [] dX11_pull_57 (p_X8_pulled LA_165 rfl) MV_X8_pulled mL_X11_176 (by decide) rfl LA_165 rfl rfl (Nat.le_of_ble_eq_true rfl) (by first | decide | omega) ?_
          refine PW.goto (tgt := 70) dX11_pull_60 (by decide) ?_
          cases h
          subst hx
          exact PW.iret (v := (f_X8_pulled 165 s11)) dX11_pull_70 rfl rfl (Nat.le_refl 0) (Nat.le_refl 0)
      · replace h := ifp h c6
        refine PW.iconst (v := (-1)) dX11_pull_30 (by decide) ?_
        cases h
        subst hx
        exact PW.iret (v := (-1 : Int32)) dX11_pull_31 rfl rfl (Nat.le_refl 0) (Nat.le_refl 0)
/-! X11_hull -/
def f_X11_hull (N : Nat) (a0 : Int32) (s : cS) : Option (Int32 × cS) :=
  ob (f_X1_fits N a0 s) fun r1 s2 =>
  if r1 = 0 then
    some (((-1 : Int32), s2))
  else
    if (10 : Int32) ≤ (f_X2_size s2) then
      some (((-1 : Int32), s2))
    else
      if (f_X1_size s2) = 0 then
        some (((-1 : Int32), s2))
      else
        ob (f_X2_add N a0 s2) fun r9 s10 =>
        some ((r9, s10))
set_option maxRecDepth 20000 in
set_option maxHeartbeats 4000000 in
theorem p_X11_hull {g : pG} {l : Launch} {N : Nat} {a0 : Int32} {s : cS} {q : Int32 × cS} (h : f_X11_hull N a0 s = some q) : PM g l 5 M_X11_hull [.ref 0, .int a0] (tS s) (some (.int q.1)) (tS q.2) 0 0 := by
  refine PM.of (by decide +kernel) (Nat.le_of_ble_eq_true rfl) ?_
  show PW g l (pRoom 5 0 0) M_X11_hull _ 0 [(0, .ref 0), (1, .int a0)] [] (tS s) 0 0
  unfold f_X11_hull at h
  generalize hF : pE g (some (.int q.1)) (tS q.2) 0 0 = F
  have hx := hF.symm
  refine PW.aload_n 0 0 dX11_hull_0 rfl rfl rfl ?_
  refine CW.getr dX11_hull_1 fL_X11_19 LA_0 (Or.inl ⟨_, rfl⟩) rfl ?_
  refine PW.iload_n 1 1 dX11_hull_4 rfl rfl ?_
  obtain ⟨r1, s2, q3, h⟩ := obnd h
  refine CW.callVi (ci := 1) (st := []) [.int a0] dX11_hull_5 (p_X1_fits q3) MV_X1_fits mL_X11_182 (by decide) rfl LA_3 rfl rfl (Nat.le_of_ble_eq_true rfl) (by first | decide | omega) ?_
  refine PW.if_eq (tgt := 33) dX11_hull_8 (by decide) (fun c4 => ?_) (fun c4 => ?_)
  · replace h := ifp h c4
    refine PW.iconst (v := (-1)) dX11_hull_33 (by decide) ?_
    cases h
    subst hx
    exact PW.iret (v := (-1 : Int32)) dX11_hull_34 rfl rfl (Nat.le_refl 0) (Nat.le_refl 0)
  · replace h := ifn h c4
    refine PW.aload_n 0 0 dX11_hull_11 rfl rfl rfl ?_
    refine CW.getr dX11_hull_12 fL_X11_52 LA_0 (Or.inl ⟨_, rfl⟩) rfl ?_
    refine CW.callVi (ci := 2) (st := []) [] dX11_hull_15 (p_X2_size rfl) MV_X2_size mL_X11_102 (by decide) rfl LA_32 rfl rfl (Nat.le_of_ble_eq_true rfl) (by first | decide | omega) ?_
    refine PW.bipush (v := 10) dX11_hull_18 (by decide) ?_
    refine PW.icmp_ge (tgt := 33) dX11_hull_20 (by decide) (fun c6 => ?_) (fun c6 => ?_)
    · replace h := ifp h c6
      refine PW.iconst (v := (-1)) dX11_hull_33 (by decide) ?_
      cases h
      subst hx
      exact PW.iret (v := (-1 : Int32)) dX11_hull_34 rfl rfl (Nat.le_refl 0) (Nat.le_refl 0)
    · replace h := ifn h c6
      refine PW.aload_n 0 0 dX11_hull_23 rfl rfl rfl ?_
      refine CW.getr dX11_hull_24 fL_X11_19 LA_0 (Or.inl ⟨_, rfl⟩) rfl ?_
      refine CW.callVi (ci := 1) (st := []) [] dX11_hull_27 (p_X1_size rfl) MV_X1_size mL_X11_98 (by decide) rfl LA_3 rfl rfl (Nat.le_of_ble_eq_true rfl) (by first | decide | omega) ?_
      refine PW.if_ne (tgt := 35) dX11_hull_30 (by decide) (fun c8 => ?_) (fun c8 => ?_)
      · replace h := ifn h c8
        refine PW.aload_n 0 0 dX11_hull_35 rfl rfl rfl ?_
        refine CW.getr dX11_hull_36 fL_X11_52 LA_0 (Or.inl ⟨_, rfl⟩) rfl ?_
        refine PW.iload_n 1 1 dX11_hull_39 rfl rfl ?_
        obtain ⟨r9, s10, q11, h⟩ := obnd h
        refine CW.callVi (ci := 2) (st := []) [.int a0] dX11_hull_40 (p_X2_add q11) MV_X2_add mL_X11_185 (by decide) rfl LA_32 rfl rfl (Nat.le_of_ble_eq_true rfl) (by first | decide | omega) ?_
        cases h
        subst hx
        exact PW.iret (v := r9) dX11_hull_43 rfl rfl (Nat.le_refl 0) (Nat.le_refl 0)
      · replace h := ifp h c8
        refine PW.iconst (v := (-1)) dX11_hull_33 (by decide) ?_
        cases h
        subst hx
        exact PW.iret (v := (-1 : Int32)) dX11_hull_34 rfl rfl (Nat.le_refl 0) (Nat.le_refl 0)
/-! X11_flown -/
def f_X11_flown (N : Nat) (a0 : Int32) (a1 : Int32) (a2 : Int32) (s : cS) : Option (Int32 × cS) :=
  if (f_X2_has a0 s) = 0 then
    some (((-1 : Int32), s))
  else
    if (wB a1 (0 : Int32) (99 : Int32)) = 0 then
      some (((-1 : Int32), s))
    else
      if (wB a2 (1 : Int32) (2000 : Int32)) = 0 then
        some (((-1 : Int32), s))
      else
        if (f_X2_lostBy a0 s) = (-1 : Int32) then
          if ((f_X2_pulls a0 s) + a2) ≤ (100000 : Int32) then
            ob (f_X2_goOn N a0 a1 a2 s) fun r11 s12 =>
            some ((r11, s12))
          else
            some (((-1 : Int32), s))
        else
          some (((-1 : Int32), s))
set_option maxRecDepth 20000 in
set_option maxHeartbeats 4000000 in
theorem p_X11_flown {g : pG} {l : Launch} {N : Nat} {a0 : Int32} {a1 : Int32} {a2 : Int32} {s : cS} {q : Int32 × cS} (h : f_X11_flown N a0 a1 a2 s = some q) : PM g l 8 M_X11_flown [.ref 0, .int a0, .int a1, .int a2] (tS s) (some (.int q.1)) (tS q.2) 0 0 := by
  refine PM.of (by decide +kernel) (Nat.le_of_ble_eq_true rfl) ?_
  show PW g l (pRoom 8 0 0) M_X11_flown _ 0 [(0, .ref 0), (1, .int a0), (2, .int a1), (3, .int a2)] [] (tS s) 0 0
  unfold f_X11_flown at h
  generalize hF : pE g (some (.int q.1)) (tS q.2) 0 0 = F
  have hx := hF.symm
  refine PW.aload_n 0 0 dX11_flown_0 rfl rfl rfl ?_
  refine CW.getr dX11_flown_1 fL_X11_52 LA_0 (Or.inl ⟨_, rfl⟩) rfl ?_
  refine PW.iload_n 1 1 dX11_flown_4 rfl rfl ?_
  refine CW.callVi (ci := 2) (st := []) [.int a0] dX11_flown_5 (p_X2_has rfl) MV_X2_has mL_X11_187 (by decide) rfl LA_32 rfl rfl (Nat.le_of_ble_eq_true rfl) (by first | decide | omega) ?_
  refine PW.if_eq (tgt := 32) dX11_flown_8 (by decide) (fun c2 => ?_) (fun c2 => ?_)
  · replace h := ifp h c2
    refine PW.iconst (v := (-1)) dX11_flown_32 (by decide) ?_
    cases h
    subst hx
    exact PW.iret (v := (-1 : Int32)) dX11_flown_33 rfl rfl (Nat.le_refl 0) (Nat.le_refl 0)
  · replace h := ifn h c2
    refine PW.iload_n 2 2 dX11_flown_11 rfl rfl ?_
    refine PW.iconst (v := 0) dX11_flown_12 (by decide) ?_
    refine PW.bipush (v := 99) dX11_flown_13 (by decide) ?_
    refine CW.callSi (st := []) [.int a1, .int (0 : Int32), .int (99 : Int32)] dX11_flown_15 (ps_within rfl) MS_X11_within mL_X11_94 rfl rfl (Nat.le_of_ble_eq_true rfl) (by first | decide | omega) ?_
    refine PW.if_eq (tgt := 32) dX11_flown_18 (by decide) (fun c4 => ?_) (fun c4 => ?_)
    · replace h := ifp h c4
      refine PW.iconst (v := (-1)) dX11_flown_32 (by decide) ?_
      cases h
      subst hx
      exact PW.iret (v := (-1 : Int32)) dX11_flown_33 rfl rfl (Nat.le_refl 0) (Nat.le_refl 0)
    · replace h := ifn h c4
      refine PW.iload_n 3 3 dX11_flown_21 rfl rfl ?_
      refine PW.iconst (v := 1) dX11_flown_22 (by decide) ?_
      refine PW.sipush (v := 2000) dX11_flown_23 (by decide) ?_
      refine CW.callSi (st := []) [.int a2, .int (1 : Int32), .int (2000 : Int32)] dX11_flown_26 (ps_within rfl) MS_X11_within mL_X11_94 rfl rfl (Nat.le_of_ble_eq_true rfl) (by first | decide | omega) ?_
      refine PW.if_ne (tgt := 34) dX11_flown_29 (by decide) (fun c6 => ?_) (fun c6 => ?_)
      · replace h := ifn h c6
        refine PW.aload_n 0 0 dX11_flown_34 rfl rfl rfl ?_
        refine CW.getr dX11_flown_35 fL_X11_52 LA_0 (Or.inl ⟨_, rfl⟩) rfl ?_
        refine PW.iload_n 1 1 dX11_flown_38 rfl rfl ?_
        refine CW.callVi (ci := 2) (st := []) [.int a0] dX11_flown_39 (p_X2_lostBy rfl) MV_X2_lostBy mL_X11_188 (by decide) rfl LA_32 rfl rfl (Nat.le_of_ble_eq_true rfl) (by first | decide | omega) ?_
        refine PW.iconst (v := (-1)) dX11_flown_42 (by decide) ?_
        refine PW.icmp_ne (tgt := 61) dX11_flown_43 (by decide) (fun c8 => ?_) (fun c8 => ?_)
        · replace h := ifn h c8
          refine PW.iconst (v := (-1)) dX11_flown_61 (by decide) ?_
          cases h
          subst hx
          exact PW.iret (v := (-1 : Int32)) dX11_flown_62 rfl rfl (Nat.le_refl 0) (Nat.le_refl 0)
        · replace h := ifp h c8
          refine PW.aload_n 0 0 dX11_flown_46 rfl rfl rfl ?_
          refine CW.getr dX11_flown_47 fL_X11_52 LA_0 (Or.inl ⟨_, rfl⟩) rfl ?_
          refine PW.iload_n 1 1 dX11_flown_50 rfl rfl ?_
          refine CW.callVi (ci := 2) (st := []) [.int a0] dX11_flown_51 (p_X2_pulls rfl) MV_X2_pulls mL_X11_191 (by decide) rfl LA_32 rfl rfl (Nat.le_of_ble_eq_true rfl) (by first | decide | omega) ?_
          refine PW.iload_n 3 3 dX11_flown_54 rfl rfl ?_
          refine PW.iadd dX11_flown_55 ?_
          refine PW.ldc dX11_flown_56 kL_X11_193 ?_
          refine PW.icmp_le (tgt := 63) dX11_flown_58 (by decide) (fun c10 => ?_) (fun c10 => ?_)
          · replace h := ifp h c10
            refine PW.aload_n 0 0 dX11_flown_63 rfl rfl rfl ?_
            refine CW.getr dX11_flown_64 fL_X11_52 LA_0 (Or.inl ⟨_, rfl⟩) rfl ?_
            refine PW.iload_n 1 1 dX11_flown_67 rfl rfl ?_
            refine PW.iload_n 2 2 dX11_flown_68 rfl rfl ?_
            refine PW.iload_n 3 3 dX11_flown_69 rfl rfl ?_
            obtain ⟨r11, s12, q13, h⟩ := obnd h
            refine CW.callVi (ci := 2) (st := []) [.int a0, .int a1, .int a2] dX11_flown_70 (p_X2_goOn q13) MV_X2_goOn mL_X11_194 (by decide) rfl LA_32 rfl rfl (Nat.le_of_ble_eq_true rfl) (by first | decide | omega) ?_
            cases h
            subst hx
            exact PW.iret (v := r11) dX11_flown_73 rfl rfl (Nat.le_refl 0) (Nat.le_refl 0)
          · replace h := ifn h c10
            refine PW.iconst (v := (-1)) dX11_flown_61 (by decide) ?_
            cases h
            subst hx
            exact PW.iret (v := (-1 : Int32)) dX11_flown_62 rfl rfl (Nat.le_refl 0) (Nat.le_refl 0)
      · replace h := ifp h c6
        refine PW.iconst (v := (-1)) dX11_flown_32 (by decide) ?_
        cases h
        subst hx
        exact PW.iret (v := (-1 : Int32)) dX11_flown_33 rfl rfl (Nat.le_refl 0) (Nat.le_refl 0)
/-! X11_hullIs -/
def f_X11_hullIs (a0 : Int32) (a1 : Int32) (s : cS) : Int32 :=
  if (f_X2_has a0 s) = 0 then
    (-1 : Int32)
  else
    if (wB a1 (0 : Int32) (1 : Int32)) = 0 then
      (-1 : Int32)
    else
      if a1 = 0 then
        (f_X2_pulls a0 s)
      else
        (f_X2_lostBy a0 s)
set_option maxRecDepth 20000 in
set_option maxHeartbeats 4000000 in
theorem p_X11_hullIs {g : pG} {l : Launch} {a0 : Int32} {a1 : Int32} {s : cS} {q : Int32} (h : f_X11_hullIs a0 a1 s = q) : PM g l 3 M_X11_hullIs [.ref 0, .int a0, .int a1] (tS s) (some (.int q)) (tS s) 0 0 := by
  refine PM.of (by decide +kernel) (Nat.le_of_ble_eq_true rfl) ?_
  show PW g l (pRoom 3 0 0) M_X11_hullIs _ 0 [(0, .ref 0), (1, .int a0), (2, .int a1)] [] (tS s) 0 0
  unfold f_X11_hullIs at h
  generalize hF : pE g (some (.int q)) (tS s) 0 0 = F
  have hx := hF.symm
  refine PW.aload_n 0 0 dX11_hullIs_0 rfl rfl rfl ?_
  refine CW.getr dX11_hullIs_1 fL_X11_52 LA_0 (Or.inl ⟨_, rfl⟩) rfl ?_
  refine PW.iload_n 1 1 dX11_hullIs_4 rfl rfl ?_
  refine CW.callVi (ci := 2) (st := []) [.int a0] dX11_hullIs_5 (p_X2_has rfl) MV_X2_has mL_X11_187 (by decide) rfl LA_32 rfl rfl (Nat.le_of_ble_eq_true rfl) (by first | decide | omega) ?_
  refine PW.if_eq (tgt := 20) dX11_hullIs_8 (by decide) (fun c2 => ?_) (fun c2 => ?_)
  · replace h := ifp h c2
    refine PW.iconst (v := (-1)) dX11_hullIs_20 (by decide) ?_
    cases h
    subst hx
    exact PW.iret (v := (-1 : Int32)) dX11_hullIs_21 rfl rfl (Nat.le_refl 0) (Nat.le_refl 0)
  · replace h := ifn h c2
    refine PW.iload_n 2 2 dX11_hullIs_11 rfl rfl ?_
    refine PW.iconst (v := 0) dX11_hullIs_12 (by decide) ?_
    refine PW.iconst (v := 1) dX11_hullIs_13 (by decide) ?_
    refine CW.callSi (st := []) [.int a1, .int (0 : Int32), .int (1 : Int32)] dX11_hullIs_14 (ps_within rfl) MS_X11_within mL_X11_94 rfl rfl (Nat.le_of_ble_eq_true rfl) (by first | decide | omega) ?_
    refine PW.if_ne (tgt := 22) dX11_hullIs_17 (by decide) (fun c4 => ?_) (fun c4 => ?_)
    · replace h := ifn h c4
      refine PW.iload_n 2 2 dX11_hullIs_22 rfl rfl ?_
      refine PW.if_ne (tgt := 37) dX11_hullIs_23 (by decide) (fun c5 => ?_) (fun c5 => ?_)
      · replace h := ifn h c5
        refine PW.aload_n 0 0 dX11_hullIs_37 rfl rfl rfl ?_
        refine CW.getr dX11_hullIs_38 fL_X11_52 LA_0 (Or.inl ⟨_, rfl⟩) rfl ?_
        refine PW.iload_n 1 1 dX11_hullIs_41 rfl rfl ?_
        refine CW.callVi (ci := 2) (st := []) [.int a0] dX11_hullIs_42 (p_X2_lostBy rfl) MV_X2_lostBy mL_X11_188 (by decide) rfl LA_32 rfl rfl (Nat.le_of_ble_eq_true rfl) (by first | decide | omega) ?_
        cases h
        subst hx
        exact PW.iret (v := (f_X2_lostBy a0 s)) dX11_hullIs_45 rfl rfl (Nat.le_refl 0) (Nat.le_refl 0)
      · replace h := ifp h c5
        refine PW.aload_n 0 0 dX11_hullIs_26 rfl rfl rfl ?_
        refine CW.getr dX11_hullIs_27 fL_X11_52 LA_0 (Or.inl ⟨_, rfl⟩) rfl ?_
        refine PW.iload_n 1 1 dX11_hullIs_30 rfl rfl ?_
        refine CW.callVi (ci := 2) (st := []) [.int a0] dX11_hullIs_31 (p_X2_pulls rfl) MV_X2_pulls mL_X11_191 (by decide) rfl LA_32 rfl rfl (Nat.le_of_ble_eq_true rfl) (by first | decide | omega) ?_
        refine PW.goto (tgt := 45) dX11_hullIs_34 (by decide) ?_
        cases h
        subst hx
        exact PW.iret (v := (f_X2_pulls a0 s)) dX11_hullIs_45 rfl rfl (Nat.le_refl 0) (Nat.le_refl 0)
    · replace h := ifp h c4
      refine PW.iconst (v := (-1)) dX11_hullIs_20 (by decide) ?_
      cases h
      subst hx
      exact PW.iret (v := (-1 : Int32)) dX11_hullIs_21 rfl rfl (Nat.le_refl 0) (Nat.le_refl 0)
/-! X11_cornerIs -/
def f_X11_cornerIs (a0 : Int32) (a1 : Int32) (a2 : Int32) (s : cS) : Option (Int32 × cS) :=
  if (f_X2_has a0 s) = 0 then
    some (((-1 : Int32), s))
  else
    if (f_X1_has a1 s) = 0 then
      some (((-1 : Int32), s))
    else
      if (wB a2 (0 : Int32) (2 : Int32)) = 0 then
        some (((-1 : Int32), s))
      else
        ob (f_X2_stateOf a0 a1 a2 s) fun r7 s8 =>
        some ((r7, s8))
set_option maxRecDepth 20000 in
set_option maxHeartbeats 4000000 in
theorem p_X11_cornerIs {g : pG} {l : Launch} {a0 : Int32} {a1 : Int32} {a2 : Int32} {s : cS} {q : Int32 × cS} (h : f_X11_cornerIs a0 a1 a2 s = some q) : PM g l 3 M_X11_cornerIs [.ref 0, .int a0, .int a1, .int a2] (tS s) (some (.int q.1)) (tS q.2) 0 0 := by
  refine PM.of (by decide +kernel) (Nat.le_of_ble_eq_true rfl) ?_
  show PW g l (pRoom 3 0 0) M_X11_cornerIs _ 0 [(0, .ref 0), (1, .int a0), (2, .int a1), (3, .int a2)] [] (tS s) 0 0
  unfold f_X11_cornerIs at h
  generalize hF : pE g (some (.int q.1)) (tS q.2) 0 0 = F
  have hx := hF.symm
  refine PW.aload_n 0 0 dX11_cornerIs_0 rfl rfl rfl ?_
  refine CW.getr dX11_cornerIs_1 fL_X11_52 LA_0 (Or.inl ⟨_, rfl⟩) rfl ?_
  refine PW.iload_n 1 1 dX11_cornerIs_4 rfl rfl ?_
  refine CW.callVi (ci := 2) (st := []) [.int a0] dX11_cornerIs_5 (p_X2_has rfl) MV_X2_has mL_X11_187 (by decide) rfl LA_32 rfl rfl (Nat.le_of_ble_eq_true rfl) (by first | decide | omega) ?_
  refine PW.if_eq (tgt := 31) dX11_cornerIs_8 (by decide) (fun c2 => ?_) (fun c2 => ?_)
  · replace h := ifp h c2
    refine PW.iconst (v := (-1)) dX11_cornerIs_31 (by decide) ?_
    cases h
    subst hx
    exact PW.iret (v := (-1 : Int32)) dX11_cornerIs_32 rfl rfl (Nat.le_refl 0) (Nat.le_refl 0)
  · replace h := ifn h c2
    refine PW.aload_n 0 0 dX11_cornerIs_11 rfl rfl rfl ?_
    refine CW.getr dX11_cornerIs_12 fL_X11_19 LA_0 (Or.inl ⟨_, rfl⟩) rfl ?_
    refine PW.iload_n 2 2 dX11_cornerIs_15 rfl rfl ?_
    refine CW.callVi (ci := 1) (st := []) [.int a1] dX11_cornerIs_16 (p_X1_has rfl) MV_X1_has mL_X11_107 (by decide) rfl LA_3 rfl rfl (Nat.le_of_ble_eq_true rfl) (by first | decide | omega) ?_
    refine PW.if_eq (tgt := 31) dX11_cornerIs_19 (by decide) (fun c4 => ?_) (fun c4 => ?_)
    · replace h := ifp h c4
      refine PW.iconst (v := (-1)) dX11_cornerIs_31 (by decide) ?_
      cases h
      subst hx
      exact PW.iret (v := (-1 : Int32)) dX11_cornerIs_32 rfl rfl (Nat.le_refl 0) (Nat.le_refl 0)
    · replace h := ifn h c4
      refine PW.iload_n 3 3 dX11_cornerIs_22 rfl rfl ?_
      refine PW.iconst (v := 0) dX11_cornerIs_23 (by decide) ?_
      refine PW.iconst (v := 2) dX11_cornerIs_24 (by decide) ?_
      refine CW.callSi (st := []) [.int a2, .int (0 : Int32), .int (2 : Int32)] dX11_cornerIs_25 (ps_within rfl) MS_X11_within mL_X11_94 rfl rfl (Nat.le_of_ble_eq_true rfl) (by first | decide | omega) ?_
      refine PW.if_ne (tgt := 33) dX11_cornerIs_28 (by decide) (fun c6 => ?_) (fun c6 => ?_)
      · replace h := ifn h c6
        refine PW.aload_n 0 0 dX11_cornerIs_33 rfl rfl rfl ?_
        refine CW.getr dX11_cornerIs_34 fL_X11_52 LA_0 (Or.inl ⟨_, rfl⟩) rfl ?_
        refine PW.iload_n 1 1 dX11_cornerIs_37 rfl rfl ?_
        refine PW.iload_n 2 2 dX11_cornerIs_38 rfl rfl ?_
        refine PW.iload_n 3 3 dX11_cornerIs_39 rfl rfl ?_
        obtain ⟨r7, s8, q9, h⟩ := obnd h
        refine CW.callVi (ci := 2) (st := []) [.int a0, .int a1, .int a2] dX11_cornerIs_40 (p_X2_stateOf q9) MV_X2_stateOf mL_X11_197 (by decide) rfl LA_32 rfl rfl (Nat.le_of_ble_eq_true rfl) (by first | decide | omega) ?_
        cases h
        subst hx
        exact PW.iret (v := r7) dX11_cornerIs_43 rfl rfl (Nat.le_refl 0) (Nat.le_refl 0)
      · replace h := ifp h c6
        refine PW.iconst (v := (-1)) dX11_cornerIs_31 (by decide) ?_
        cases h
        subst hx
        exact PW.iret (v := (-1 : Int32)) dX11_cornerIs_32 rfl rfl (Nat.le_refl 0) (Nat.le_refl 0)
/-! X11_runs -/
def f_X11_runs (N : Nat) (a0 : Int32) (a1 : Int32) (a2 : Int32) (a3 : Int32) (s : cS) : Option (Int32 × cS) :=
  ob (f_X11_programOf a0 s) fun r1 s2 =>
  orf r1 (
    some (((-1 : Int32), s2))) fun T5 =>
    if (f_X1_hasLife a1 a2 s2) = 0 then
      some (((-1 : Int32), s2))
    else
      if (wB a3 (0 : Int32) (1 : Int32)) = 0 then
        some (((-1 : Int32), s2))
      else
        if a3 = 0 then
          if kd T5 6 then
          ob (f_X5_crackedBy N a1 a2 T5 s2) fun r16 s17 =>
          some ((r16, s17))
          else none
        else
          if kd T5 6 then
          ob (f_X5_ranBy N a1 a2 T5 s2) fun r12 s13 =>
          some ((r12, s13))
          else none
set_option maxRecDepth 20000 in
set_option maxHeartbeats 4000000 in
theorem p_X11_runs {g : pG} {l : Launch} {N : Nat} {a0 : Int32} {a1 : Int32} {a2 : Int32} {a3 : Int32} {s : cS} {q : Int32 × cS} (h : f_X11_runs N a0 a1 a2 a3 s = some q) : PM g l 8 M_X11_runs [.ref 0, .int a0, .int a1, .int a2, .int a3] (tS s) (some (.int q.1)) (tS q.2) 0 0 := by
  refine PM.of (by decide +kernel) (Nat.le_of_ble_eq_true rfl) ?_
  show PW g l (pRoom 8 0 0) M_X11_runs _ 0 [(0, .ref 0), (1, .int a0), (2, .int a1), (3, .int a2), (4, .int a3)] [] (tS s) 0 0
  unfold f_X11_runs at h
  generalize hF : pE g (some (.int q.1)) (tS q.2) 0 0 = F
  have hx := hF.symm
  refine PW.aload_n 0 0 dX11_runs_0 rfl rfl rfl ?_
  refine PW.iload_n 1 1 dX11_runs_1 rfl rfl ?_
  obtain ⟨r1, s2, q3, h⟩ := obnd h
  refine CW.callVr (ci := 11) (st := []) [.int a0] dX11_runs_2 (p_X11_programOf q3) MV_X11_programOf mL_X11_152 (by decide) rfl LA_0 rfl rfl (Nat.le_of_ble_eq_true rfl) (by first | decide | omega) ?_
  refine PW.astore dX11_runs_5 (Nat.le_of_ble_eq_true rfl) rfl (isA_rf _) ?_
  refine PW.aload 0 dX11_runs_7 rfl (isA_rf _) ?_
  rcases c4 : r1 with _ | T5
  · replace h := orfn h c4
    try rw [c4]
    show PW _ _ _ _ _ _ [(5, .null), (0, .ref 0), (1, .int a0), (2, .int a1), (3, .int a2), (4, .int a3)] (.null :: []) _ _ _
    refine PW.ifnull_null (tgt := 34) dX11_runs_9 (by decide) ?_
    refine PW.iconst (v := (-1)) dX11_runs_34 (by decide) ?_
    cases h
    subst hx
    exact PW.iret (v := (-1 : Int32)) dX11_runs_35 rfl rfl (Nat.le_refl 0) (Nat.le_refl 0)
  · replace h := orfs h c4
    try rw [c4]
    show PW _ _ _ _ _ _ [(5, .ref T5), (0, .ref 0), (1, .int a0), (2, .int a1), (3, .int a2), (4, .int a3)] (.ref T5 :: []) _ _ _
    refine PW.ifnull_ref dX11_runs_9 ?_
    refine PW.aload_n 1 0 dX11_runs_12 rfl rfl rfl ?_
    refine CW.getr dX11_runs_13 fL_X11_19 LA_0 (Or.inl ⟨_, rfl⟩) rfl ?_
    refine PW.iload_n 3 2 dX11_runs_16 rfl rfl ?_
    refine PW.iload_n 4 3 dX11_runs_17 rfl rfl ?_
    refine CW.callVi (ci := 1) (st := []) [.int a1, .int a2] dX11_runs_18 (p_X1_hasLife rfl) MV_X1_hasLife mL_X11_200 (by decide) rfl LA_3 rfl rfl (Nat.le_of_ble_eq_true rfl) (by first | decide | omega) ?_
    refine PW.if_eq (tgt := 34) dX11_runs_21 (by decide) (fun c7 => ?_) (fun c7 => ?_)
    · replace h := ifp h c7
      refine PW.iconst (v := (-1)) dX11_runs_34 (by decide) ?_
      cases h
      subst hx
      exact PW.iret (v := (-1 : Int32)) dX11_runs_35 rfl rfl (Nat.le_refl 0) (Nat.le_refl 0)
    · replace h := ifn h c7
      refine PW.iload 5 dX11_runs_24 rfl ?_
      refine PW.iconst (v := 0) dX11_runs_26 (by decide) ?_
      refine PW.iconst (v := 1) dX11_runs_27 (by decide) ?_
      refine CW.callSi (st := []) [.int a3, .int (0 : Int32), .int (1 : Int32)] dX11_runs_28 (ps_within rfl) MS_X11_within mL_X11_94 rfl rfl (Nat.le_of_ble_eq_true rfl) (by first | decide | omega) ?_
      refine PW.if_ne (tgt := 36) dX11_runs_31 (by decide) (fun c9 => ?_) (fun c9 => ?_)
      · replace h := ifn h c9
        refine PW.iload 5 dX11_runs_36 rfl ?_
        refine PW.if_ne (tgt := 55) dX11_runs_38 (by decide) (fun c10 => ?_) (fun c10 => ?_)
        · replace h := ifn h c10
          refine PW.aload_n 1 0 dX11_runs_55 rfl rfl rfl ?_
          refine CW.getr dX11_runs_56 fL_X11_59 LA_0 (Or.inl ⟨_, rfl⟩) rfl ?_
          refine PW.iload_n 3 2 dX11_runs_59 rfl rfl ?_
          refine PW.iload_n 4 3 dX11_runs_60 rfl rfl ?_
          refine PW.aload 0 dX11_runs_61 rfl rfl ?_
          by_cases c11 : kd T5 6
          rotate_left
          · have h := ifn h c11; cases h
          replace h := ifp h c11
          obtain ⟨r12, s13, q14, h⟩ := obnd h
          refine CW.callVi (ci := 5) (st := []) [.int a1, .int a2, .ref T5] dX11_runs_63 (p_X5_ranBy c11 q14) MV_X5_ranBy mL_X11_208 (by decide) rfl LA_116 rfl rfl (Nat.le_of_ble_eq_true rfl) (by first | decide | omega) ?_
          cases h
          subst hx
          exact PW.iret (v := r12) dX11_runs_66 rfl rfl (Nat.le_refl 0) (Nat.le_refl 0)
        · replace h := ifp h c10
          refine PW.aload_n 1 0 dX11_runs_41 rfl rfl rfl ?_
          refine CW.getr dX11_runs_42 fL_X11_59 LA_0 (Or.inl ⟨_, rfl⟩) rfl ?_
          refine PW.iload_n 3 2 dX11_runs_45 rfl rfl ?_
          refine PW.iload_n 4 3 dX11_runs_46 rfl rfl ?_
          refine PW.aload 0 dX11_runs_47 rfl rfl ?_
          by_cases c15 : kd T5 6
          rotate_left
          · have h := ifn h c15; cases h
          replace h := ifp h c15
          obtain ⟨r16, s17, q18, h⟩ := obnd h
          refine CW.callVi (ci := 5) (st := []) [.int a1, .int a2, .ref T5] dX11_runs_49 (p_X5_crackedBy c15 q18) MV_X5_crackedBy mL_X11_204 (by decide) rfl LA_116 rfl rfl (Nat.le_of_ble_eq_true rfl) (by first | decide | omega) ?_
          refine PW.goto (tgt := 66) dX11_runs_52 (by decide) ?_
          cases h
          subst hx
          exact PW.iret (v := r16) dX11_runs_66 rfl rfl (Nat.le_refl 0) (Nat.le_refl 0)
      · replace h := ifp h c9
        refine PW.iconst (v := (-1)) dX11_runs_34 (by decide) ?_
        cases h
        subst hx
        exact PW.iret (v := (-1 : Int32)) dX11_runs_35 rfl rfl (Nat.le_refl 0) (Nat.le_refl 0)
/-! X11_canFly -/
def f_X11_canFly (a0 : Option Nat) (a1 : Int32) (a2 : Int32) (s : cS) : Option (Int32 × cS) :=
  orf a0 (
    some (((0 : Int32), s))) fun T2 =>
    if (wB a1 (0 : Int32) (99 : Int32)) = 0 then
      some (((0 : Int32), s))
    else
      if (wB a2 (0 : Int32) (2000 : Int32)) = 0 then
        some (((0 : Int32), s))
      else
        if kd T2 6 then
        if (2000 : Int32) < ((f_X6_pulls T2 s) + a2) then
          some (((0 : Int32), s))
        else
          some (((1 : Int32), s))
        else none
set_option maxRecDepth 20000 in
set_option maxHeartbeats 4000000 in
theorem p_X11_canFly {g : pG} {l : Launch} {a0 : Option Nat} {a1 : Int32} {a2 : Int32} {s : cS} {q : Int32 × cS} (h : f_X11_canFly a0 a1 a2 s = some q) : PM g l 2 M_X11_canFly [va_rf a0, .int a1, .int a2] (tS s) (some (.int q.1)) (tS q.2) 0 0 := by
  refine PM.of (by decide +kernel) (by cases a0 <;> exact Nat.le_of_ble_eq_true rfl) ?_
  rw [show lv_args 0 [va_rf a0, .int a1, .int a2] = [(0, va_rf a0), (1, .int a1), (2, .int a2)] from by cases a0 <;> rfl]
  show PW g l (pRoom 2 0 0) M_X11_canFly _ 0 [(0, va_rf a0), (1, .int a1), (2, .int a2)] [] (tS s) 0 0
  unfold f_X11_canFly at h
  generalize hF : pE g (some (.int q.1)) (tS q.2) 0 0 = F
  have hx := hF.symm
  refine PW.aload_n 0 0 dX11_canFly_0 rfl rfl (isA_rf _) ?_
  rcases c1 : a0 with _ | T2
  · replace h := orfn h c1
    try rw [c1]
    show PW _ _ _ _ _ _ [(0, .null), (1, .int a1), (2, .int a2)] (.null :: []) _ _ _
    refine PW.ifnull_null (tgt := 41) dX11_canFly_1 (by decide) ?_
    refine PW.iconst (v := 0) dX11_canFly_41 (by decide) ?_
    cases h
    subst hx
    exact PW.iret (v := (0 : Int32)) dX11_canFly_42 rfl (narZ (Or.inl rfl)) (Nat.le_refl 0) (Nat.le_refl 0)
  · replace h := orfs h c1
    try rw [c1]
    show PW _ _ _ _ _ _ [(0, .ref T2), (1, .int a1), (2, .int a2)] (.ref T2 :: []) _ _ _
    refine PW.ifnull_ref dX11_canFly_1 ?_
    refine PW.iload_n 1 1 dX11_canFly_4 rfl rfl ?_
    refine PW.iconst (v := 0) dX11_canFly_5 (by decide) ?_
    refine PW.bipush (v := 99) dX11_canFly_6 (by decide) ?_
    refine CW.callSi (st := []) [.int a1, .int (0 : Int32), .int (99 : Int32)] dX11_canFly_8 (ps_within rfl) MS_X11_within mL_X11_94 rfl rfl (Nat.le_of_ble_eq_true rfl) (by first | decide | omega) ?_
    refine PW.if_eq (tgt := 41) dX11_canFly_11 (by decide) (fun c4 => ?_) (fun c4 => ?_)
    · replace h := ifp h c4
      refine PW.iconst (v := 0) dX11_canFly_41 (by decide) ?_
      cases h
      subst hx
      exact PW.iret (v := (0 : Int32)) dX11_canFly_42 rfl (narZ (Or.inl rfl)) (Nat.le_refl 0) (Nat.le_refl 0)
    · replace h := ifn h c4
      refine PW.iload_n 2 2 dX11_canFly_14 rfl rfl ?_
      refine PW.iconst (v := 0) dX11_canFly_15 (by decide) ?_
      refine PW.sipush (v := 2000) dX11_canFly_16 (by decide) ?_
      refine CW.callSi (st := []) [.int a2, .int (0 : Int32), .int (2000 : Int32)] dX11_canFly_19 (ps_within rfl) MS_X11_within mL_X11_94 rfl rfl (Nat.le_of_ble_eq_true rfl) (by first | decide | omega) ?_
      refine PW.if_eq (tgt := 41) dX11_canFly_22 (by decide) (fun c6 => ?_) (fun c6 => ?_)
      · replace h := ifp h c6
        refine PW.iconst (v := 0) dX11_canFly_41 (by decide) ?_
        cases h
        subst hx
        exact PW.iret (v := (0 : Int32)) dX11_canFly_42 rfl (narZ (Or.inl rfl)) (Nat.le_refl 0) (Nat.le_refl 0)
      · replace h := ifn h c6
        refine PW.aload_n 0 0 dX11_canFly_25 rfl rfl rfl ?_
        by_cases c7 : kd T2 6
        rotate_left
        · have h := ifn h c7; cases h
        replace h := ifp h c7
        refine CW.callVi (ci := 6) (st := []) [] dX11_canFly_26 (p_X6_pulls c7 rfl) MV_X6_pulls mL_X11_166 (by decide) rfl c7 rfl rfl (Nat.le_of_ble_eq_true rfl) (by first | decide | omega) ?_
        refine PW.iload_n 2 2 dX11_canFly_29 rfl rfl ?_
        refine PW.iadd dX11_canFly_30 ?_
        refine PW.sipush (v := 2000) dX11_canFly_31 (by decide) ?_
        refine PW.icmp_gt (tgt := 41) dX11_canFly_34 (by decide) (fun c9 => ?_) (fun c9 => ?_)
        · replace h := ifp h c9
          refine PW.iconst (v := 0) dX11_canFly_41 (by decide) ?_
          cases h
          subst hx
          exact PW.iret (v := (0 : Int32)) dX11_canFly_42 rfl (narZ (Or.inl rfl)) (Nat.le_refl 0) (Nat.le_refl 0)
        · replace h := ifn h c9
          refine PW.iconst (v := 1) dX11_canFly_37 (by decide) ?_
          refine PW.goto (tgt := 42) dX11_canFly_38 (by decide) ?_
          cases h
          subst hx
          exact PW.iret (v := (1 : Int32)) dX11_canFly_42 rfl (narZ (Or.inr rfl)) (Nat.le_refl 0) (Nat.le_refl 0)
/-! X11_pullsOf -/
def f_X11_pullsOf (a0 : Option Nat) (s : cS) : Option (Int32 × cS) :=
  orf a0 (
    some (((0 : Int32), s))) fun T2 =>
    if kd T2 6 then
    some (((f_X6_pulls T2 s), s))
    else none
set_option maxRecDepth 20000 in
set_option maxHeartbeats 4000000 in
theorem p_X11_pullsOf {g : pG} {l : Launch} {a0 : Option Nat} {s : cS} {q : Int32 × cS} (h : f_X11_pullsOf a0 s = some q) : PM g l 2 M_X11_pullsOf [va_rf a0] (tS s) (some (.int q.1)) (tS q.2) 0 0 := by
  refine PM.of (by decide +kernel) (by cases a0 <;> exact Nat.le_of_ble_eq_true rfl) ?_
  rw [show lv_args 0 [va_rf a0] = [(0, va_rf a0)] from by cases a0 <;> rfl]
  show PW g l (pRoom 2 0 0) M_X11_pullsOf _ 0 [(0, va_rf a0)] [] (tS s) 0 0
  unfold f_X11_pullsOf at h
  generalize hF : pE g (some (.int q.1)) (tS q.2) 0 0 = F
  have hx := hF.symm
  refine PW.aload_n 0 0 dX11_pullsOf_0 rfl rfl (isA_rf _) ?_
  rcases c1 : a0 with _ | T2
  · replace h := orfn h c1
    try rw [c1]
    show PW _ _ _ _ _ _ [(0, .null)] (.null :: []) _ _ _
    refine PW.ifnonnull_null dX11_pullsOf_1 ?_
    refine PW.iconst (v := 0) dX11_pullsOf_4 (by decide) ?_
    refine PW.goto (tgt := 12) dX11_pullsOf_5 (by decide) ?_
    cases h
    subst hx
    exact PW.iret (v := (0 : Int32)) dX11_pullsOf_12 rfl rfl (Nat.le_refl 0) (Nat.le_refl 0)
  · replace h := orfs h c1
    try rw [c1]
    show PW _ _ _ _ _ _ [(0, .ref T2)] (.ref T2 :: []) _ _ _
    refine PW.ifnonnull_ref (tgt := 8) dX11_pullsOf_1 (by decide) ?_
    refine PW.aload_n 0 0 dX11_pullsOf_8 rfl rfl rfl ?_
    by_cases c3 : kd T2 6
    rotate_left
    · have h := ifn h c3; cases h
    replace h := ifp h c3
    refine CW.callVi (ci := 6) (st := []) [] dX11_pullsOf_9 (p_X6_pulls c3 rfl) MV_X6_pulls mL_X11_166 (by decide) rfl c3 rfl rfl (Nat.le_of_ble_eq_true rfl) (by first | decide | omega) ?_
    cases h
    subst hx
    exact PW.iret (v := (f_X6_pulls T2 s)) dX11_pullsOf_12 rfl rfl (Nat.le_refl 0) (Nat.le_refl 0)
