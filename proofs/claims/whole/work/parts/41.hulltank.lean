/-! X11_odds -/
def j_X11_odds_46 (N : Nat) (x1 : Int32) (x2 : Int32) (x3 : Int32) (x4 : Int32) (x5 : Option Nat) (s : cS) : Option (Int64 × cS) :=
  if x4 = (-1 : Int32) then
    ob (f_X5_ways N (f_X1_every s) s) fun r24 s25 =>
    some ((r24, s25))
  else
    ob (f_X11_pullsOf x5 s) fun r11 s12 =>
    ob (f_X5_prepare N (f_X1_every s) x1 x5 x2 (r11 + x3) s12) fun r14 s15 =>
    if x4 = (8 : Int32) then
      ob (f_X5_lost N (f_X1_every s) (r11 + x3) s15) fun r21 s22 =>
      some ((r21, s22))
    else
      ob (f_X5_first N x4 (r11 + x3) s15) fun r18 s19 =>
      some ((r18, s19))
set_option maxRecDepth 20000 in
set_option maxHeartbeats 4000000 in
theorem ok_j_X11_odds_46 {g : pG} {l : Launch} {F : pF} {N : Nat} {x1 : Int32} {x2 : Int32} {x3 : Int32} {x4 : Int32} {x5 : Option Nat} {s : cS} {x : (Int64 × cS)} (h : j_X11_odds_46 N x1 x2 x3 x4 x5 s = some x) (hx : (fun q => F = pE g (some (.long q.1)) (tS q.2) 0 0) x) : PW g l (pRoom 8 0 0) M_X11_odds F 46 [(0, .ref 0), (1, .int x1), (2, .int x2), (3, .int x3), (4, .int x4), (5, va_rf x5)] [] (tS s) 0 0 := by
  unfold j_X11_odds_46 at h
  refine PW.aload_n 0 0 dX11_odds_46 rfl rfl rfl ?_
  refine CW.getr dX11_odds_47 fL_X11_19 LA_0 (Or.inl ⟨_, rfl⟩) rfl ?_
  refine CW.callVi (ci := 1) (st := []) [] dX11_odds_50 (p_X1_every rfl) MV_X1_every mL_X11_217 (by decide) rfl LA_3 rfl rfl (Nat.le_of_ble_eq_true rfl) (by first | decide | omega) ?_
  refine PW.istore (lv' := [(6, .int (f_X1_every s)), (0, .ref 0), (1, .int x1), (2, .int x2), (3, .int x3), (4, .int x4), (5, va_rf x5)]) dX11_odds_53 (Nat.le_of_ble_eq_true rfl) (by cases x5 <;> rfl) ?_
  refine PW.iload 5 dX11_odds_55 rfl ?_
  refine PW.iconst (v := (-1)) dX11_odds_57 (by decide) ?_
  refine PW.icmp_ne (tgt := 71) dX11_odds_58 (by decide) (fun c10 => ?_) (fun c10 => ?_)
  · replace h := ifn h c10
    refine PW.aload 6 dX11_odds_71 rfl (isA_rf _) ?_
    obtain ⟨r11, s12, q13, h⟩ := obnd h
    refine CW.callSi (st := []) [va_rf x5] dX11_odds_73 (p_X11_pullsOf q13) MS_X11_pullsOf mL_X11_224 rfl rfl (Nat.le_of_ble_eq_true rfl) (by first | decide | omega) ?_
    refine PW.iload_n 4 3 dX11_odds_76 rfl rfl ?_
    refine PW.iadd dX11_odds_77 ?_
    refine PW.istore dX11_odds_78 (Nat.le_of_ble_eq_true rfl) rfl ?_
    refine PW.aload_n 2 0 dX11_odds_80 rfl rfl rfl ?_
    refine CW.getr dX11_odds_81 fL_X11_59 LA_0 (Or.inl ⟨_, rfl⟩) rfl ?_
    refine PW.iload 1 dX11_odds_84 rfl ?_
    refine PW.iload_n 3 1 dX11_odds_86 rfl rfl ?_
    refine PW.aload 7 dX11_odds_87 rfl (isA_rf _) ?_
    refine PW.iload_n 4 2 dX11_odds_89 rfl rfl ?_
    refine PW.iload 0 dX11_odds_90 rfl ?_
    obtain ⟨r14, s15, q16, h⟩ := obnd h
    refine CW.callVv (ci := 5) (st := []) [.int (f_X1_every s), .int x1, va_rf x5, .int x2, .int (r11 + x3)] dX11_odds_92 (p_X5_prepare q16) MV_X5_prepare mL_X11_228 (by decide) rfl LA_116 rfl rfl (Nat.le_of_ble_eq_true rfl) (by first | decide | omega) ?_
    refine PW.iload 6 dX11_odds_95 rfl ?_
    refine PW.bipush (v := 8) dX11_odds_97 (by decide) ?_
    refine PW.icmp_ne (tgt := 116) dX11_odds_99 (by decide) (fun c17 => ?_) (fun c17 => ?_)
    · replace h := ifn h c17
      refine PW.aload_n 2 0 dX11_odds_116 rfl rfl rfl ?_
      refine CW.getr dX11_odds_117 fL_X11_59 LA_0 (Or.inl ⟨_, rfl⟩) rfl ?_
      refine PW.iload 6 dX11_odds_120 rfl ?_
      refine PW.iload 0 dX11_odds_122 rfl ?_
      obtain ⟨r18, s19, q20, h⟩ := obnd h
      refine CW.callVl (ci := 5) (st := []) [.int x4, .int (r11 + x3)] dX11_odds_124 (p_X5_first q20) MV_X5_first mL_X11_236 (by decide) rfl LA_116 rfl rfl (Nat.le_of_ble_eq_true rfl) (by first | decide | omega) ?_
      cases h
      subst hx
      exact PW.lret dX11_odds_127 rfl (Nat.le_refl 0) (Nat.le_refl 0)
    · replace h := ifp h c17
      refine PW.aload_n 2 0 dX11_odds_102 rfl rfl rfl ?_
      refine CW.getr dX11_odds_103 fL_X11_59 LA_0 (Or.inl ⟨_, rfl⟩) rfl ?_
      refine PW.iload 1 dX11_odds_106 rfl ?_
      refine PW.iload 0 dX11_odds_108 rfl ?_
      obtain ⟨r21, s22, q23, h⟩ := obnd h
      refine CW.callVl (ci := 5) (st := []) [.int (f_X1_every s), .int (r11 + x3)] dX11_odds_110 (p_X5_lost q23) MV_X5_lost mL_X11_232 (by decide) rfl LA_116 rfl rfl (Nat.le_of_ble_eq_true rfl) (by first | decide | omega) ?_
      refine PW.goto (tgt := 127) dX11_odds_113 (by decide) ?_
      cases h
      subst hx
      exact PW.lret dX11_odds_127 rfl (Nat.le_refl 0) (Nat.le_refl 0)
  · replace h := ifp h c10
    refine PW.aload_n 1 0 dX11_odds_61 rfl rfl rfl ?_
    refine CW.getr dX11_odds_62 fL_X11_59 LA_0 (Or.inl ⟨_, rfl⟩) rfl ?_
    refine PW.iload 0 dX11_odds_65 rfl ?_
    obtain ⟨r24, s25, q26, h⟩ := obnd h
    refine CW.callVl (ci := 5) (st := []) [.int (f_X1_every s)] dX11_odds_67 (p_X5_ways q26) MV_X5_ways mL_X11_220 (by decide) rfl LA_116 rfl rfl (Nat.le_of_ble_eq_true rfl) (by first | decide | omega) ?_
    cases h
    subst hx
    exact PW.lret dX11_odds_70 rfl (Nat.le_refl 0) (Nat.le_refl 0)
def f_X11_odds (N : Nat) (a0 : Int32) (a1 : Int32) (a2 : Int32) (a3 : Int32) (s : cS) : Option (Int64 × cS) :=
  ob (f_X11_programOf a0 s) fun r1 s2 =>
  ob (f_X11_canFly r1 a1 a2 s2) fun r4 s5 =>
  if r4 = 0 then
    some (((-1 : Int64), s5))
  else
    if a3 = (-1 : Int32) then
      j_X11_odds_46 N a0 a1 a2 a3 r1 s5
    else
      if a3 = (8 : Int32) then
        j_X11_odds_46 N a0 a1 a2 a3 r1 s5
      else
        if (f_X1_has a3 s5) = 0 then
          some (((-1 : Int64), s5))
        else
          j_X11_odds_46 N a0 a1 a2 a3 r1 s5
set_option maxRecDepth 20000 in
set_option maxHeartbeats 4000000 in
theorem p_X11_odds {g : pG} {l : Launch} {N : Nat} {a0 : Int32} {a1 : Int32} {a2 : Int32} {a3 : Int32} {s : cS} {q : Int64 × cS} (h : f_X11_odds N a0 a1 a2 a3 s = some q) : PM g l 8 M_X11_odds [.ref 0, .int a0, .int a1, .int a2, .int a3] (tS s) (some (.long q.1)) (tS q.2) 0 0 := by
  refine PM.of (by decide +kernel) (Nat.le_of_ble_eq_true rfl) ?_
  show PW g l (pRoom 8 0 0) M_X11_odds _ 0 [(0, .ref 0), (1, .int a0), (2, .int a1), (3, .int a2), (4, .int a3)] [] (tS s) 0 0
  unfold f_X11_odds at h
  generalize hF : pE g (some (.long q.1)) (tS q.2) 0 0 = F
  have hx := hF.symm
  refine PW.aload_n 0 0 dX11_odds_0 rfl rfl rfl ?_
  refine PW.iload_n 1 1 dX11_odds_1 rfl rfl ?_
  obtain ⟨r1, s2, q3, h⟩ := obnd h
  refine CW.callVr (ci := 11) (st := []) [.int a0] dX11_odds_2 (p_X11_programOf q3) MV_X11_programOf mL_X11_152 (by decide) rfl LA_0 rfl rfl (Nat.le_of_ble_eq_true rfl) (by first | decide | omega) ?_
  refine PW.astore dX11_odds_5 (Nat.le_of_ble_eq_true rfl) rfl (isA_rf _) ?_
  refine PW.aload 0 dX11_odds_7 rfl (isA_rf _) ?_
  refine PW.iload_n 3 2 dX11_odds_9 rfl rfl ?_
  refine PW.iload_n 4 3 dX11_odds_10 rfl rfl ?_
  obtain ⟨r4, s5, q6, h⟩ := obnd h
  refine CW.callSi (st := []) [va_rf r1, .int a1, .int a2] dX11_odds_11 (p_X11_canFly q6) MS_X11_canFly mL_X11_211 rfl rfl (Nat.le_of_ble_eq_true rfl) (by first | decide | omega) ?_
  refine PW.if_eq (tgt := 42) dX11_odds_14 (by decide) (fun c7 => ?_) (fun c7 => ?_)
  · replace h := ifp h c7
    refine PW.ldc2_w dX11_odds_42 kL_X11_215 ?_
    cases h
    subst hx
    exact PW.lret dX11_odds_45 rfl (Nat.le_refl 0) (Nat.le_refl 0)
  · replace h := ifn h c7
    refine PW.iload 5 dX11_odds_17 rfl ?_
    refine PW.iconst (v := (-1)) dX11_odds_19 (by decide) ?_
    refine PW.icmp_eq (tgt := 46) dX11_odds_20 (by decide) (fun c8 => ?_) (fun c8 => ?_)
    · replace h := ifp h c8
      exact PW.pick [1, 2, 3, 4, 5, 0] rfl (ok_j_X11_odds_46 h hx)
    · replace h := ifn h c8
      refine PW.iload 5 dX11_odds_23 rfl ?_
      refine PW.bipush (v := 8) dX11_odds_25 (by decide) ?_
      refine PW.icmp_eq (tgt := 46) dX11_odds_27 (by decide) (fun c27 => ?_) (fun c27 => ?_)
      · replace h := ifp h c27
        exact PW.pick [1, 2, 3, 4, 5, 0] rfl (ok_j_X11_odds_46 h hx)
      · replace h := ifn h c27
        refine PW.aload_n 1 0 dX11_odds_30 rfl rfl rfl ?_
        refine CW.getr dX11_odds_31 fL_X11_19 LA_0 (Or.inl ⟨_, rfl⟩) rfl ?_
        refine PW.iload 5 dX11_odds_34 rfl ?_
        refine CW.callVi (ci := 1) (st := []) [.int a3] dX11_odds_36 (p_X1_has rfl) MV_X1_has mL_X11_107 (by decide) rfl LA_3 rfl rfl (Nat.le_of_ble_eq_true rfl) (by first | decide | omega) ?_
        refine PW.if_ne (tgt := 46) dX11_odds_39 (by decide) (fun c29 => ?_) (fun c29 => ?_)
        · replace h := ifn h c29
          exact PW.pick [1, 2, 3, 4, 5, 0] rfl (ok_j_X11_odds_46 h hx)
        · replace h := ifp h c29
          refine PW.ldc2_w dX11_odds_42 kL_X11_215 ?_
          cases h
          subst hx
          exact PW.lret dX11_odds_45 rfl (Nat.le_refl 0) (Nat.le_refl 0)
/-! X11_shortened -/
def j_X11_shortened_44 (x0 : Int64) (x2 : Int64) (x4 : Int32) (x5 : Int64) (s : cS) : Option (Int64 × cS) :=
  if (lg_cmp x5 (0 : Int64)) = 0 then
    some (((0 : Int64), s))
  else
    if x4 = 0 then
      if x5 = 0 then none else
      some (((x0 / x5), s))
    else
      if x5 = 0 then none else
      some (((x2 / x5), s))
set_option maxRecDepth 20000 in
set_option maxHeartbeats 4000000 in
theorem ok_j_X11_shortened_44 {g : pG} {l : Launch} {F : pF} {x0 : Int64} {x2 : Int64} {x4 : Int32} {x5 : Int64} {s : cS} {x : (Int64 × cS)} (h : j_X11_shortened_44 x0 x2 x4 x5 s = some x) (hx : (fun q => F = pE g (some (.long q.1)) (tS q.2) 0 0) x) : PW g l (pRoom 1 0 0) M_X11_shortened F 44 [(0, .long x0), (2, .long x2), (4, .int x4), (5, .long x5)] [] (tS s) 0 0 := by
  unfold j_X11_shortened_44 at h
  refine PW.lload 3 dX11_shortened_44 rfl ?_
  refine PW.lconst (v := 0) dX11_shortened_46 (by decide) ?_
  refine PW.lcmp dX11_shortened_47 ?_
  refine PW.if_ne (tgt := 53) dX11_shortened_48 (by decide) (fun c2 => ?_) (fun c2 => ?_)
  · replace h := ifn h c2
    refine PW.iload 2 dX11_shortened_53 rfl ?_
    refine PW.if_ne (tgt := 65) dX11_shortened_55 (by decide) (fun c3 => ?_) (fun c3 => ?_)
    · replace h := ifn h c3
      refine PW.lload_n 1 2 dX11_shortened_65 rfl rfl ?_
      refine PW.lload 3 dX11_shortened_66 rfl ?_
      by_cases c4 : x5 = 0
      · have h := ifp h c4; cases h
      replace h := ifn h c4
      refine PW.ldiv dX11_shortened_68 c4 ?_
      cases h
      subst hx
      exact PW.lret dX11_shortened_69 rfl (Nat.le_refl 0) (Nat.le_refl 0)
    · replace h := ifp h c3
      refine PW.lload_n 0 0 dX11_shortened_58 rfl rfl ?_
      refine PW.lload 3 dX11_shortened_59 rfl ?_
      by_cases c5 : x5 = 0
      · have h := ifp h c5; cases h
      replace h := ifn h c5
      refine PW.ldiv dX11_shortened_61 c5 ?_
      refine PW.goto (tgt := 69) dX11_shortened_62 (by decide) ?_
      cases h
      subst hx
      exact PW.lret dX11_shortened_69 rfl (Nat.le_refl 0) (Nat.le_refl 0)
  · replace h := ifp h c2
    refine PW.lconst (v := 0) dX11_shortened_51 (by decide) ?_
    cases h
    subst hx
    exact PW.lret dX11_shortened_52 rfl (Nat.le_refl 0) (Nat.le_refl 0)
def b_X11_shortened_9 (x0 : Int64) (x2 : Int64) (x4 : Int32) (x5 : Int64) (x7 : Int64) (x9 : Int32) (s : cS) : Option (((Int64 × Int64 × Int32) × cS) ⊕ (Int64 × cS)) :=
  if (100 : Int32) ≤ x9 then
    oR (
      j_X11_shortened_44 x0 x2 x4 x5 s)
  else
    if (lg_cmp x7 (0 : Int64)) = 0 then
      oR (
        j_X11_shortened_44 x0 x2 x4 x5 s)
    else
      if x7 = 0 then none else
      some (.inl ((x7, (x5 - x5 / x7 * x7), (x9 + (1 : Int32))), s))
set_option maxRecDepth 20000 in
set_option maxHeartbeats 4000000 in
theorem ok_b_X11_shortened_9 {g : pG} {l : Launch} {F : pF} {x0 : Int64} {x2 : Int64} {x4 : Int32} {x5 : Int64} {x7 : Int64} {x9 : Int32} {s : cS} {x : (((Int64 × Int64 × Int32) × cS) ⊕ (Int64 × cS))} (h : b_X11_shortened_9 x0 x2 x4 x5 x7 x9 s = some x) (hx : (KL (fun (v : (Int64 × Int64 × Int32) × cS) => PW g l (pRoom 1 0 0) M_X11_shortened F 9 [(0, .long x0), (2, .long x2), (4, .int x4), (5, .long v.1.1), (7, .long v.1.2.1), (9, .int v.1.2.2)] [] (tS v.2) 0 0) (fun q => F = pE g (some (.long q.1)) (tS q.2) 0 0)) x) : PW g l (pRoom 1 0 0) M_X11_shortened F 9 [(0, .long x0), (2, .long x2), (4, .int x4), (5, .long x5), (7, .long x7), (9, .int x9)] [] (tS s) 0 0 := by
  unfold b_X11_shortened_9 at h
  refine PW.iload 5 dX11_shortened_9 rfl ?_
  refine PW.bipush (v := 100) dX11_shortened_11 (by decide) ?_
  refine PW.icmp_ge (tgt := 44) dX11_shortened_13 (by decide) (fun c1 => ?_) (fun c1 => ?_)
  · replace h := ifp h c1
    obtain ⟨xo, hy, hxo⟩ := oRb h
    clear h
    subst hxo
    replace hx := KLr hx
    have h := hy
    clear hy
    exact PW.pick [0, 1, 2, 3] rfl (ok_j_X11_shortened_44 h hx)
  · replace h := ifn h c1
    refine PW.lload 4 dX11_shortened_16 rfl ?_
    refine PW.lconst (v := 0) dX11_shortened_18 (by decide) ?_
    refine PW.lcmp dX11_shortened_19 ?_
    refine PW.if_eq (tgt := 44) dX11_shortened_20 (by decide) (fun c6 => ?_) (fun c6 => ?_)
    · replace h := ifp h c6
      obtain ⟨xo, hy, hxo⟩ := oRb h
      clear h
      subst hxo
      replace hx := KLr hx
      have h := hy
      clear hy
      exact PW.pick [0, 1, 2, 3] rfl (ok_j_X11_shortened_44 h hx)
    · replace h := ifn h c6
      refine PW.lload 3 dX11_shortened_23 rfl ?_
      refine PW.lload 4 dX11_shortened_25 rfl ?_
      by_cases c7 : x7 = 0
      · have h := ifp h c7; cases h
      replace h := ifn h c7
      refine PW.lrem dX11_shortened_27 c7 ?_
      refine PW.lstore dX11_shortened_28 (Nat.le_of_ble_eq_true rfl) rfl ?_
      refine PW.lload 5 dX11_shortened_30 rfl ?_
      refine PW.lstore dX11_shortened_32 (Nat.le_of_ble_eq_true rfl) rfl ?_
      refine PW.lload 1 dX11_shortened_34 rfl ?_
      refine PW.lstore dX11_shortened_36 (Nat.le_of_ble_eq_true rfl) rfl ?_
      refine PW.iinc (v := (x9 + (1 : Int32))) 6 dX11_shortened_38 rfl (by first | rfl | decide) (Nat.le_of_ble_eq_true rfl) rfl ?_
      refine PW.goto (tgt := 9) dX11_shortened_41 (by decide) ?_
      cases h
      exact PW.pick [4, 5, 6, 2, 1, 0] rfl hx
def w_X11_shortened_9 (N : Nat) (x0 : Int64) (x2 : Int64) (x4 : Int32) (x5 : Int64) (x7 : Int64) (x9 : Int32) (s : cS) : Option (Int64 × cS) := itr (fun (v : (Int64 × Int64 × Int32) × cS) => b_X11_shortened_9 x0 x2 x4 v.1.1 v.1.2.1 v.1.2.2 v.2) N ((x5, x7, x9), s)
theorem ok_w_X11_shortened_9 {g : pG} {l : Launch} {F : pF} {N : Nat} {x0 : Int64} {x2 : Int64} {x4 : Int32} {x5 : Int64} {x7 : Int64} {x9 : Int32} {s : cS} {x : (Int64 × cS)} (h : w_X11_shortened_9 N x0 x2 x4 x5 x7 x9 s = some x) (hx : (fun q => F = pE g (some (.long q.1)) (tS q.2) 0 0) x) : PW g l (pRoom 1 0 0) M_X11_shortened F 9 [(0, .long x0), (2, .long x2), (4, .int x4), (5, .long x5), (7, .long x7), (9, .int x9)] [] (tS s) 0 0 :=
  okIter (P := (fun (v : (Int64 × Int64 × Int32) × cS) => PW g l (pRoom 1 0 0) M_X11_shortened F 9 [(0, .long x0), (2, .long x2), (4, .int x4), (5, .long v.1.1), (7, .long v.1.2.1), (9, .int v.1.2.2)] [] (tS v.2) 0 0)) (K := (fun q => F = pE g (some (.long q.1)) (tS q.2) 0 0)) (fun v y hB hy => ok_b_X11_shortened_9 hB hy) N ((x5, x7, x9), s) x h hx
def f_X11_shortened (N : Nat) (a0 : Int64) (a1 : Int64) (a2 : Int32) (s : cS) : Option (Int64 × cS) :=
  w_X11_shortened_9 N a0 a1 a2 a0 a1 (0 : Int32) s
set_option maxRecDepth 20000 in
set_option maxHeartbeats 4000000 in
theorem p_X11_shortened {g : pG} {l : Launch} {N : Nat} {a0 : Int64} {a1 : Int64} {a2 : Int32} {s : cS} {q : Int64 × cS} (h : f_X11_shortened N a0 a1 a2 s = some q) : PM g l 1 M_X11_shortened [.long a0, .long a1, .int a2] (tS s) (some (.long q.1)) (tS q.2) 0 0 := by
  refine PM.of (by decide +kernel) (Nat.le_of_ble_eq_true rfl) ?_
  show PW g l (pRoom 1 0 0) M_X11_shortened _ 0 [(0, .long a0), (2, .long a1), (4, .int a2)] [] (tS s) 0 0
  unfold f_X11_shortened at h
  generalize hF : pE g (some (.long q.1)) (tS q.2) 0 0 = F
  have hx := hF.symm
  refine PW.lload_n 0 0 dX11_shortened_0 rfl rfl ?_
  refine PW.lstore dX11_shortened_1 (Nat.le_of_ble_eq_true rfl) rfl ?_
  refine PW.lload_n 2 2 dX11_shortened_3 rfl rfl ?_
  refine PW.lstore dX11_shortened_4 (Nat.le_of_ble_eq_true rfl) rfl ?_
  refine PW.iconst (v := 0) dX11_shortened_6 (by decide) ?_
  refine PW.istore dX11_shortened_7 (Nat.le_of_ble_eq_true rfl) rfl ?_
  exact PW.pick [3, 4, 5, 2, 1, 0] rfl (ok_w_X11_shortened_9 h hx)
/-! X11_left -/
def f_X11_left (N : Nat) (a0 : Int32) (a1 : Int32) (a2 : Int32) (a3 : Int32) (s : cS) : Option (Int64 × cS) :=
  ob (f_X11_programOf a0 s) fun r1 s2 =>
  ob (f_X11_canFly r1 a1 a2 s2) fun r4 s5 =>
  if r4 = 0 then
    some (((-1 : Int64), s5))
  else
    if (wB a3 (0 : Int32) (1 : Int32)) = 0 then
      some (((-1 : Int64), s5))
    else
      ob (f_X11_pullsOf r1 s5) fun r11 s12 =>
      ob (f_X5_prepare N (f_X1_every s5) a0 r1 a1 (r11 + a2) s12) fun r14 s15 =>
      ob (f_X5_lost N (f_X1_every s5) r11 s15) fun r17 s18 =>
      ob (f_X5_ways N (f_X1_every s5) s18) fun r20 s21 =>
      if (lg_cmp (r20 - r17) (0 : Int64)) = 0 then
        some (((-2 : Int64), s21))
      else
        ob (f_X5_lost N (f_X1_every s5) (r11 + a2) s21) fun r24 s25 =>
        ob (f_X11_shortened N (r24 - r17) (r20 - r17) a3 s25) fun r27 s28 =>
        some ((r27, s28))
set_option maxRecDepth 20000 in
set_option maxHeartbeats 4000000 in
theorem p_X11_left {g : pG} {l : Launch} {N : Nat} {a0 : Int32} {a1 : Int32} {a2 : Int32} {a3 : Int32} {s : cS} {q : Int64 × cS} (h : f_X11_left N a0 a1 a2 a3 s = some q) : PM g l 8 M_X11_left [.ref 0, .int a0, .int a1, .int a2, .int a3] (tS s) (some (.long q.1)) (tS q.2) 0 0 := by
  refine PM.of (by decide +kernel) (Nat.le_of_ble_eq_true rfl) ?_
  show PW g l (pRoom 8 0 0) M_X11_left _ 0 [(0, .ref 0), (1, .int a0), (2, .int a1), (3, .int a2), (4, .int a3)] [] (tS s) 0 0
  unfold f_X11_left at h
  generalize hF : pE g (some (.long q.1)) (tS q.2) 0 0 = F
  have hx := hF.symm
  refine PW.aload_n 0 0 dX11_left_0 rfl rfl rfl ?_
  refine PW.iload_n 1 1 dX11_left_1 rfl rfl ?_
  obtain ⟨r1, s2, q3, h⟩ := obnd h
  refine CW.callVr (ci := 11) (st := []) [.int a0] dX11_left_2 (p_X11_programOf q3) MV_X11_programOf mL_X11_152 (by decide) rfl LA_0 rfl rfl (Nat.le_of_ble_eq_true rfl) (by first | decide | omega) ?_
  refine PW.astore dX11_left_5 (Nat.le_of_ble_eq_true rfl) rfl (isA_rf _) ?_
  refine PW.aload 0 dX11_left_7 rfl (isA_rf _) ?_
  refine PW.iload_n 3 2 dX11_left_9 rfl rfl ?_
  refine PW.iload_n 4 3 dX11_left_10 rfl rfl ?_
  obtain ⟨r4, s5, q6, h⟩ := obnd h
  refine CW.callSi (st := []) [va_rf r1, .int a1, .int a2] dX11_left_11 (p_X11_canFly q6) MS_X11_canFly mL_X11_211 rfl rfl (Nat.le_of_ble_eq_true rfl) (by first | decide | omega) ?_
  refine PW.if_eq (tgt := 27) dX11_left_14 (by decide) (fun c7 => ?_) (fun c7 => ?_)
  · replace h := ifp h c7
    refine PW.ldc2_w dX11_left_27 kL_X11_215 ?_
    cases h
    subst hx
    exact PW.lret dX11_left_30 rfl (Nat.le_refl 0) (Nat.le_refl 0)
  · replace h := ifn h c7
    refine PW.iload 5 dX11_left_17 rfl ?_
    refine PW.iconst (v := 0) dX11_left_19 (by decide) ?_
    refine PW.iconst (v := 1) dX11_left_20 (by decide) ?_
    refine CW.callSi (st := []) [.int a3, .int (0 : Int32), .int (1 : Int32)] dX11_left_21 (ps_within rfl) MS_X11_within mL_X11_94 rfl rfl (Nat.le_of_ble_eq_true rfl) (by first | decide | omega) ?_
    refine PW.if_ne (tgt := 31) dX11_left_24 (by decide) (fun c9 => ?_) (fun c9 => ?_)
    · replace h := ifn h c9
      refine PW.aload_n 1 0 dX11_left_31 rfl rfl rfl ?_
      refine CW.getr dX11_left_32 fL_X11_19 LA_0 (Or.inl ⟨_, rfl⟩) rfl ?_
      refine CW.callVi (ci := 1) (st := []) [] dX11_left_35 (p_X1_every rfl) MV_X1_every mL_X11_217 (by decide) rfl LA_3 rfl rfl (Nat.le_of_ble_eq_true rfl) (by first | decide | omega) ?_
      refine PW.istore (lv' := [(6, .int (f_X1_every s5)), (5, va_rf r1), (0, .ref 0), (1, .int a0), (2, .int a1), (3, .int a2), (4, .int a3)]) dX11_left_38 (Nat.le_of_ble_eq_true rfl) (by cases r1 <;> rfl) ?_
      refine PW.aload 1 dX11_left_40 rfl (isA_rf _) ?_
      obtain ⟨r11, s12, q13, h⟩ := obnd h
      refine CW.callSi (st := []) [va_rf r1] dX11_left_42 (p_X11_pullsOf q13) MS_X11_pullsOf mL_X11_224 rfl rfl (Nat.le_of_ble_eq_true rfl) (by first | decide | omega) ?_
      refine PW.istore dX11_left_45 (Nat.le_of_ble_eq_true rfl) rfl ?_
      refine PW.aload_n 3 0 dX11_left_47 rfl rfl rfl ?_
      refine CW.getr dX11_left_48 fL_X11_59 LA_0 (Or.inl ⟨_, rfl⟩) rfl ?_
      refine PW.iload 1 dX11_left_51 rfl ?_
      refine PW.iload_n 4 1 dX11_left_53 rfl rfl ?_
      refine PW.aload 2 dX11_left_54 rfl (isA_rf _) ?_
      refine PW.iload_n 5 2 dX11_left_56 rfl rfl ?_
      refine PW.iload 0 dX11_left_57 rfl ?_
      refine PW.iload_n 6 3 dX11_left_59 rfl rfl ?_
      refine PW.iadd dX11_left_60 ?_
      obtain ⟨r14, s15, q16, h⟩ := obnd h
      refine CW.callVv (ci := 5) (st := []) [.int (f_X1_every s5), .int a0, va_rf r1, .int a1, .int (r11 + a2)] dX11_left_61 (p_X5_prepare q16) MV_X5_prepare mL_X11_228 (by decide) rfl LA_116 rfl rfl (Nat.le_of_ble_eq_true rfl) (by first | decide | omega) ?_
      refine PW.aload_n 3 0 dX11_left_64 rfl rfl rfl ?_
      refine CW.getr dX11_left_65 fL_X11_59 LA_0 (Or.inl ⟨_, rfl⟩) rfl ?_
      refine PW.iload 1 dX11_left_68 rfl ?_
      refine PW.iload 0 dX11_left_70 rfl ?_
      obtain ⟨r17, s18, q19, h⟩ := obnd h
      refine CW.callVl (ci := 5) (st := []) [.int (f_X1_every s5), .int r11] dX11_left_72 (p_X5_lost q19) MV_X5_lost mL_X11_232 (by decide) rfl LA_116 rfl rfl (Nat.le_of_ble_eq_true rfl) (by first | decide | omega) ?_
      refine PW.lstore dX11_left_75 (Nat.le_of_ble_eq_true rfl) rfl ?_
      refine PW.aload_n 4 0 dX11_left_77 rfl rfl rfl ?_
      refine CW.getr dX11_left_78 fL_X11_59 LA_0 (Or.inl ⟨_, rfl⟩) rfl ?_
      refine PW.iload 2 dX11_left_81 rfl ?_
      obtain ⟨r20, s21, q22, h⟩ := obnd h
      refine CW.callVl (ci := 5) (st := []) [.int (f_X1_every s5)] dX11_left_83 (p_X5_ways q22) MV_X5_ways mL_X11_220 (by decide) rfl LA_116 rfl rfl (Nat.le_of_ble_eq_true rfl) (by first | decide | omega) ?_
      refine PW.lload 0 dX11_left_86 rfl ?_
      refine PW.lsub dX11_left_88 ?_
      refine PW.lstore dX11_left_89 (Nat.le_of_ble_eq_true rfl) rfl ?_
      refine PW.lload 0 dX11_left_91 rfl ?_
      refine PW.lconst (v := 0) dX11_left_93 (by decide) ?_
      refine PW.lcmp dX11_left_94 ?_
      refine PW.if_ne (tgt := 102) dX11_left_95 (by decide) (fun c23 => ?_) (fun c23 => ?_)
      · replace h := ifn h c23
        refine PW.aload_n 5 0 dX11_left_102 rfl rfl rfl ?_
        refine CW.getr dX11_left_103 fL_X11_59 LA_0 (Or.inl ⟨_, rfl⟩) rfl ?_
        refine PW.iload 3 dX11_left_106 rfl ?_
        refine PW.iload 2 dX11_left_108 rfl ?_
        refine PW.iload_n 8 3 dX11_left_110 rfl rfl ?_
        refine PW.iadd dX11_left_111 ?_
        obtain ⟨r24, s25, q26, h⟩ := obnd h
        refine CW.callVl (ci := 5) (st := []) [.int (f_X1_every s5), .int (r11 + a2)] dX11_left_112 (p_X5_lost q26) MV_X5_lost mL_X11_232 (by decide) rfl LA_116 rfl rfl (Nat.le_of_ble_eq_true rfl) (by first | decide | omega) ?_
        refine PW.lload 1 dX11_left_115 rfl ?_
        refine PW.lsub dX11_left_117 ?_
        refine PW.lload 0 dX11_left_118 rfl ?_
        refine PW.iload 9 dX11_left_120 rfl ?_
        obtain ⟨r27, s28, q29, h⟩ := obnd h
        refine CW.callSl (st := []) [.long (r24 - r17), .long (r20 - r17), .int a3] dX11_left_122 (p_X11_shortened q29) MS_X11_shortened mL_X11_241 rfl rfl (Nat.le_of_ble_eq_true rfl) (by first | decide | omega) ?_
        cases h
        subst hx
        exact PW.lret dX11_left_125 rfl (Nat.le_refl 0) (Nat.le_refl 0)
      · replace h := ifp h c23
        refine PW.ldc2_w dX11_left_98 kL_X11_239 ?_
        cases h
        subst hx
        exact PW.lret dX11_left_101 rfl (Nat.le_refl 0) (Nat.le_refl 0)
    · replace h := ifp h c9
      refine PW.ldc2_w dX11_left_27 kL_X11_215 ?_
      cases h
      subst hx
      exact PW.lret dX11_left_30 rfl (Nat.le_refl 0) (Nat.le_refl 0)
/-! X11_likely -/
def f_X11_likely (N : Nat) (a0 : Int32) (a1 : Int32) (a2 : Int32) (a3 : Int32) (s : cS) : Option (Int32 × cS) :=
  ob (f_X11_programOf a1 s) fun r1 s2 =>
  if (f_X1_hasPiece a0 s2) = 0 then
    some (((-1 : Int32), s2))
  else
    ob (f_X11_canFly r1 a2 (0 : Int32) s2) fun r6 s7 =>
    if r6 = 0 then
      some (((-1 : Int32), s7))
    else
      if (wB a3 (1 : Int32) (1000 : Int32)) = 0 then
        some (((-1 : Int32), s7))
      else
        ob (f_X5_prepare N a0 a1 r1 a2 (2000 : Int32) s7) fun r12 s13 =>
        ob (f_X11_pullsOf r1 s13) fun r15 s16 =>
        ob (f_X5_flightsTill N a0 r15 a3 s16) fun r18 s19 =>
        some ((r18, s19))
set_option maxRecDepth 20000 in
set_option maxHeartbeats 4000000 in
theorem p_X11_likely {g : pG} {l : Launch} {N : Nat} {a0 : Int32} {a1 : Int32} {a2 : Int32} {a3 : Int32} {s : cS} {q : Int32 × cS} (h : f_X11_likely N a0 a1 a2 a3 s = some q) : PM g l 8 M_X11_likely [.ref 0, .int a0, .int a1, .int a2, .int a3] (tS s) (some (.int q.1)) (tS q.2) 0 0 := by
  refine PM.of (by decide +kernel) (Nat.le_of_ble_eq_true rfl) ?_
  show PW g l (pRoom 8 0 0) M_X11_likely _ 0 [(0, .ref 0), (1, .int a0), (2, .int a1), (3, .int a2), (4, .int a3)] [] (tS s) 0 0
  unfold f_X11_likely at h
  generalize hF : pE g (some (.int q.1)) (tS q.2) 0 0 = F
  have hx := hF.symm
  refine PW.aload_n 0 0 dX11_likely_0 rfl rfl rfl ?_
  refine PW.iload_n 2 2 dX11_likely_1 rfl rfl ?_
  obtain ⟨r1, s2, q3, h⟩ := obnd h
  refine CW.callVr (ci := 11) (st := []) [.int a1] dX11_likely_2 (p_X11_programOf q3) MV_X11_programOf mL_X11_152 (by decide) rfl LA_0 rfl rfl (Nat.le_of_ble_eq_true rfl) (by first | decide | omega) ?_
  refine PW.astore dX11_likely_5 (Nat.le_of_ble_eq_true rfl) rfl (isA_rf _) ?_
  refine PW.aload_n 1 0 dX11_likely_7 rfl rfl rfl ?_
  refine CW.getr dX11_likely_8 fL_X11_19 LA_0 (Or.inl ⟨_, rfl⟩) rfl ?_
  refine PW.iload_n 2 1 dX11_likely_11 rfl rfl ?_
  refine CW.callVi (ci := 1) (st := []) [.int a0] dX11_likely_12 (p_X1_hasPiece rfl) MV_X1_hasPiece mL_X11_245 (by decide) rfl LA_3 rfl rfl (Nat.le_of_ble_eq_true rfl) (by first | decide | omega) ?_
  refine PW.if_eq (tgt := 40) dX11_likely_15 (by decide) (fun c5 => ?_) (fun c5 => ?_)
  · replace h := ifp h c5
    refine PW.iconst (v := (-1)) dX11_likely_40 (by decide) ?_
    cases h
    subst hx
    exact PW.iret (v := (-1 : Int32)) dX11_likely_41 rfl rfl (Nat.le_refl 0) (Nat.le_refl 0)
  · replace h := ifn h c5
    refine PW.aload 0 dX11_likely_18 rfl (isA_rf _) ?_
    refine PW.iload_n 4 3 dX11_likely_20 rfl rfl ?_
    refine PW.iconst (v := 0) dX11_likely_21 (by decide) ?_
    obtain ⟨r6, s7, q8, h⟩ := obnd h
    refine CW.callSi (st := []) [va_rf r1, .int a2, .int (0 : Int32)] dX11_likely_22 (p_X11_canFly q8) MS_X11_canFly mL_X11_211 rfl rfl (Nat.le_of_ble_eq_true rfl) (by first | decide | omega) ?_
    refine PW.if_eq (tgt := 40) dX11_likely_25 (by decide) (fun c9 => ?_) (fun c9 => ?_)
    · replace h := ifp h c9
      refine PW.iconst (v := (-1)) dX11_likely_40 (by decide) ?_
      cases h
      subst hx
      exact PW.iret (v := (-1 : Int32)) dX11_likely_41 rfl rfl (Nat.le_refl 0) (Nat.le_refl 0)
    · replace h := ifn h c9
      refine PW.iload 5 dX11_likely_28 rfl ?_
      refine PW.iconst (v := 1) dX11_likely_30 (by decide) ?_
      refine PW.sipush (v := 1000) dX11_likely_31 (by decide) ?_
      refine CW.callSi (st := []) [.int a3, .int (1 : Int32), .int (1000 : Int32)] dX11_likely_34 (ps_within rfl) MS_X11_within mL_X11_94 rfl rfl (Nat.le_of_ble_eq_true rfl) (by first | decide | omega) ?_
      refine PW.if_ne (tgt := 42) dX11_likely_37 (by decide) (fun c11 => ?_) (fun c11 => ?_)
      · replace h := ifn h c11
        refine PW.aload_n 1 0 dX11_likely_42 rfl rfl rfl ?_
        refine CW.getr dX11_likely_43 fL_X11_59 LA_0 (Or.inl ⟨_, rfl⟩) rfl ?_
        refine PW.iload_n 2 1 dX11_likely_46 rfl rfl ?_
        refine PW.iload_n 3 2 dX11_likely_47 rfl rfl ?_
        refine PW.aload 0 dX11_likely_48 rfl (isA_rf _) ?_
        refine PW.iload_n 4 3 dX11_likely_50 rfl rfl ?_
        refine PW.sipush (v := 2000) dX11_likely_51 (by decide) ?_
        obtain ⟨r12, s13, q14, h⟩ := obnd h
        refine CW.callVv (ci := 5) (st := []) [.int a0, .int a1, va_rf r1, .int a2, .int (2000 : Int32)] dX11_likely_54 (p_X5_prepare q14) MV_X5_prepare mL_X11_228 (by decide) rfl LA_116 rfl rfl (Nat.le_of_ble_eq_true rfl) (by first | decide | omega) ?_
        refine PW.aload_n 1 0 dX11_likely_57 rfl rfl rfl ?_
        refine CW.getr dX11_likely_58 fL_X11_59 LA_0 (Or.inl ⟨_, rfl⟩) rfl ?_
        refine PW.iload_n 2 1 dX11_likely_61 rfl rfl ?_
        refine PW.aload 0 dX11_likely_62 rfl (isA_rf _) ?_
        obtain ⟨r15, s16, q17, h⟩ := obnd h
        refine CW.callSi (st := [.int a0, .ref 116]) [va_rf r1] dX11_likely_64 (p_X11_pullsOf q17) MS_X11_pullsOf mL_X11_224 rfl rfl (Nat.le_of_ble_eq_true rfl) (by first | decide | omega) ?_
        refine PW.iload 5 dX11_likely_67 rfl ?_
        obtain ⟨r18, s19, q20, h⟩ := obnd h
        refine CW.callVi (ci := 5) (st := []) [.int a0, .int r15, .int a3] dX11_likely_69 (p_X5_flightsTill q20) MV_X5_flightsTill mL_X11_248 (by decide) rfl LA_116 rfl rfl (Nat.le_of_ble_eq_true rfl) (by first | decide | omega) ?_
        cases h
        subst hx
        exact PW.iret (v := r18) dX11_likely_72 rfl rfl (Nat.le_refl 0) (Nat.le_refl 0)
      · replace h := ifp h c11
        refine PW.iconst (v := (-1)) dX11_likely_40 (by decide) ?_
        cases h
        subst hx
        exact PW.iret (v := (-1 : Int32)) dX11_likely_41 rfl rfl (Nat.le_refl 0) (Nat.le_refl 0)
/-! X11_off -/
def f_X11_off (N : Nat) (a0 : Int32) (a1 : Int32) (a2 : Int32) (s : cS) : Option (Int32 × cS) :=
  ob (f_X11_programOf a1 s) fun r1 s2 =>
  if (f_X1_hasPiece a0 s2) = 0 then
    some (((-100000 : Int32), s2))
  else
    ob (f_X11_canFly r1 a2 (0 : Int32) s2) fun r6 s7 =>
    if r6 = 0 then
      some (((-100000 : Int32), s7))
    else
      ob (f_X5_prepare N a0 a1 r1 a2 (2000 : Int32) s7) fun r10 s11 =>
      ob (f_X11_pullsOf r1 s11) fun r13 s14 =>
      ob (f_X5_flightsTill N a0 r13 (500 : Int32) s14) fun r16 s17 =>
      ob (f_X5_prepare N (f_X1_every s17) (16 : Int32) (some 29) a2 (2000 : Int32) s17) fun r20 s21 =>
      ob (f_X5_flightsTill N (f_X1_every s17) (0 : Int32) (500 : Int32) s21) fun r23 s24 =>
      if r16 < 0 then
        some (((-100000 : Int32), s24))
      else
        if 0 ≤ r23 then
          some (((r16 - r23), s24))
        else
          some (((-100000 : Int32), s24))
set_option maxRecDepth 20000 in
set_option maxHeartbeats 4000000 in
theorem p_X11_off {g : pG} {l : Launch} {N : Nat} {a0 : Int32} {a1 : Int32} {a2 : Int32} {s : cS} {q : Int32 × cS} (h : f_X11_off N a0 a1 a2 s = some q) : PM g l 8 M_X11_off [.ref 0, .int a0, .int a1, .int a2] (tS s) (some (.int q.1)) (tS q.2) 0 0 := by
  refine PM.of (by decide +kernel) (Nat.le_of_ble_eq_true rfl) ?_
  show PW g l (pRoom 8 0 0) M_X11_off _ 0 [(0, .ref 0), (1, .int a0), (2, .int a1), (3, .int a2)] [] (tS s) 0 0
  unfold f_X11_off at h
  generalize hF : pE g (some (.int q.1)) (tS q.2) 0 0 = F
  have hx := hF.symm
  refine PW.aload_n 0 0 dX11_off_0 rfl rfl rfl ?_
  refine PW.iload_n 2 2 dX11_off_1 rfl rfl ?_
  obtain ⟨r1, s2, q3, h⟩ := obnd h
  refine CW.callVr (ci := 11) (st := []) [.int a1] dX11_off_2 (p_X11_programOf q3) MV_X11_programOf mL_X11_152 (by decide) rfl LA_0 rfl rfl (Nat.le_of_ble_eq_true rfl) (by first | decide | omega) ?_
  refine PW.astore dX11_off_5 (Nat.le_of_ble_eq_true rfl) rfl (isA_rf _) ?_
  refine PW.aload_n 1 0 dX11_off_7 rfl rfl rfl ?_
  refine CW.getr dX11_off_8 fL_X11_19 LA_0 (Or.inl ⟨_, rfl⟩) rfl ?_
  refine PW.iload_n 2 1 dX11_off_11 rfl rfl ?_
  refine CW.callVi (ci := 1) (st := []) [.int a0] dX11_off_12 (p_X1_hasPiece rfl) MV_X1_hasPiece mL_X11_245 (by decide) rfl LA_3 rfl rfl (Nat.le_of_ble_eq_true rfl) (by first | decide | omega) ?_
  refine PW.if_eq (tgt := 28) dX11_off_15 (by decide) (fun c5 => ?_) (fun c5 => ?_)
  · replace h := ifp h c5
    refine PW.ldc dX11_off_28 kL_X11_251 ?_
    cases h
    subst hx
    exact PW.iret (v := (-100000 : Int32)) dX11_off_30 rfl rfl (Nat.le_refl 0) (Nat.le_refl 0)
  · replace h := ifn h c5
    refine PW.aload 0 dX11_off_18 rfl (isA_rf _) ?_
    refine PW.iload_n 4 3 dX11_off_20 rfl rfl ?_
    refine PW.iconst (v := 0) dX11_off_21 (by decide) ?_
    obtain ⟨r6, s7, q8, h⟩ := obnd h
    refine CW.callSi (st := []) [va_rf r1, .int a2, .int (0 : Int32)] dX11_off_22 (p_X11_canFly q8) MS_X11_canFly mL_X11_211 rfl rfl (Nat.le_of_ble_eq_true rfl) (by first | decide | omega) ?_
    refine PW.if_ne (tgt := 31) dX11_off_25 (by decide) (fun c9 => ?_) (fun c9 => ?_)
    · replace h := ifn h c9
      refine PW.aload_n 1 0 dX11_off_31 rfl rfl rfl ?_
      refine CW.getr dX11_off_32 fL_X11_59 LA_0 (Or.inl ⟨_, rfl⟩) rfl ?_
      refine PW.iload_n 2 1 dX11_off_35 rfl rfl ?_
      refine PW.iload_n 3 2 dX11_off_36 rfl rfl ?_
      refine PW.aload 0 dX11_off_37 rfl (isA_rf _) ?_
      refine PW.iload_n 4 3 dX11_off_39 rfl rfl ?_
      refine PW.sipush (v := 2000) dX11_off_40 (by decide) ?_
      obtain ⟨r10, s11, q12, h⟩ := obnd h
      refine CW.callVv (ci := 5) (st := []) [.int a0, .int a1, va_rf r1, .int a2, .int (2000 : Int32)] dX11_off_43 (p_X5_prepare q12) MV_X5_prepare mL_X11_228 (by decide) rfl LA_116 rfl rfl (Nat.le_of_ble_eq_true rfl) (by first | decide | omega) ?_
      refine PW.aload_n 1 0 dX11_off_46 rfl rfl rfl ?_
      refine CW.getr dX11_off_47 fL_X11_59 LA_0 (Or.inl ⟨_, rfl⟩) rfl ?_
      refine PW.iload_n 2 1 dX11_off_50 rfl rfl ?_
      refine PW.aload 0 dX11_off_51 rfl (isA_rf _) ?_
      obtain ⟨r13, s14, q15, h⟩ := obnd h
      refine CW.callSi (st := [.int a0, .ref 116]) [va_rf r1] dX11_off_53 (p_X11_pullsOf q15) MS_X11_pullsOf mL_X11_224 rfl rfl (Nat.le_of_ble_eq_true rfl) (by first | decide | omega) ?_
      refine PW.sipush (v := 500) dX11_off_56 (by decide) ?_
      obtain ⟨r16, s17, q18, h⟩ := obnd h
      refine CW.callVi (ci := 5) (st := []) [.int a0, .int r13, .int (500 : Int32)] dX11_off_59 (p_X5_flightsTill q18) MV_X5_flightsTill mL_X11_248 (by decide) rfl LA_116 rfl rfl (Nat.le_of_ble_eq_true rfl) (by first | decide | omega) ?_
      refine PW.istore (lv' := [(5, .int r16), (4, va_rf r1), (0, .ref 0), (1, .int a0), (2, .int a1), (3, .int a2)]) dX11_off_62 (Nat.le_of_ble_eq_true rfl) (by cases r1 <;> rfl) ?_
      refine PW.aload_n 2 0 dX11_off_64 rfl rfl rfl ?_
      refine CW.getr dX11_off_65 fL_X11_19 LA_0 (Or.inl ⟨_, rfl⟩) rfl ?_
      refine CW.callVi (ci := 1) (st := []) [] dX11_off_68 (p_X1_every rfl) MV_X1_every mL_X11_217 (by decide) rfl LA_3 rfl rfl (Nat.le_of_ble_eq_true rfl) (by first | decide | omega) ?_
      refine PW.istore dX11_off_71 (Nat.le_of_ble_eq_true rfl) rfl ?_
      refine PW.aload_n 3 0 dX11_off_73 rfl rfl rfl ?_
      refine CW.getr dX11_off_74 fL_X11_59 LA_0 (Or.inl ⟨_, rfl⟩) rfl ?_
      refine PW.iload 0 dX11_off_77 rfl ?_
      refine PW.bipush (v := 16) dX11_off_79 (by decide) ?_
      refine PW.aload_n 3 0 dX11_off_81 rfl rfl rfl ?_
      refine CW.getr dX11_off_82 fL_X11_43 LA_0 (Or.inl ⟨_, rfl⟩) rfl ?_
      refine PW.iload_n 6 3 dX11_off_85 rfl rfl ?_
      refine PW.sipush (v := 2000) dX11_off_86 (by decide) ?_
      obtain ⟨r20, s21, q22, h⟩ := obnd h
      refine CW.callVv (ci := 5) (st := []) [.int (f_X1_every s17), .int (16 : Int32), va_rf (some 29), .int a2, .int (2000 : Int32)] dX11_off_89 (p_X5_prepare q22) MV_X5_prepare mL_X11_228 (by decide) rfl LA_116 rfl rfl (Nat.le_of_ble_eq_true rfl) (by first | decide | omega) ?_
      refine PW.aload_n 3 0 dX11_off_92 rfl rfl rfl ?_
      refine CW.getr dX11_off_93 fL_X11_59 LA_0 (Or.inl ⟨_, rfl⟩) rfl ?_
      refine PW.iload 0 dX11_off_96 rfl ?_
      refine PW.iconst (v := 0) dX11_off_98 (by decide) ?_
      refine PW.sipush (v := 500) dX11_off_99 (by decide) ?_
      obtain ⟨r23, s24, q25, h⟩ := obnd h
      refine CW.callVi (ci := 5) (st := []) [.int (f_X1_every s17), .int (0 : Int32), .int (500 : Int32)] dX11_off_102 (p_X5_flightsTill q25) MV_X5_flightsTill mL_X11_248 (by decide) rfl LA_116 rfl rfl (Nat.le_of_ble_eq_true rfl) (by first | decide | omega) ?_
      refine PW.istore dX11_off_105 (Nat.le_of_ble_eq_true rfl) rfl ?_
      refine PW.iload 2 dX11_off_107 rfl ?_
      refine PW.if_lt (tgt := 117) dX11_off_109 (by decide) (fun c26 => ?_) (fun c26 => ?_)
      · replace h := ifp h c26
        refine PW.ldc dX11_off_117 kL_X11_251 ?_
        refine PW.goto (tgt := 127) dX11_off_119 (by decide) ?_
        cases h
        subst hx
        exact PW.iret (v := (-100000 : Int32)) dX11_off_127 rfl rfl (Nat.le_refl 0) (Nat.le_refl 0)
      · replace h := ifn h c26
        refine PW.iload 0 dX11_off_112 rfl ?_
        refine PW.if_ge (tgt := 122) dX11_off_114 (by decide) (fun c27 => ?_) (fun c27 => ?_)
        · replace h := ifp h c27
          refine PW.iload 2 dX11_off_122 rfl ?_
          refine PW.iload 0 dX11_off_124 rfl ?_
          refine PW.isub dX11_off_126 ?_
          cases h
          subst hx
          exact PW.iret (v := (r16 - r23)) dX11_off_127 rfl rfl (Nat.le_refl 0) (Nat.le_refl 0)
        · replace h := ifn h c27
          refine PW.ldc dX11_off_117 kL_X11_251 ?_
          refine PW.goto (tgt := 127) dX11_off_119 (by decide) ?_
          cases h
          subst hx
          exact PW.iret (v := (-100000 : Int32)) dX11_off_127 rfl rfl (Nat.le_refl 0) (Nat.le_refl 0)
    · replace h := ifp h c9
      refine PW.ldc dX11_off_28 kL_X11_251 ?_
      cases h
      subst hx
      exact PW.iret (v := (-100000 : Int32)) dX11_off_30 rfl rfl (Nat.le_refl 0) (Nat.le_refl 0)
/-! X11_trial -/
def f_X11_trial (N : Nat) (a0 : Int32) (a1 : Int32) (a2 : Int32) (a3 : Int32) (a4 : Int32) (s : cS) : Option (Int32 × cS) :=
  ob (f_X11_programOf a1 s) fun r1 s2 =>
  if (f_X1_hasPiece a0 s2) = 0 then
    some (((-1 : Int32), s2))
  else
    ob (f_X11_canFly r1 a2 a3 s2) fun r6 s7 =>
    if r6 = 0 then
      some (((-1 : Int32), s7))
    else
      if (wB a4 (1 : Int32) (10000 : Int32)) = 0 then
        some (((-1 : Int32), s7))
      else
        if (f_X10_size s7) < (8 : Int32) then
          ob (f_X10_add N a0 r1 a2 a3 a4 s7) fun r14 s15 =>
          some ((r14, s15))
        else
          some (((-1 : Int32), s7))
set_option maxRecDepth 20000 in
set_option maxHeartbeats 4000000 in
theorem p_X11_trial {g : pG} {l : Launch} {N : Nat} {a0 : Int32} {a1 : Int32} {a2 : Int32} {a3 : Int32} {a4 : Int32} {s : cS} {q : Int32 × cS} (h : f_X11_trial N a0 a1 a2 a3 a4 s = some q) : PM g l 3 M_X11_trial [.ref 0, .int a0, .int a1, .int a2, .int a3, .int a4] (tS s) (some (.int q.1)) (tS q.2) 0 0 := by
  refine PM.of (by decide +kernel) (Nat.le_of_ble_eq_true rfl) ?_
  show PW g l (pRoom 3 0 0) M_X11_trial _ 0 [(0, .ref 0), (1, .int a0), (2, .int a1), (3, .int a2), (4, .int a3), (5, .int a4)] [] (tS s) 0 0
  unfold f_X11_trial at h
  generalize hF : pE g (some (.int q.1)) (tS q.2) 0 0 = F
  have hx := hF.symm
  refine PW.aload_n 0 0 dX11_trial_0 rfl rfl rfl ?_
  refine PW.iload_n 2 2 dX11_trial_1 rfl rfl ?_
  obtain ⟨r1, s2, q3, h⟩ := obnd h
  refine CW.callVr (ci := 11) (st := []) [.int a1] dX11_trial_2 (p_X11_programOf q3) MV_X11_programOf mL_X11_152 (by decide) rfl LA_0 rfl rfl (Nat.le_of_ble_eq_true rfl) (by first | decide | omega) ?_
  refine PW.astore dX11_trial_5 (Nat.le_of_ble_eq_true rfl) rfl (isA_rf _) ?_
  refine PW.aload_n 1 0 dX11_trial_7 rfl rfl rfl ?_
  refine CW.getr dX11_trial_8 fL_X11_19 LA_0 (Or.inl ⟨_, rfl⟩) rfl ?_
  refine PW.iload_n 2 1 dX11_trial_11 rfl rfl ?_
  refine CW.callVi (ci := 1) (st := []) [.int a0] dX11_trial_12 (p_X1_hasPiece rfl) MV_X1_hasPiece mL_X11_245 (by decide) rfl LA_3 rfl rfl (Nat.le_of_ble_eq_true rfl) (by first | decide | omega) ?_
  refine PW.if_eq (tgt := 41) dX11_trial_15 (by decide) (fun c5 => ?_) (fun c5 => ?_)
  · replace h := ifp h c5
    refine PW.iconst (v := (-1)) dX11_trial_41 (by decide) ?_
    cases h
    subst hx
    exact PW.iret (v := (-1 : Int32)) dX11_trial_42 rfl rfl (Nat.le_refl 0) (Nat.le_refl 0)
  · replace h := ifn h c5
    refine PW.aload 0 dX11_trial_18 rfl (isA_rf _) ?_
    refine PW.iload_n 4 3 dX11_trial_20 rfl rfl ?_
    refine PW.iload 5 dX11_trial_21 rfl ?_
    obtain ⟨r6, s7, q8, h⟩ := obnd h
    refine CW.callSi (st := []) [va_rf r1, .int a2, .int a3] dX11_trial_23 (p_X11_canFly q8) MS_X11_canFly mL_X11_211 rfl rfl (Nat.le_of_ble_eq_true rfl) (by first | decide | omega) ?_
    refine PW.if_eq (tgt := 41) dX11_trial_26 (by decide) (fun c9 => ?_) (fun c9 => ?_)
    · replace h := ifp h c9
      refine PW.iconst (v := (-1)) dX11_trial_41 (by decide) ?_
      cases h
      subst hx
      exact PW.iret (v := (-1 : Int32)) dX11_trial_42 rfl rfl (Nat.le_refl 0) (Nat.le_refl 0)
    · replace h := ifn h c9
      refine PW.iload 6 dX11_trial_29 rfl ?_
      refine PW.iconst (v := 1) dX11_trial_31 (by decide) ?_
      refine PW.sipush (v := 10000) dX11_trial_32 (by decide) ?_
      refine CW.callSi (st := []) [.int a4, .int (1 : Int32), .int (10000 : Int32)] dX11_trial_35 (ps_within rfl) MS_X11_within mL_X11_94 rfl rfl (Nat.le_of_ble_eq_true rfl) (by first | decide | omega) ?_
      refine PW.if_ne (tgt := 43) dX11_trial_38 (by decide) (fun c11 => ?_) (fun c11 => ?_)
      · replace h := ifn h c11
        refine PW.aload_n 1 0 dX11_trial_43 rfl rfl rfl ?_
        refine CW.getr dX11_trial_44 fL_X11_66 LA_0 (Or.inl ⟨_, rfl⟩) rfl ?_
        refine CW.callVi (ci := 10) (st := []) [] dX11_trial_47 (p_X10_size rfl) MV_X10_size mL_X11_252 (by decide) rfl LA_124 rfl rfl (Nat.le_of_ble_eq_true rfl) (by first | decide | omega) ?_
        refine PW.bipush (v := 8) dX11_trial_50 (by decide) ?_
        refine PW.icmp_lt (tgt := 57) dX11_trial_52 (by decide) (fun c13 => ?_) (fun c13 => ?_)
        · replace h := ifp h c13
          refine PW.aload_n 1 0 dX11_trial_57 rfl rfl rfl ?_
          refine CW.getr dX11_trial_58 fL_X11_66 LA_0 (Or.inl ⟨_, rfl⟩) rfl ?_
          refine PW.iload_n 2 1 dX11_trial_61 rfl rfl ?_
          refine PW.aload 0 dX11_trial_62 rfl (isA_rf _) ?_
          refine PW.iload_n 4 3 dX11_trial_64 rfl rfl ?_
          refine PW.iload 5 dX11_trial_65 rfl ?_
          refine PW.iload 6 dX11_trial_67 rfl ?_
          obtain ⟨r14, s15, q16, h⟩ := obnd h
          refine CW.callVi (ci := 10) (st := []) [.int a0, va_rf r1, .int a2, .int a3, .int a4] dX11_trial_69 (p_X10_add q16) MV_X10_add mL_X11_253 (by decide) rfl LA_124 rfl rfl (Nat.le_of_ble_eq_true rfl) (by first | decide | omega) ?_
          cases h
          subst hx
          exact PW.iret (v := r14) dX11_trial_72 rfl rfl (Nat.le_refl 0) (Nat.le_refl 0)
        · replace h := ifn h c13
          refine PW.iconst (v := (-1)) dX11_trial_55 (by decide) ?_
          cases h
          subst hx
          exact PW.iret (v := (-1 : Int32)) dX11_trial_56 rfl rfl (Nat.le_refl 0) (Nat.le_refl 0)
      · replace h := ifp h c11
        refine PW.iconst (v := (-1)) dX11_trial_41 (by decide) ?_
        cases h
        subst hx
        exact PW.iret (v := (-1 : Int32)) dX11_trial_42 rfl rfl (Nat.le_refl 0) (Nat.le_refl 0)
/-! X11_says -/
def f_X11_says (N : Nat) (a0 : Int32) (a1 : Int32) (s : cS) : Option (Int64 × cS) :=
  if (f_X10_has a0 s) = 0 then
    some (((-1 : Int64), s))
  else
    if (wB a1 (0 : Int32) (1 : Int32)) = 0 then
      some (((-1 : Int64), s))
    else
      ob (f_X10_program a0 s) fun r6 s7 =>
      ob (f_X5_prepare N (f_X10_piece a0 s) ((8 : Int32) + a0) r6 (f_X10_pressure a0 s7) (f_X10_pulls a0 s7) s7) fun r11 s12 =>
      ob (f_X5_lost N (f_X10_piece a0 s) (f_X10_pulls a0 s12) s12) fun r15 s16 =>
      ob (f_X5_ways N (f_X10_piece a0 s) s16) fun r18 s19 =>
      ob (f_X11_shortened N r15 r18 a1 s19) fun r21 s22 =>
      some ((r21, s22))
set_option maxRecDepth 20000 in
set_option maxHeartbeats 4000000 in
theorem p_X11_says {g : pG} {l : Launch} {N : Nat} {a0 : Int32} {a1 : Int32} {s : cS} {q : Int64 × cS} (h : f_X11_says N a0 a1 s = some q) : PM g l 8 M_X11_says [.ref 0, .int a0, .int a1] (tS s) (some (.long q.1)) (tS q.2) 0 0 := by
  refine PM.of (by decide +kernel) (Nat.le_of_ble_eq_true rfl) ?_
  show PW g l (pRoom 8 0 0) M_X11_says _ 0 [(0, .ref 0), (1, .int a0), (2, .int a1)] [] (tS s) 0 0
  unfold f_X11_says at h
  generalize hF : pE g (some (.long q.1)) (tS q.2) 0 0 = F
  have hx := hF.symm
  refine PW.aload_n 0 0 dX11_says_0 rfl rfl rfl ?_
  refine CW.getr dX11_says_1 fL_X11_66 LA_0 (Or.inl ⟨_, rfl⟩) rfl ?_
  refine PW.iload_n 1 1 dX11_says_4 rfl rfl ?_
  refine CW.callVi (ci := 10) (st := []) [.int a0] dX11_says_5 (p_X10_has rfl) MV_X10_has mL_X11_256 (by decide) rfl LA_124 rfl rfl (Nat.le_of_ble_eq_true rfl) (by first | decide | omega) ?_
  refine PW.if_eq (tgt := 20) dX11_says_8 (by decide) (fun c2 => ?_) (fun c2 => ?_)
  · replace h := ifp h c2
    refine PW.ldc2_w dX11_says_20 kL_X11_215 ?_
    cases h
    subst hx
    exact PW.lret dX11_says_23 rfl (Nat.le_refl 0) (Nat.le_refl 0)
  · replace h := ifn h c2
    refine PW.iload_n 2 2 dX11_says_11 rfl rfl ?_
    refine PW.iconst (v := 0) dX11_says_12 (by decide) ?_
    refine PW.iconst (v := 1) dX11_says_13 (by decide) ?_
    refine CW.callSi (st := []) [.int a1, .int (0 : Int32), .int (1 : Int32)] dX11_says_14 (ps_within rfl) MS_X11_within mL_X11_94 rfl rfl (Nat.le_of_ble_eq_true rfl) (by first | decide | omega) ?_
    refine PW.if_ne (tgt := 24) dX11_says_17 (by decide) (fun c4 => ?_) (fun c4 => ?_)
    · replace h := ifn h c4
      refine PW.aload_n 0 0 dX11_says_24 rfl rfl rfl ?_
      refine CW.getr dX11_says_25 fL_X11_66 LA_0 (Or.inl ⟨_, rfl⟩) rfl ?_
      refine PW.iload_n 1 1 dX11_says_28 rfl rfl ?_
      refine CW.callVi (ci := 10) (st := []) [.int a0] dX11_says_29 (p_X10_piece rfl) MV_X10_piece mL_X11_257 (by decide) rfl LA_124 rfl rfl (Nat.le_of_ble_eq_true rfl) (by first | decide | omega) ?_
      refine PW.istore_n dX11_says_32 rfl (Nat.le_of_ble_eq_true rfl) rfl ?_
      refine PW.aload_n 1 0 dX11_says_33 rfl rfl rfl ?_
      refine CW.getr dX11_says_34 fL_X11_59 LA_0 (Or.inl ⟨_, rfl⟩) rfl ?_
      refine PW.iload_n 0 3 dX11_says_37 rfl rfl ?_
      refine PW.bipush (v := 8) dX11_says_38 (by decide) ?_
      refine PW.iload_n 2 1 dX11_says_40 rfl rfl ?_
      refine PW.iadd dX11_says_41 ?_
      refine PW.aload_n 1 0 dX11_says_42 rfl rfl rfl ?_
      refine CW.getr dX11_says_43 fL_X11_66 LA_0 (Or.inl ⟨_, rfl⟩) rfl ?_
      refine PW.iload_n 2 1 dX11_says_46 rfl rfl ?_
      obtain ⟨r6, s7, q8, h⟩ := obnd h
      refine CW.callVr (ci := 10) (st := [.int ((8 : Int32) + a0), .int (f_X10_piece a0 s), .ref 116]) [.int a0] dX11_says_47 (p_X10_program q8) MV_X10_program mL_X11_260 (by decide) rfl LA_124 rfl rfl (Nat.le_of_ble_eq_true rfl) (by first | decide | omega) ?_
      refine PW.aload_n 1 0 dX11_says_50 rfl rfl rfl ?_
      refine CW.getr dX11_says_51 fL_X11_66 LA_0 (Or.inl ⟨_, rfl⟩) rfl ?_
      refine PW.iload_n 2 1 dX11_says_54 rfl rfl ?_
      refine CW.callVi (ci := 10) (st := [va_rf r6, .int ((8 : Int32) + a0), .int (f_X10_piece a0 s), .ref 116]) [.int a0] dX11_says_55 (p_X10_pressure rfl) MV_X10_pressure mL_X11_263 (by decide) rfl LA_124 rfl rfl (by cases r6 <;> exact Nat.le_of_ble_eq_true rfl) (by first | decide | omega) ?_
      refine PW.aload_n 1 0 dX11_says_58 rfl rfl rfl ?_
      refine CW.getr dX11_says_59 fL_X11_66 LA_0 (Or.inl ⟨_, rfl⟩) rfl ?_
      refine PW.iload_n 2 1 dX11_says_62 rfl rfl ?_
      refine CW.callVi (ci := 10) (st := [.int (f_X10_pressure a0 s7), va_rf r6, .int ((8 : Int32) + a0), .int (f_X10_piece a0 s), .ref 116]) [.int a0] dX11_says_63 (p_X10_pulls rfl) MV_X10_pulls mL_X11_266 (by decide) rfl LA_124 rfl rfl (by cases r6 <;> exact Nat.le_of_ble_eq_true rfl) (by first | decide | omega) ?_
      obtain ⟨r11, s12, q13, h⟩ := obnd h
      refine CW.callVv (ci := 5) (st := []) [.int (f_X10_piece a0 s), .int ((8 : Int32) + a0), va_rf r6, .int (f_X10_pressure a0 s7), .int (f_X10_pulls a0 s7)] dX11_says_66 (p_X5_prepare q13) MV_X5_prepare mL_X11_228 (by decide) rfl LA_116 rfl rfl (Nat.le_of_ble_eq_true rfl) (by first | decide | omega) ?_
      refine PW.aload_n 1 0 dX11_says_69 rfl rfl rfl ?_
      refine CW.getr dX11_says_70 fL_X11_59 LA_0 (Or.inl ⟨_, rfl⟩) rfl ?_
      refine PW.iload_n 0 3 dX11_says_73 rfl rfl ?_
      refine PW.aload_n 1 0 dX11_says_74 rfl rfl rfl ?_
      refine CW.getr dX11_says_75 fL_X11_66 LA_0 (Or.inl ⟨_, rfl⟩) rfl ?_
      refine PW.iload_n 2 1 dX11_says_78 rfl rfl ?_
      refine CW.callVi (ci := 10) (st := [.int (f_X10_piece a0 s), .ref 116]) [.int a0] dX11_says_79 (p_X10_pulls rfl) MV_X10_pulls mL_X11_266 (by decide) rfl LA_124 rfl rfl (Nat.le_of_ble_eq_true rfl) (by first | decide | omega) ?_
      obtain ⟨r15, s16, q17, h⟩ := obnd h
      refine CW.callVl (ci := 5) (st := []) [.int (f_X10_piece a0 s), .int (f_X10_pulls a0 s12)] dX11_says_82 (p_X5_lost q17) MV_X5_lost mL_X11_232 (by decide) rfl LA_116 rfl rfl (Nat.le_of_ble_eq_true rfl) (by first | decide | omega) ?_
      refine PW.aload_n 1 0 dX11_says_85 rfl rfl rfl ?_
      refine CW.getr dX11_says_86 fL_X11_59 LA_0 (Or.inl ⟨_, rfl⟩) rfl ?_
      refine PW.iload_n 0 3 dX11_says_89 rfl rfl ?_
      obtain ⟨r18, s19, q20, h⟩ := obnd h
      refine CW.callVl (ci := 5) (st := [.long r15]) [.int (f_X10_piece a0 s)] dX11_says_90 (p_X5_ways q20) MV_X5_ways mL_X11_220 (by decide) rfl LA_116 rfl rfl (Nat.le_of_ble_eq_true rfl) (by first | decide | omega) ?_
      refine PW.iload_n 3 2 dX11_says_93 rfl rfl ?_
      obtain ⟨r21, s22, q23, h⟩ := obnd h
      refine CW.callSl (st := []) [.long r15, .long r18, .int a1] dX11_says_94 (p_X11_shortened q23) MS_X11_shortened mL_X11_241 rfl rfl (Nat.le_of_ble_eq_true rfl) (by first | decide | omega) ?_
      cases h
      subst hx
      exact PW.lret dX11_says_97 rfl (Nat.le_refl 0) (Nat.le_refl 0)
    · replace h := ifp h c4
      refine PW.ldc2_w dX11_says_20 kL_X11_215 ?_
      cases h
      subst hx
      exact PW.lret dX11_says_23 rfl (Nat.le_refl 0) (Nat.le_refl 0)
/-! X11_cheapest -/
def j_X11_cheapest_154 (x1 : Int32) (x2 : Int32) (x3 : Int32) (s : cS) : Option (((Int32 × Int32) × cS) ⊕ (Int32 × cS)) :=
  some (.inl ((x2, (x3 + (1 : Int32))), s))
set_option maxRecDepth 20000 in
set_option maxHeartbeats 4000000 in
theorem ok_j_X11_cheapest_154 {g : pG} {l : Launch} {F : pF} {x1 : Int32} {x2 : Int32} {x3 : Int32} {s : cS} {x : (((Int32 × Int32) × cS) ⊕ (Int32 × cS))} (h : j_X11_cheapest_154 x1 x2 x3 s = some x) (hx : (KL (fun (v : (Int32 × Int32) × cS) => PW g l (pRoom 8 0 0) M_X11_cheapest F 17 [(0, .ref 0), (1, .int x1), (2, .int v.1.1), (3, .int v.1.2)] [] (tS v.2) 0 0) (fun q => F = pE g (some (.int q.1)) (tS q.2) 0 0)) x) : PW g l (pRoom 8 0 0) M_X11_cheapest F 154 [(0, .ref 0), (1, .int x1), (2, .int x2), (3, .int x3)] [] (tS s) 0 0 := by
  unfold j_X11_cheapest_154 at h
  refine PW.iinc (v := (x3 + (1 : Int32))) 3 dX11_cheapest_154 rfl (by first | rfl | decide) (Nat.le_of_ble_eq_true rfl) rfl ?_
  refine PW.goto (tgt := 17) dX11_cheapest_157 (by decide) ?_
  cases h
  exact PW.pick [1, 2, 3, 0] rfl hx
def j_X11_cheapest_153 (x1 : Int32) (x3 : Int32) (y0 : Int32) (s : cS) : Option (((Int32 × Int32) × cS) ⊕ (Int32 × cS)) :=
  j_X11_cheapest_154 x1 y0 x3 s
set_option maxRecDepth 20000 in
set_option maxHeartbeats 4000000 in
theorem ok_j_X11_cheapest_153 {g : pG} {l : Launch} {F : pF} {x1 : Int32} {x3 : Int32} {y0 : Int32} {s : cS} {x : (((Int32 × Int32) × cS) ⊕ (Int32 × cS))} (h : j_X11_cheapest_153 x1 x3 y0 s = some x) (hx : (KL (fun (v : (Int32 × Int32) × cS) => PW g l (pRoom 8 0 0) M_X11_cheapest F 17 [(0, .ref 0), (1, .int x1), (2, .int v.1.1), (3, .int v.1.2)] [] (tS v.2) 0 0) (fun q => F = pE g (some (.int q.1)) (tS q.2) 0 0)) x) : PW g l (pRoom 8 0 0) M_X11_cheapest F 153 [(0, .ref 0), (1, .int x1), (3, .int x3)] [.int y0] (tS s) 0 0 := by
  unfold j_X11_cheapest_153 at h
  refine PW.istore_n dX11_cheapest_153 rfl (Nat.le_of_ble_eq_true rfl) rfl ?_
  exact PW.pick [1, 2, 0, 3] rfl (ok_j_X11_cheapest_154 h hx)
def j_X11_cheapest_141 (x1 : Int32) (x2 : Int32) (x3 : Int32) (y0 : Int32) (s : cS) : Option (((Int32 × Int32) × cS) ⊕ (Int32 × cS)) :=
  if y0 = 0 then
    j_X11_cheapest_153 x1 x3 x2 s
  else
    j_X11_cheapest_153 x1 x3 x3 s
set_option maxRecDepth 20000 in
set_option maxHeartbeats 4000000 in
theorem ok_j_X11_cheapest_141 {g : pG} {l : Launch} {F : pF} {x1 : Int32} {x2 : Int32} {x3 : Int32} {y0 : Int32} {s : cS} {x : (((Int32 × Int32) × cS) ⊕ (Int32 × cS))} (h : j_X11_cheapest_141 x1 x2 x3 y0 s = some x) (hx : (KL (fun (v : (Int32 × Int32) × cS) => PW g l (pRoom 8 0 0) M_X11_cheapest F 17 [(0, .ref 0), (1, .int x1), (2, .int v.1.1), (3, .int v.1.2)] [] (tS v.2) 0 0) (fun q => F = pE g (some (.int q.1)) (tS q.2) 0 0)) x) : PW g l (pRoom 8 0 0) M_X11_cheapest F 141 [(0, .ref 0), (1, .int x1), (2, .int x2), (3, .int x3)] [.int y0] (tS s) 0 0 := by
  unfold j_X11_cheapest_141 at h
  refine PW.istore dX11_cheapest_141 (Nat.le_of_ble_eq_true rfl) rfl ?_
  refine PW.iload 0 dX11_cheapest_143 rfl ?_
  refine PW.if_eq (tgt := 152) dX11_cheapest_145 (by decide) (fun c23 => ?_) (fun c23 => ?_)
  · replace h := ifp h c23
    refine PW.iload_n 3 2 dX11_cheapest_152 rfl rfl ?_
    exact PW.pick [1, 2, 4] rfl (ok_j_X11_cheapest_153 h hx)
  · replace h := ifn h c23
    refine PW.iload_n 4 3 dX11_cheapest_148 rfl rfl ?_
    refine PW.goto (tgt := 153) dX11_cheapest_149 (by decide) ?_
    exact PW.pick [1, 2, 4] rfl (ok_j_X11_cheapest_153 h hx)
def j_X11_cheapest_52 (N : Nat) (x1 : Int32) (x2 : Int32) (x3 : Int32) (s : cS) : Option (((Int32 × Int32) × cS) ⊕ (Int32 × cS)) :=
  ob (f_X10_program x3 s) fun r7 s8 =>
  ob (f_X5_prepare N (f_X10_piece x3 s) ((8 : Int32) + x3) r7 (f_X10_pressure x3 s8) (f_X10_pulls x3 s8) s8) fun r12 s13 =>
  ob (f_X5_lost N (f_X10_piece x3 s) (f_X10_pulls x3 s13) s13) fun r16 s17 =>
  ob (f_X5_ways N (f_X10_piece x3 s) s17) fun r19 s20 =>
  if (lg_cmp (r16 * (1000 : Int64)) (x1.toInt64 * r19)) < 0 then
    j_X11_cheapest_141 x1 x2 x3 (0 : Int32) s20
  else
    j_X11_cheapest_141 x1 x2 x3 (1 : Int32) s20
set_option maxRecDepth 20000 in
set_option maxHeartbeats 4000000 in
theorem ok_j_X11_cheapest_52 {g : pG} {l : Launch} {F : pF} {N : Nat} {x1 : Int32} {x2 : Int32} {x3 : Int32} {s : cS} {x : (((Int32 × Int32) × cS) ⊕ (Int32 × cS))} (h : j_X11_cheapest_52 N x1 x2 x3 s = some x) (hx : (KL (fun (v : (Int32 × Int32) × cS) => PW g l (pRoom 8 0 0) M_X11_cheapest F 17 [(0, .ref 0), (1, .int x1), (2, .int v.1.1), (3, .int v.1.2)] [] (tS v.2) 0 0) (fun q => F = pE g (some (.int q.1)) (tS q.2) 0 0)) x) : PW g l (pRoom 8 0 0) M_X11_cheapest F 52 [(0, .ref 0), (1, .int x1), (2, .int x2), (3, .int x3)] [] (tS s) 0 0 := by
  unfold j_X11_cheapest_52 at h
  refine PW.aload_n 0 0 dX11_cheapest_52 rfl rfl rfl ?_
  refine CW.getr dX11_cheapest_53 fL_X11_66 LA_0 (Or.inl ⟨_, rfl⟩) rfl ?_
  refine PW.iload_n 3 3 dX11_cheapest_56 rfl rfl ?_
  refine CW.callVi (ci := 10) (st := []) [.int x3] dX11_cheapest_57 (p_X10_piece rfl) MV_X10_piece mL_X11_257 (by decide) rfl LA_124 rfl rfl (Nat.le_of_ble_eq_true rfl) (by first | decide | omega) ?_
  refine PW.istore dX11_cheapest_60 (Nat.le_of_ble_eq_true rfl) rfl ?_
  refine PW.aload_n 1 0 dX11_cheapest_62 rfl rfl rfl ?_
  refine CW.getr dX11_cheapest_63 fL_X11_59 LA_0 (Or.inl ⟨_, rfl⟩) rfl ?_
  refine PW.iload 0 dX11_cheapest_66 rfl ?_
  refine PW.bipush (v := 8) dX11_cheapest_68 (by decide) ?_
  refine PW.iload_n 4 3 dX11_cheapest_70 rfl rfl ?_
  refine PW.iadd dX11_cheapest_71 ?_
  refine PW.aload_n 1 0 dX11_cheapest_72 rfl rfl rfl ?_
  refine CW.getr dX11_cheapest_73 fL_X11_66 LA_0 (Or.inl ⟨_, rfl⟩) rfl ?_
  refine PW.iload_n 4 3 dX11_cheapest_76 rfl rfl ?_
  obtain ⟨r7, s8, q9, h⟩ := obnd h
  refine CW.callVr (ci := 10) (st := [.int ((8 : Int32) + x3), .int (f_X10_piece x3 s), .ref 116]) [.int x3] dX11_cheapest_77 (p_X10_program q9) MV_X10_program mL_X11_260 (by decide) rfl LA_124 rfl rfl (Nat.le_of_ble_eq_true rfl) (by first | decide | omega) ?_
  refine PW.aload_n 1 0 dX11_cheapest_80 rfl rfl rfl ?_
  refine CW.getr dX11_cheapest_81 fL_X11_66 LA_0 (Or.inl ⟨_, rfl⟩) rfl ?_
  refine PW.iload_n 4 3 dX11_cheapest_84 rfl rfl ?_
  refine CW.callVi (ci := 10) (st := [va_rf r7, .int ((8 : Int32) + x3), .int (f_X10_piece x3 s), .ref 116]) [.int x3] dX11_cheapest_85 (p_X10_pressure rfl) MV_X10_pressure mL_X11_263 (by decide) rfl LA_124 rfl rfl (by cases r7 <;> exact Nat.le_of_ble_eq_true rfl) (by first | decide | omega) ?_
  refine PW.aload_n 1 0 dX11_cheapest_88 rfl rfl rfl ?_
  refine CW.getr dX11_cheapest_89 fL_X11_66 LA_0 (Or.inl ⟨_, rfl⟩) rfl ?_
  refine PW.iload_n 4 3 dX11_cheapest_92 rfl rfl ?_
  refine CW.callVi (ci := 10) (st := [.int (f_X10_pressure x3 s8), va_rf r7, .int ((8 : Int32) + x3), .int (f_X10_piece x3 s), .ref 116]) [.int x3] dX11_cheapest_93 (p_X10_pulls rfl) MV_X10_pulls mL_X11_266 (by decide) rfl LA_124 rfl rfl (by cases r7 <;> exact Nat.le_of_ble_eq_true rfl) (by first | decide | omega) ?_
  obtain ⟨r12, s13, q14, h⟩ := obnd h
  refine CW.callVv (ci := 5) (st := []) [.int (f_X10_piece x3 s), .int ((8 : Int32) + x3), va_rf r7, .int (f_X10_pressure x3 s8), .int (f_X10_pulls x3 s8)] dX11_cheapest_96 (p_X5_prepare q14) MV_X5_prepare mL_X11_228 (by decide) rfl LA_116 rfl rfl (Nat.le_of_ble_eq_true rfl) (by first | decide | omega) ?_
  refine PW.aload_n 1 0 dX11_cheapest_99 rfl rfl rfl ?_
  refine CW.getr dX11_cheapest_100 fL_X11_59 LA_0 (Or.inl ⟨_, rfl⟩) rfl ?_
  refine PW.iload 0 dX11_cheapest_103 rfl ?_
  refine PW.aload_n 1 0 dX11_cheapest_105 rfl rfl rfl ?_
  refine CW.getr dX11_cheapest_106 fL_X11_66 LA_0 (Or.inl ⟨_, rfl⟩) rfl ?_
  refine PW.iload_n 4 3 dX11_cheapest_109 rfl rfl ?_
  refine CW.callVi (ci := 10) (st := [.int (f_X10_piece x3 s), .ref 116]) [.int x3] dX11_cheapest_110 (p_X10_pulls rfl) MV_X10_pulls mL_X11_266 (by decide) rfl LA_124 rfl rfl (Nat.le_of_ble_eq_true rfl) (by first | decide | omega) ?_
  obtain ⟨r16, s17, q18, h⟩ := obnd h
  refine CW.callVl (ci := 5) (st := []) [.int (f_X10_piece x3 s), .int (f_X10_pulls x3 s13)] dX11_cheapest_113 (p_X5_lost q18) MV_X5_lost mL_X11_232 (by decide) rfl LA_116 rfl rfl (Nat.le_of_ble_eq_true rfl) (by first | decide | omega) ?_
  refine PW.ldc2_w dX11_cheapest_116 kL_X11_270 ?_
  refine PW.lmul dX11_cheapest_119 ?_
  refine PW.iload_n 2 1 dX11_cheapest_120 rfl rfl ?_
  refine PW.i2l dX11_cheapest_121 ?_
  refine PW.aload_n 1 0 dX11_cheapest_122 rfl rfl rfl ?_
  refine CW.getr dX11_cheapest_123 fL_X11_59 LA_0 (Or.inl ⟨_, rfl⟩) rfl ?_
  refine PW.iload 0 dX11_cheapest_126 rfl ?_
  obtain ⟨r19, s20, q21, h⟩ := obnd h
  refine CW.callVl (ci := 5) (st := [.long x1.toInt64, .long (r16 * (1000 : Int64))]) [.int (f_X10_piece x3 s)] dX11_cheapest_128 (p_X5_ways q21) MV_X5_ways mL_X11_220 (by decide) rfl LA_116 rfl rfl (Nat.le_of_ble_eq_true rfl) (by first | decide | omega) ?_
  refine PW.lmul dX11_cheapest_131 ?_
  refine PW.lcmp dX11_cheapest_132 ?_
  refine PW.if_lt (tgt := 140) dX11_cheapest_133 (by decide) (fun c22 => ?_) (fun c22 => ?_)
  · replace h := ifp h c22
    refine PW.iconst (v := 0) dX11_cheapest_140 (by decide) ?_
    exact PW.pick [1, 2, 3, 4] rfl (ok_j_X11_cheapest_141 h hx)
  · replace h := ifn h c22
    refine PW.iconst (v := 1) dX11_cheapest_136 (by decide) ?_
    refine PW.goto (tgt := 141) dX11_cheapest_137 (by decide) ?_
    exact PW.pick [1, 2, 3, 4] rfl (ok_j_X11_cheapest_141 h hx)
def b_X11_cheapest_17 (N : Nat) (x1 : Int32) (x2 : Int32) (x3 : Int32) (s : cS) : Option (((Int32 × Int32) × cS) ⊕ (Int32 × cS)) :=
  if (f_X10_size s) ≤ x3 then
    oR (
      some ((x2, s)))
  else
    if x2 = (-1 : Int32) then
      j_X11_cheapest_52 N x1 x2 x3 s
    else
      if (f_X10_cost x2 s) ≤ (f_X10_cost x3 s) then
        j_X11_cheapest_154 x1 x2 x3 s
      else
        j_X11_cheapest_52 N x1 x2 x3 s
set_option maxRecDepth 20000 in
set_option maxHeartbeats 4000000 in
theorem ok_b_X11_cheapest_17 {g : pG} {l : Launch} {F : pF} {N : Nat} {x1 : Int32} {x2 : Int32} {x3 : Int32} {s : cS} {x : (((Int32 × Int32) × cS) ⊕ (Int32 × cS))} (h : b_X11_cheapest_17 N x1 x2 x3 s = some x) (hx : (KL (fun (v : (Int32 × Int32) × cS) => PW g l (pRoom 8 0 0) M_X11_cheapest F 17 [(0, .ref 0), (1, .int x1), (2, .int v.1.1), (3, .int v.1.2)] [] (tS v.2) 0 0) (fun q => F = pE g (some (.int q.1)) (tS q.2) 0 0)) x) : PW g l (pRoom 8 0 0) M_X11_cheapest F 17 [(0, .ref 0), (1, .int x1), (2, .int x2), (3, .int x3)] [] (tS s) 0 0 := by
  unfold b_X11_cheapest_17 at h
  refine PW.iload_n 3 3 dX11_cheapest_17 rfl rfl ?_
  refine PW.aload_n 0 0 dX11_cheapest_18 rfl rfl rfl ?_
  refine CW.getr dX11_cheapest_19 fL_X11_66 LA_0 (Or.inl ⟨_, rfl⟩) rfl ?_
  refine CW.callVi (ci := 10) (st := [.int x3]) [] dX11_cheapest_22 (p_X10_size rfl) MV_X10_size mL_X11_252 (by decide) rfl LA_124 rfl rfl (Nat.le_of_ble_eq_true rfl) (by first | decide | omega) ?_
  refine PW.icmp_ge (tgt := 160) dX11_cheapest_25 (by decide) (fun c4 => ?_) (fun c4 => ?_)
  · replace h := ifp h c4
    obtain ⟨xo, hy, hxo⟩ := oRb h
    clear h
    subst hxo
    replace hx := KLr hx
    have h := hy
    clear hy
    refine PW.iload_n 2 2 dX11_cheapest_160 rfl rfl ?_
    cases h
    subst hx
    exact PW.iret (v := x2) dX11_cheapest_161 rfl rfl (Nat.le_refl 0) (Nat.le_refl 0)
  · replace h := ifn h c4
    refine PW.iload_n 2 2 dX11_cheapest_28 rfl rfl ?_
    refine PW.iconst (v := (-1)) dX11_cheapest_29 (by decide) ?_
    refine PW.icmp_eq (tgt := 52) dX11_cheapest_30 (by decide) (fun c5 => ?_) (fun c5 => ?_)
    · replace h := ifp h c5
      exact PW.pick [0, 1, 2, 3] rfl (ok_j_X11_cheapest_52 h hx)
    · replace h := ifn h c5
      refine PW.aload_n 0 0 dX11_cheapest_33 rfl rfl rfl ?_
      refine CW.getr dX11_cheapest_34 fL_X11_66 LA_0 (Or.inl ⟨_, rfl⟩) rfl ?_
      refine PW.iload_n 3 3 dX11_cheapest_37 rfl rfl ?_
      refine CW.callVi (ci := 10) (st := []) [.int x3] dX11_cheapest_38 (p_X10_cost rfl) MV_X10_cost mL_X11_267 (by decide) rfl LA_124 rfl rfl (Nat.le_of_ble_eq_true rfl) (by first | decide | omega) ?_
      refine PW.aload_n 0 0 dX11_cheapest_41 rfl rfl rfl ?_
      refine CW.getr dX11_cheapest_42 fL_X11_66 LA_0 (Or.inl ⟨_, rfl⟩) rfl ?_
      refine PW.iload_n 2 2 dX11_cheapest_45 rfl rfl ?_
      refine CW.callVi (ci := 10) (st := [.int (f_X10_cost x3 s)]) [.int x2] dX11_cheapest_46 (p_X10_cost rfl) MV_X10_cost mL_X11_267 (by decide) rfl LA_124 rfl rfl (Nat.le_of_ble_eq_true rfl) (by first | decide | omega) ?_
      refine PW.icmp_ge (tgt := 154) dX11_cheapest_49 (by decide) (fun c26 => ?_) (fun c26 => ?_)
      · replace h := ifp h c26
        exact PW.pick [0, 1, 2, 3] rfl (ok_j_X11_cheapest_154 h hx)
      · replace h := ifn h c26
        exact PW.pick [0, 1, 2, 3] rfl (ok_j_X11_cheapest_52 h hx)
def w_X11_cheapest_17 (N : Nat) (x1 : Int32) (x2 : Int32) (x3 : Int32) (s : cS) : Option (Int32 × cS) := itr (fun (v : (Int32 × Int32) × cS) => b_X11_cheapest_17 N x1 v.1.1 v.1.2 v.2) N ((x2, x3), s)
theorem ok_w_X11_cheapest_17 {g : pG} {l : Launch} {F : pF} {N : Nat} {x1 : Int32} {x2 : Int32} {x3 : Int32} {s : cS} {x : (Int32 × cS)} (h : w_X11_cheapest_17 N x1 x2 x3 s = some x) (hx : (fun q => F = pE g (some (.int q.1)) (tS q.2) 0 0) x) : PW g l (pRoom 8 0 0) M_X11_cheapest F 17 [(0, .ref 0), (1, .int x1), (2, .int x2), (3, .int x3)] [] (tS s) 0 0 :=
  okIter (P := (fun (v : (Int32 × Int32) × cS) => PW g l (pRoom 8 0 0) M_X11_cheapest F 17 [(0, .ref 0), (1, .int x1), (2, .int v.1.1), (3, .int v.1.2)] [] (tS v.2) 0 0)) (K := (fun q => F = pE g (some (.int q.1)) (tS q.2) 0 0)) (fun v y hB hy => ok_b_X11_cheapest_17 hB hy) N ((x2, x3), s) x h hx
def f_X11_cheapest (N : Nat) (a0 : Int32) (s : cS) : Option (Int32 × cS) :=
  if (wB a0 (1 : Int32) (1000 : Int32)) = 0 then
    some (((-1 : Int32), s))
  else
    w_X11_cheapest_17 N a0 (-1 : Int32) (0 : Int32) s
set_option maxRecDepth 20000 in
set_option maxHeartbeats 4000000 in
theorem p_X11_cheapest {g : pG} {l : Launch} {N : Nat} {a0 : Int32} {s : cS} {q : Int32 × cS} (h : f_X11_cheapest N a0 s = some q) : PM g l 8 M_X11_cheapest [.ref 0, .int a0] (tS s) (some (.int q.1)) (tS q.2) 0 0 := by
  refine PM.of (by decide +kernel) (Nat.le_of_ble_eq_true rfl) ?_
  show PW g l (pRoom 8 0 0) M_X11_cheapest _ 0 [(0, .ref 0), (1, .int a0)] [] (tS s) 0 0
  unfold f_X11_cheapest at h
  generalize hF : pE g (some (.int q.1)) (tS q.2) 0 0 = F
  have hx := hF.symm
  refine PW.iload_n 1 1 dX11_cheapest_0 rfl rfl ?_
  refine PW.iconst (v := 1) dX11_cheapest_1 (by decide) ?_
  refine PW.sipush (v := 1000) dX11_cheapest_2 (by decide) ?_
  refine CW.callSi (st := []) [.int a0, .int (1 : Int32), .int (1000 : Int32)] dX11_cheapest_5 (ps_within rfl) MS_X11_within mL_X11_94 rfl rfl (Nat.le_of_ble_eq_true rfl) (by first | decide | omega) ?_
  refine PW.if_ne (tgt := 13) dX11_cheapest_8 (by decide) (fun c2 => ?_) (fun c2 => ?_)
  · replace h := ifn h c2
    refine PW.iconst (v := (-1)) dX11_cheapest_13 (by decide) ?_
    refine PW.istore_n dX11_cheapest_14 rfl (Nat.le_of_ble_eq_true rfl) rfl ?_
    refine PW.iconst (v := 0) dX11_cheapest_15 (by decide) ?_
    refine PW.istore_n dX11_cheapest_16 rfl (Nat.le_of_ble_eq_true rfl) rfl ?_
    exact PW.pick [2, 3, 1, 0] rfl (ok_w_X11_cheapest_17 h hx)
  · replace h := ifp h c2
    refine PW.iconst (v := (-1)) dX11_cheapest_11 (by decide) ?_
    cases h
    subst hx
    exact PW.iret (v := (-1 : Int32)) dX11_cheapest_12 rfl rfl (Nat.le_refl 0) (Nat.le_refl 0)
/-! X11_story -/
def f_X11_story (a0 : Int32) (s : cS) : (Int32 × cS) :=
  if (wB a0 (1 : Int32) (100 : Int32)) = 0 then
    ((-1 : Int32), s)
  else
    if (f_X7_size s) < (6 : Int32) then
      tb (f_X7_add a0 s) fun r5 s6 =>
      (r5, s6)
    else
      ((-1 : Int32), s)
set_option maxRecDepth 20000 in
set_option maxHeartbeats 4000000 in
theorem p_X11_story {g : pG} {l : Launch} {a0 : Int32} {s : cS} {q : Int32 × cS} (h : f_X11_story a0 s = q) : PM g l 3 M_X11_story [.ref 0, .int a0] (tS s) (some (.int q.1)) (tS q.2) 0 0 := by
  refine PM.of (by decide +kernel) (Nat.le_of_ble_eq_true rfl) ?_
  show PW g l (pRoom 3 0 0) M_X11_story _ 0 [(0, .ref 0), (1, .int a0)] [] (tS s) 0 0
  unfold f_X11_story at h
  generalize hF : pE g (some (.int q.1)) (tS q.2) 0 0 = F
  have hx := hF.symm
  refine PW.iload_n 1 1 dX11_story_0 rfl rfl ?_
  refine PW.iconst (v := 1) dX11_story_1 (by decide) ?_
  refine PW.bipush (v := 100) dX11_story_2 (by decide) ?_
  refine CW.callSi (st := []) [.int a0, .int (1 : Int32), .int (100 : Int32)] dX11_story_4 (ps_within rfl) MS_X11_within mL_X11_94 rfl rfl (Nat.le_of_ble_eq_true rfl) (by first | decide | omega) ?_
  refine PW.if_eq (tgt := 22) dX11_story_7 (by decide) (fun c2 => ?_) (fun c2 => ?_)
  · replace h := ifp h c2
    refine PW.iconst (v := (-1)) dX11_story_22 (by decide) ?_
    cases h
    subst hx
    exact PW.iret (v := (-1 : Int32)) dX11_story_23 rfl rfl (Nat.le_refl 0) (Nat.le_refl 0)
  · replace h := ifn h c2
    refine PW.aload_n 0 0 dX11_story_10 rfl rfl rfl ?_
    refine CW.getr dX11_story_11 fL_X11_73 LA_0 (Or.inl ⟨_, rfl⟩) rfl ?_
    refine CW.callVi (ci := 7) (st := []) [] dX11_story_14 (p_X7_size rfl) MV_X7_size mL_X11_272 (by decide) rfl LA_154 rfl rfl (Nat.le_of_ble_eq_true rfl) (by first | decide | omega) ?_
    refine PW.bipush (v := 6) dX11_story_17 (by decide) ?_
    refine PW.icmp_lt (tgt := 24) dX11_story_19 (by decide) (fun c4 => ?_) (fun c4 => ?_)
    · replace h := ifp h c4
      refine PW.aload_n 0 0 dX11_story_24 rfl rfl rfl ?_
      refine CW.getr dX11_story_25 fL_X11_73 LA_0 (Or.inl ⟨_, rfl⟩) rfl ?_
      refine PW.iload_n 1 1 dX11_story_28 rfl rfl ?_
      obtain ⟨r5, s6, q7, h⟩ := tbnd h
      refine CW.callVi (ci := 7) (st := []) [.int a0] dX11_story_29 (p_X7_add q7) MV_X7_add mL_X11_273 (by decide) rfl LA_154 rfl rfl (Nat.le_of_ble_eq_true rfl) (by first | decide | omega) ?_
      cases h
      subst hx
      exact PW.iret (v := r5) dX11_story_32 rfl rfl (Nat.le_refl 0) (Nat.le_refl 0)
    · replace h := ifn h c4
      refine PW.iconst (v := (-1)) dX11_story_22 (by decide) ?_
      cases h
      subst hx
      exact PW.iret (v := (-1 : Int32)) dX11_story_23 rfl rfl (Nat.le_refl 0) (Nat.le_refl 0)
/-! X11_find -/
def f_X11_find (s : cS) : (Int32 × cS) :=
  if (f_X7_finds s) < (10 : Int32) then
    tb (f_X7_addFind s) fun r3 s4 =>
    (r3, s4)
  else
    ((-1 : Int32), s)
set_option maxRecDepth 20000 in
set_option maxHeartbeats 4000000 in
theorem p_X11_find {g : pG} {l : Launch} {s : cS} {q : Int32 × cS} (h : f_X11_find s = q) : PM g l 2 M_X11_find [.ref 0] (tS s) (some (.int q.1)) (tS q.2) 0 0 := by
  refine PM.of (by decide +kernel) (Nat.le_of_ble_eq_true rfl) ?_
  show PW g l (pRoom 2 0 0) M_X11_find _ 0 [(0, .ref 0)] [] (tS s) 0 0
  unfold f_X11_find at h
  generalize hF : pE g (some (.int q.1)) (tS q.2) 0 0 = F
  have hx := hF.symm
  refine PW.aload_n 0 0 dX11_find_0 rfl rfl rfl ?_
  refine CW.getr dX11_find_1 fL_X11_73 LA_0 (Or.inl ⟨_, rfl⟩) rfl ?_
  refine CW.callVi (ci := 7) (st := []) [] dX11_find_4 (p_X7_finds rfl) MV_X7_finds mL_X11_274 (by decide) rfl LA_154 rfl rfl (Nat.le_of_ble_eq_true rfl) (by first | decide | omega) ?_
  refine PW.bipush (v := 10) dX11_find_7 (by decide) ?_
  refine PW.icmp_lt (tgt := 16) dX11_find_9 (by decide) (fun c2 => ?_) (fun c2 => ?_)
  · replace h := ifp h c2
    refine PW.aload_n 0 0 dX11_find_16 rfl rfl rfl ?_
    refine CW.getr dX11_find_17 fL_X11_73 LA_0 (Or.inl ⟨_, rfl⟩) rfl ?_
    obtain ⟨r3, s4, q5, h⟩ := tbnd h
    refine CW.callVi (ci := 7) (st := []) [] dX11_find_20 (p_X7_addFind q5) MV_X7_addFind mL_X11_277 (by decide) rfl LA_154 rfl rfl (Nat.le_of_ble_eq_true rfl) (by first | decide | omega) ?_
    cases h
    subst hx
    exact PW.iret (v := r3) dX11_find_23 rfl rfl (Nat.le_refl 0) (Nat.le_refl 0)
  · replace h := ifn h c2
    refine PW.iconst (v := (-1)) dX11_find_12 (by decide) ?_
    refine PW.goto (tgt := 23) dX11_find_13 (by decide) ?_
    cases h
    subst hx
    exact PW.iret (v := (-1 : Int32)) dX11_find_23 rfl rfl (Nat.le_refl 0) (Nat.le_refl 0)
/-! X11_tells -/
def f_X11_tells (a0 : Int32) (a1 : Int32) (a2 : Int32) (s : cS) : (Int32 × cS) :=
  if (f_X7_hasFind a0 s) = 0 then
    ((0 : Int32), s)
  else
    if (f_X7_has a1 s) = 0 then
      ((0 : Int32), s)
    else
      if (wB a2 (0 : Int32) (10 : Int32)) = 0 then
        ((0 : Int32), s)
      else
        tb (f_X7_foretell a0 a1 a2 s) fun r7 s8 =>
        ((1 : Int32), s8)
set_option maxRecDepth 20000 in
set_option maxHeartbeats 4000000 in
theorem p_X11_tells {g : pG} {l : Launch} {a0 : Int32} {a1 : Int32} {a2 : Int32} {s : cS} {q : Int32 × cS} (h : f_X11_tells a0 a1 a2 s = q) : PM g l 3 M_X11_tells [.ref 0, .int a0, .int a1, .int a2] (tS s) (some (.int q.1)) (tS q.2) 0 0 := by
  refine PM.of (by decide +kernel) (Nat.le_of_ble_eq_true rfl) ?_
  show PW g l (pRoom 3 0 0) M_X11_tells _ 0 [(0, .ref 0), (1, .int a0), (2, .int a1), (3, .int a2)] [] (tS s) 0 0
  unfold f_X11_tells at h
  generalize hF : pE g (some (.int q.1)) (tS q.2) 0 0 = F
  have hx := hF.symm
  refine PW.aload_n 0 0 dX11_tells_0 rfl rfl rfl ?_
  refine CW.getr dX11_tells_1 fL_X11_73 LA_0 (Or.inl ⟨_, rfl⟩) rfl ?_
  refine PW.iload_n 1 1 dX11_tells_4 rfl rfl ?_
  refine CW.callVi (ci := 7) (st := []) [.int a0] dX11_tells_5 (p_X7_hasFind rfl) MV_X7_hasFind mL_X11_280 (by decide) rfl LA_154 rfl rfl (Nat.le_of_ble_eq_true rfl) (by first | decide | omega) ?_
  refine PW.if_eq (tgt := 32) dX11_tells_8 (by decide) (fun c2 => ?_) (fun c2 => ?_)
  · replace h := ifp h c2
    refine PW.iconst (v := 0) dX11_tells_32 (by decide) ?_
    cases h
    subst hx
    exact PW.iret (v := (0 : Int32)) dX11_tells_33 rfl (narZ (Or.inl rfl)) (Nat.le_refl 0) (Nat.le_refl 0)
  · replace h := ifn h c2
    refine PW.aload_n 0 0 dX11_tells_11 rfl rfl rfl ?_
    refine CW.getr dX11_tells_12 fL_X11_73 LA_0 (Or.inl ⟨_, rfl⟩) rfl ?_
    refine PW.iload_n 2 2 dX11_tells_15 rfl rfl ?_
    refine CW.callVi (ci := 7) (st := []) [.int a1] dX11_tells_16 (p_X7_has rfl) MV_X7_has mL_X11_283 (by decide) rfl LA_154 rfl rfl (Nat.le_of_ble_eq_true rfl) (by first | decide | omega) ?_
    refine PW.if_eq (tgt := 32) dX11_tells_19 (by decide) (fun c4 => ?_) (fun c4 => ?_)
    · replace h := ifp h c4
      refine PW.iconst (v := 0) dX11_tells_32 (by decide) ?_
      cases h
      subst hx
      exact PW.iret (v := (0 : Int32)) dX11_tells_33 rfl (narZ (Or.inl rfl)) (Nat.le_refl 0) (Nat.le_refl 0)
    · replace h := ifn h c4
      refine PW.iload_n 3 3 dX11_tells_22 rfl rfl ?_
      refine PW.iconst (v := 0) dX11_tells_23 (by decide) ?_
      refine PW.bipush (v := 10) dX11_tells_24 (by decide) ?_
      refine CW.callSi (st := []) [.int a2, .int (0 : Int32), .int (10 : Int32)] dX11_tells_26 (ps_within rfl) MS_X11_within mL_X11_94 rfl rfl (Nat.le_of_ble_eq_true rfl) (by first | decide | omega) ?_
      refine PW.if_ne (tgt := 34) dX11_tells_29 (by decide) (fun c6 => ?_) (fun c6 => ?_)
      · replace h := ifn h c6
        refine PW.aload_n 0 0 dX11_tells_34 rfl rfl rfl ?_
        refine CW.getr dX11_tells_35 fL_X11_73 LA_0 (Or.inl ⟨_, rfl⟩) rfl ?_
        refine PW.iload_n 1 1 dX11_tells_38 rfl rfl ?_
        refine PW.iload_n 2 2 dX11_tells_39 rfl rfl ?_
        refine PW.iload_n 3 3 dX11_tells_40 rfl rfl ?_
        obtain ⟨r7, s8, q9, h⟩ := tbnd h
        refine CW.callVv (ci := 7) (st := []) [.int a0, .int a1, .int a2] dX11_tells_41 (p_X7_foretell q9) MV_X7_foretell mL_X11_284 (by decide) rfl LA_154 rfl rfl (Nat.le_of_ble_eq_true rfl) (by first | decide | omega) ?_
        refine PW.iconst (v := 1) dX11_tells_44 (by decide) ?_
        cases h
        subst hx
        exact PW.iret (v := (1 : Int32)) dX11_tells_45 rfl (narZ (Or.inr rfl)) (Nat.le_refl 0) (Nat.le_refl 0)
      · replace h := ifp h c6
        refine PW.iconst (v := 0) dX11_tells_32 (by decide) ?_
        cases h
        subst hx
        exact PW.iret (v := (0 : Int32)) dX11_tells_33 rfl (narZ (Or.inl rfl)) (Nat.le_refl 0) (Nat.le_refl 0)
/-! X11_seen -/
def f_X11_seen (a0 : Int32) (a1 : Int32) (s : cS) : (Int32 × cS) :=
  if (f_X7_hasFind a0 s) = 0 then
    ((0 : Int32), s)
  else
    if (wB a1 (-1 : Int32) (1 : Int32)) = 0 then
      ((0 : Int32), s)
    else
      tb (f_X7_know a0 a1 s) fun r5 s6 =>
      ((1 : Int32), s6)
set_option maxRecDepth 20000 in
set_option maxHeartbeats 4000000 in
theorem p_X11_seen {g : pG} {l : Launch} {a0 : Int32} {a1 : Int32} {s : cS} {q : Int32 × cS} (h : f_X11_seen a0 a1 s = q) : PM g l 3 M_X11_seen [.ref 0, .int a0, .int a1] (tS s) (some (.int q.1)) (tS q.2) 0 0 := by
  refine PM.of (by decide +kernel) (Nat.le_of_ble_eq_true rfl) ?_
  show PW g l (pRoom 3 0 0) M_X11_seen _ 0 [(0, .ref 0), (1, .int a0), (2, .int a1)] [] (tS s) 0 0
  unfold f_X11_seen at h
  generalize hF : pE g (some (.int q.1)) (tS q.2) 0 0 = F
  have hx := hF.symm
  refine PW.aload_n 0 0 dX11_seen_0 rfl rfl rfl ?_
  refine CW.getr dX11_seen_1 fL_X11_73 LA_0 (Or.inl ⟨_, rfl⟩) rfl ?_
  refine PW.iload_n 1 1 dX11_seen_4 rfl rfl ?_
  refine CW.callVi (ci := 7) (st := []) [.int a0] dX11_seen_5 (p_X7_hasFind rfl) MV_X7_hasFind mL_X11_280 (by decide) rfl LA_154 rfl rfl (Nat.le_of_ble_eq_true rfl) (by first | decide | omega) ?_
  refine PW.if_eq (tgt := 20) dX11_seen_8 (by decide) (fun c2 => ?_) (fun c2 => ?_)
  · replace h := ifp h c2
    refine PW.iconst (v := 0) dX11_seen_20 (by decide) ?_
    cases h
    subst hx
    exact PW.iret (v := (0 : Int32)) dX11_seen_21 rfl (narZ (Or.inl rfl)) (Nat.le_refl 0) (Nat.le_refl 0)
  · replace h := ifn h c2
    refine PW.iload_n 2 2 dX11_seen_11 rfl rfl ?_
    refine PW.iconst (v := (-1)) dX11_seen_12 (by decide) ?_
    refine PW.iconst (v := 1) dX11_seen_13 (by decide) ?_
    refine CW.callSi (st := []) [.int a1, .int (-1 : Int32), .int (1 : Int32)] dX11_seen_14 (ps_within rfl) MS_X11_within mL_X11_94 rfl rfl (Nat.le_of_ble_eq_true rfl) (by first | decide | omega) ?_
    refine PW.if_ne (tgt := 22) dX11_seen_17 (by decide) (fun c4 => ?_) (fun c4 => ?_)
    · replace h := ifn h c4
      refine PW.aload_n 0 0 dX11_seen_22 rfl rfl rfl ?_
      refine CW.getr dX11_seen_23 fL_X11_73 LA_0 (Or.inl ⟨_, rfl⟩) rfl ?_
      refine PW.iload_n 1 1 dX11_seen_26 rfl rfl ?_
      refine PW.iload_n 2 2 dX11_seen_27 rfl rfl ?_
      obtain ⟨r5, s6, q7, h⟩ := tbnd h
      refine CW.callVv (ci := 7) (st := []) [.int a0, .int a1] dX11_seen_28 (p_X7_know q7) MV_X7_know mL_X11_288 (by decide) rfl LA_154 rfl rfl (Nat.le_of_ble_eq_true rfl) (by first | decide | omega) ?_
      refine PW.iconst (v := 1) dX11_seen_31 (by decide) ?_
      cases h
      subst hx
      exact PW.iret (v := (1 : Int32)) dX11_seen_32 rfl (narZ (Or.inr rfl)) (Nat.le_refl 0) (Nat.le_refl 0)
    · replace h := ifp h c4
      refine PW.iconst (v := 0) dX11_seen_20 (by decide) ?_
      cases h
      subst hx
      exact PW.iret (v := (0 : Int32)) dX11_seen_21 rfl (narZ (Or.inl rfl)) (Nat.le_refl 0) (Nat.le_refl 0)
/-! X11_weighs -/
def f_X11_weighs (N : Nat) (a0 : Int32) (s : cS) : Option (Int64 × cS) :=
  if a0 = (-1 : Int32) then
    ob (f_X7_together N s) fun r7 s8 =>
    some ((r7, s8))
  else
    if (f_X7_has a0 s) = 0 then
      some (((-1 : Int64), s))
    else
      ob (f_X7_oddsOf N a0 s) fun r4 s5 =>
      some ((r4, s5))
set_option maxRecDepth 20000 in
set_option maxHeartbeats 4000000 in
theorem p_X11_weighs {g : pG} {l : Launch} {N : Nat} {a0 : Int32} {s : cS} {q : Int64 × cS} (h : f_X11_weighs N a0 s = some q) : PM g l 4 M_X11_weighs [.ref 0, .int a0] (tS s) (some (.long q.1)) (tS q.2) 0 0 := by
  refine PM.of (by decide +kernel) (Nat.le_of_ble_eq_true rfl) ?_
  show PW g l (pRoom 4 0 0) M_X11_weighs _ 0 [(0, .ref 0), (1, .int a0)] [] (tS s) 0 0
  unfold f_X11_weighs at h
  generalize hF : pE g (some (.long q.1)) (tS q.2) 0 0 = F
  have hx := hF.symm
  refine PW.iload_n 1 1 dX11_weighs_0 rfl rfl ?_
  refine PW.iconst (v := (-1)) dX11_weighs_1 (by decide) ?_
  refine PW.icmp_ne (tgt := 13) dX11_weighs_2 (by decide) (fun c1 => ?_) (fun c1 => ?_)
  · replace h := ifn h c1
    refine PW.aload_n 0 0 dX11_weighs_13 rfl rfl rfl ?_
    refine CW.getr dX11_weighs_14 fL_X11_73 LA_0 (Or.inl ⟨_, rfl⟩) rfl ?_
    refine PW.iload_n 1 1 dX11_weighs_17 rfl rfl ?_
    refine CW.callVi (ci := 7) (st := []) [.int a0] dX11_weighs_18 (p_X7_has rfl) MV_X7_has mL_X11_283 (by decide) rfl LA_154 rfl rfl (Nat.le_of_ble_eq_true rfl) (by first | decide | omega) ?_
    refine PW.if_eq (tgt := 35) dX11_weighs_21 (by decide) (fun c3 => ?_) (fun c3 => ?_)
    · replace h := ifp h c3
      refine PW.ldc2_w dX11_weighs_35 kL_X11_215 ?_
      cases h
      subst hx
      exact PW.lret dX11_weighs_38 rfl (Nat.le_refl 0) (Nat.le_refl 0)
    · replace h := ifn h c3
      refine PW.aload_n 0 0 dX11_weighs_24 rfl rfl rfl ?_
      refine CW.getr dX11_weighs_25 fL_X11_73 LA_0 (Or.inl ⟨_, rfl⟩) rfl ?_
      refine PW.iload_n 1 1 dX11_weighs_28 rfl rfl ?_
      obtain ⟨r4, s5, q6, h⟩ := obnd h
      refine CW.callVl (ci := 7) (st := []) [.int a0] dX11_weighs_29 (p_X7_oddsOf q6) MV_X7_oddsOf mL_X11_295 (by decide) rfl LA_154 rfl rfl (Nat.le_of_ble_eq_true rfl) (by first | decide | omega) ?_
      refine PW.goto (tgt := 38) dX11_weighs_32 (by decide) ?_
      cases h
      subst hx
      exact PW.lret dX11_weighs_38 rfl (Nat.le_refl 0) (Nat.le_refl 0)
  · replace h := ifp h c1
    refine PW.aload_n 0 0 dX11_weighs_5 rfl rfl rfl ?_
    refine CW.getr dX11_weighs_6 fL_X11_73 LA_0 (Or.inl ⟨_, rfl⟩) rfl ?_
    obtain ⟨r7, s8, q9, h⟩ := obnd h
    refine CW.callVl (ci := 7) (st := []) [] dX11_weighs_9 (p_X7_together q9) MV_X7_together mL_X11_291 (by decide) rfl LA_154 rfl rfl (Nat.le_of_ble_eq_true rfl) (by first | decide | omega) ?_
    cases h
    subst hx
    exact PW.lret dX11_weighs_12 rfl (Nat.le_refl 0) (Nat.le_refl 0)
/-! X11_moves -/
def f_X11_moves (N : Nat) (s : cS) : Option (Int32 × cS) :=
  ob (f_X7_mostMoving N s) fun r1 s2 =>
  some ((r1, s2))
set_option maxRecDepth 20000 in
set_option maxHeartbeats 4000000 in
theorem p_X11_moves {g : pG} {l : Launch} {N : Nat} {s : cS} {q : Int32 × cS} (h : f_X11_moves N s = some q) : PM g l 5 M_X11_moves [.ref 0] (tS s) (some (.int q.1)) (tS q.2) 0 0 := by
  refine PM.of (by decide +kernel) (Nat.le_of_ble_eq_true rfl) ?_
  show PW g l (pRoom 5 0 0) M_X11_moves _ 0 [(0, .ref 0)] [] (tS s) 0 0
  unfold f_X11_moves at h
  generalize hF : pE g (some (.int q.1)) (tS q.2) 0 0 = F
  have hx := hF.symm
  refine PW.aload_n 0 0 dX11_moves_0 rfl rfl rfl ?_
  refine CW.getr dX11_moves_1 fL_X11_73 LA_0 (Or.inl ⟨_, rfl⟩) rfl ?_
  obtain ⟨r1, s2, q3, h⟩ := obnd h
  refine CW.callVi (ci := 7) (st := []) [] dX11_moves_4 (p_X7_mostMoving q3) MV_X7_mostMoving mL_X11_298 (by decide) rfl LA_154 rfl rfl (Nat.le_of_ble_eq_true rfl) (by first | decide | omega) ?_
  cases h
  subst hx
  exact PW.iret (v := r1) dX11_moves_7 rfl rfl (Nat.le_refl 0) (Nat.le_refl 0)
