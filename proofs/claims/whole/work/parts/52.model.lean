/-! X12_pull -/
def f_X12_pull (N : Nat) (a0 : Int32) (a1 : Int32) (a2 : Int32) (s : cS) : Option (Int32 × cS) :=
  if (f_X12_isCorner a0 s) = 0 then
    some (((-1 : Int32), s))
  else
    if (f_X12_isPressure a1 s) = 0 then
      some (((-1 : Int32), s))
    else
      if (f_X12_isIn a2.toInt64 (0 : Int64) (1 : Int64) s) = 0 then
        some (((-1 : Int32), s))
      else
        tb (f_X12_takes a0 s) fun r7 s8 =>
        sb (iS s8 193 39 a1) fun s10 =>
        sb (iS s10 193 41 (0 : Int32)) fun s11 =>
        ob (f_X12_toldBy N (113 : Int32) (10000 : Int32) s11) fun r12 s13 =>
        sb (iS s13 193 41 r12) fun s15 =>
        if a2 = 0 then
          some ((r12, s15))
        else
          ob (f_X12_toldBy N (100 : Int32) (100000 : Int32) s15) fun r17 s18 =>
          some ((r17, s18))
set_option maxRecDepth 20000 in
set_option maxHeartbeats 4000000 in
theorem p_X12_pull {g : pG} {l : Launch} {N : Nat} {a0 : Int32} {a1 : Int32} {a2 : Int32} {s : cS} {q : Int32 × cS} (h : f_X12_pull N a0 a1 a2 s = some q) : PM g l 5 M_X12_pull [.ref 193, .int a0, .int a1, .int a2] (tS s) (some (.int q.1)) (tS q.2) 0 0 := by
  refine PM.of (by decide +kernel) (Nat.le_of_ble_eq_true rfl) ?_
  show PW g l (pRoom 5 0 0) M_X12_pull _ 0 [(0, .ref 193), (1, .int a0), (2, .int a1), (3, .int a2)] [] (tS s) 0 0
  unfold f_X12_pull at h
  generalize hF : pE g (some (.int q.1)) (tS q.2) 0 0 = F
  have hx := hF.symm
  refine PW.aload_n 0 0 dX12_pull_0 rfl rfl rfl ?_
  refine PW.iload_n 1 1 dX12_pull_1 rfl rfl ?_
  refine CW.callVi (ci := 12) (st := []) [.int a0] dX12_pull_2 (p_X12_isCorner rfl) MV_X12_isCorner mL_X12_177 (by decide) rfl LA_193 rfl rfl (Nat.le_of_ble_eq_true rfl) (by first | decide | omega) ?_
  refine PW.if_eq (tgt := 25) dX12_pull_5 (by decide) (fun c2 => ?_) (fun c2 => ?_)
  · replace h := ifp h c2
    refine PW.iconst (v := (-1)) dX12_pull_25 (by decide) ?_
    cases h
    subst hx
    exact PW.iret dX12_pull_26 rfl rfl (Nat.le_refl 0) (Nat.le_refl 0)
  · replace h := ifn h c2
    refine PW.iload_n 2 2 dX12_pull_8 rfl rfl ?_
    refine CW.callSi (st := []) [.int a1] dX12_pull_9 (p_X12_isPressure rfl) MS_X12_isPressure mL_X12_345 rfl rfl (Nat.le_of_ble_eq_true rfl) (by first | decide | omega) ?_
    refine PW.if_eq (tgt := 25) dX12_pull_12 (by decide) (fun c4 => ?_) (fun c4 => ?_)
    · replace h := ifp h c4
      refine PW.iconst (v := (-1)) dX12_pull_25 (by decide) ?_
      cases h
      subst hx
      exact PW.iret dX12_pull_26 rfl rfl (Nat.le_refl 0) (Nat.le_refl 0)
    · replace h := ifn h c4
      refine PW.iload_n 3 3 dX12_pull_15 rfl rfl ?_
      refine PW.i2l dX12_pull_16 ?_
      refine PW.lconst (v := 0) dX12_pull_17 (by decide) ?_
      refine PW.lconst (v := 1) dX12_pull_18 (by decide) ?_
      refine CW.callSi (st := []) [.long a2.toInt64, .long (0 : Int64), .long (1 : Int64)] dX12_pull_19 (p_X12_isIn rfl) MS_X12_isIn mL_X12_164 rfl rfl (Nat.le_of_ble_eq_true rfl) (by first | decide | omega) ?_
      refine PW.if_ne (tgt := 27) dX12_pull_22 (by decide) (fun c6 => ?_) (fun c6 => ?_)
      · replace h := ifn h c6
        refine PW.aload_n 0 0 dX12_pull_27 rfl rfl rfl ?_
        refine PW.iload_n 1 1 dX12_pull_28 rfl rfl ?_
        obtain ⟨r7, s8, q9, h⟩ := tbnd h
        refine CW.callVv (ci := 12) (st := []) [.int a0] dX12_pull_29 (p_X12_takes q9) MV_X12_takes mL_X12_348 (by decide) rfl LA_193 rfl rfl (Nat.le_of_ble_eq_true rfl) (by first | decide | omega) ?_
        refine PW.aload_n 0 0 dX12_pull_32 rfl rfl rfl ?_
        refine PW.iload_n 2 2 dX12_pull_33 rfl rfl ?_
        refine CW.puti dX12_pull_34 fL_X12_302 rfl LA_193 rfl ?_
        obtain ⟨s10, es10, h⟩ := sbnd h
        refine PW.sbe es10 ?_
        clear es10
        refine PW.aload_n 0 0 dX12_pull_37 rfl rfl rfl ?_
        refine PW.iconst (v := 0) dX12_pull_38 (by decide) ?_
        refine CW.puti dX12_pull_39 fL_X12_311 rfl LA_193 rfl ?_
        obtain ⟨s11, es11, h⟩ := sbnd h
        refine PW.sbe es11 ?_
        clear es11
        refine PW.aload_n 0 0 dX12_pull_42 rfl rfl rfl ?_
        refine PW.bipush (v := 113) dX12_pull_43 (by decide) ?_
        refine PW.sipush (v := 10000) dX12_pull_45 (by decide) ?_
        obtain ⟨r12, s13, q14, h⟩ := obnd h
        refine CW.callVi (ci := 12) (st := []) [.int (113 : Int32), .int (10000 : Int32)] dX12_pull_48 (p_X12_toldBy q14) MV_X12_toldBy mL_X12_337 (by decide) rfl LA_193 rfl rfl (Nat.le_of_ble_eq_true rfl) (by first | decide | omega) ?_
        refine PW.istore dX12_pull_51 (Nat.le_of_ble_eq_true rfl) rfl ?_
        refine PW.aload_n 1 0 dX12_pull_53 rfl rfl rfl ?_
        refine PW.iload 0 dX12_pull_54 rfl ?_
        refine CW.puti dX12_pull_56 fL_X12_311 rfl LA_193 rfl ?_
        obtain ⟨s15, es15, h⟩ := sbnd h
        refine PW.sbe es15 ?_
        clear es15
        refine PW.iload_n 4 3 dX12_pull_59 rfl rfl ?_
        refine PW.if_ne (tgt := 68) dX12_pull_60 (by decide) (fun c16 => ?_) (fun c16 => ?_)
        · replace h := ifn h c16
          refine PW.aload_n 1 0 dX12_pull_68 rfl rfl rfl ?_
          refine PW.bipush (v := 100) dX12_pull_69 (by decide) ?_
          refine PW.ldc_w dX12_pull_71 kL_X12_341 ?_
          obtain ⟨r17, s18, q19, h⟩ := obnd h
          refine CW.callVi (ci := 12) (st := []) [.int (100 : Int32), .int (100000 : Int32)] dX12_pull_74 (p_X12_toldBy q19) MV_X12_toldBy mL_X12_337 (by decide) rfl LA_193 rfl rfl (Nat.le_of_ble_eq_true rfl) (by first | decide | omega) ?_
          cases h
          subst hx
          exact PW.iret dX12_pull_77 rfl rfl (Nat.le_refl 0) (Nat.le_refl 0)
        · replace h := ifp h c16
          refine PW.iload 0 dX12_pull_63 rfl ?_
          refine PW.goto (tgt := 77) dX12_pull_65 (by decide) ?_
          cases h
          subst hx
          exact PW.iret dX12_pull_77 rfl rfl (Nat.le_refl 0) (Nat.le_refl 0)
      · replace h := ifp h c6
        refine PW.iconst (v := (-1)) dX12_pull_25 (by decide) ?_
        cases h
        subst hx
        exact PW.iret dX12_pull_26 rfl rfl (Nat.le_refl 0) (Nat.le_refl 0)
/-! X12_digits -/
def j_X12_digits_66 (x2 : Int32) (x3 : Int32) (s : cS) : Option (Int32 × cS) :=
  if (f_X12_isGood s) = 0 then
    some ((x3, s))
  else
    if (iG s 193 28) = x2 then
      tb (f_X12_wrongs (1 : Int32) (iG s 193 28) s) fun r6 s7 =>
      some ((x3, s7))
    else
      some ((x3, s))
set_option maxRecDepth 20000 in
set_option maxHeartbeats 4000000 in
theorem ok_j_X12_digits_66 {g : pG} {l : Launch} {F : pF} {x2 : Int32} {x3 : Int32} {s : cS} {x : (Int32 × cS)} (h : j_X12_digits_66 x2 x3 s = some x) (hx : (fun q => F = pE g (some (.int q.1)) (tS q.2) 0 0) x) : PW g l (pRoom 3 0 0) M_X12_digits F 66 [(0, .ref 193), (2, .int x2), (3, .int x3)] [] (tS s) 0 0 := by
  unfold j_X12_digits_66 at h
  refine PW.aload_n 0 0 dX12_digits_66 rfl rfl rfl ?_
  refine CW.callVi (ci := 12) (st := []) [] dX12_digits_67 (p_X12_isGood rfl) MV_X12_isGood mL_X12_201 (by decide) rfl LA_193 rfl rfl (Nat.le_of_ble_eq_true rfl) (by first | decide | omega) ?_
  refine PW.if_eq (tgt := 90) dX12_digits_70 (by decide) (fun c4 => ?_) (fun c4 => ?_)
  · replace h := ifp h c4
    refine PW.iload_n 2 3 dX12_digits_90 rfl rfl ?_
    cases h
    subst hx
    exact PW.iret dX12_digits_91 rfl rfl (Nat.le_refl 0) (Nat.le_refl 0)
  · replace h := ifn h c4
    refine PW.aload_n 0 0 dX12_digits_73 rfl rfl rfl ?_
    refine CW.geti dX12_digits_74 fL_X12_192 LA_193 (Or.inl rfl) ?_
    refine PW.iload_n 1 2 dX12_digits_77 rfl rfl ?_
    refine PW.icmp_ne (tgt := 90) dX12_digits_78 (by decide) (fun c5 => ?_) (fun c5 => ?_)
    · replace h := ifn h c5
      refine PW.iload_n 2 3 dX12_digits_90 rfl rfl ?_
      cases h
      subst hx
      exact PW.iret dX12_digits_91 rfl rfl (Nat.le_refl 0) (Nat.le_refl 0)
    · replace h := ifp h c5
      refine PW.aload_n 0 0 dX12_digits_81 rfl rfl rfl ?_
      refine PW.iconst (v := 1) dX12_digits_82 (by decide) ?_
      refine PW.aload_n 0 0 dX12_digits_83 rfl rfl rfl ?_
      refine CW.geti dX12_digits_84 fL_X12_192 LA_193 (Or.inl rfl) ?_
      obtain ⟨r6, s7, q8, h⟩ := tbnd h
      refine CW.callVv (ci := 12) (st := []) [.int (1 : Int32), .int (iG s 193 28)] dX12_digits_87 (p_X12_wrongs q8) MV_X12_wrongs mL_X12_214 (by decide) rfl LA_193 rfl rfl (Nat.le_of_ble_eq_true rfl) (by first | decide | omega) ?_
      refine PW.iload_n 2 3 dX12_digits_90 rfl rfl ?_
      cases h
      subst hx
      exact PW.iret dX12_digits_91 rfl rfl (Nat.le_refl 0) (Nat.le_refl 0)
def j_X12_digits_40 (x1 : Int32) (x2 : Int32) (x3 : Int32) (s : cS) : Option ((Int32 × cS) ⊕ (Int32 × cS)) :=
  ob (f_X12_here s) fun r14 s15 =>
  sb (iS s15 193 28 ((iG s15 193 28) + (1 : Int32))) fun s17 =>
  some (.inl (((((10 : Int32) * x3) + r14) - (48 : Int32)), s17))
set_option maxRecDepth 20000 in
set_option maxHeartbeats 4000000 in
theorem ok_j_X12_digits_40 {g : pG} {l : Launch} {F : pF} {x1 : Int32} {x2 : Int32} {x3 : Int32} {s : cS} {x : ((Int32 × cS) ⊕ (Int32 × cS))} (h : j_X12_digits_40 x1 x2 x3 s = some x) (hx : (KL (fun (v : Int32 × cS) => PW g l (pRoom 3 0 0) M_X12_digits F 7 [(0, .ref 193), (1, .int x1), (2, .int x2), (3, .int v.1)] [] (tS v.2) 0 0) (fun q => F = pE g (some (.int q.1)) (tS q.2) 0 0)) x) : PW g l (pRoom 3 0 0) M_X12_digits F 40 [(0, .ref 193), (1, .int x1), (2, .int x2), (3, .int x3)] [] (tS s) 0 0 := by
  unfold j_X12_digits_40 at h
  refine PW.bipush (v := 10) dX12_digits_40 (by decide) ?_
  refine PW.iload_n 3 3 dX12_digits_42 rfl rfl ?_
  refine PW.imul dX12_digits_43 ?_
  refine PW.aload_n 0 0 dX12_digits_44 rfl rfl rfl ?_
  obtain ⟨r14, s15, q16, h⟩ := obnd h
  refine CW.callVi (ci := 12) (st := [.int ((10 : Int32) * x3)]) [] dX12_digits_45 (p_X12_here q16) MV_X12_here mL_X12_218 (by decide) rfl LA_193 rfl rfl (Nat.le_of_ble_eq_true rfl) (by first | decide | omega) ?_
  refine PW.iadd dX12_digits_48 ?_
  refine PW.bipush (v := 48) dX12_digits_49 (by decide) ?_
  refine PW.isub dX12_digits_51 ?_
  refine PW.istore_n dX12_digits_52 rfl (Nat.le_of_ble_eq_true rfl) rfl ?_
  refine PW.aload_n 1 0 dX12_digits_53 rfl rfl rfl ?_
  refine PW.dup dX12_digits_54 rfl ?_
  refine CW.geti dX12_digits_55 fL_X12_192 LA_193 (Or.inl rfl) ?_
  refine PW.iconst (v := 1) dX12_digits_58 (by decide) ?_
  refine PW.iadd dX12_digits_59 ?_
  refine CW.puti dX12_digits_60 fL_X12_192 rfl LA_193 rfl ?_
  obtain ⟨s17, es17, h⟩ := sbnd h
  refine PW.sbe es17 ?_
  clear es17
  refine PW.goto (tgt := 7) dX12_digits_63 (by decide) ?_
  cases h
  exact PW.pick [1, 2, 3, 0] rfl hx
def b_X12_digits_7 (x1 : Int32) (x2 : Int32) (x3 : Int32) (s : cS) : Option ((Int32 × cS) ⊕ (Int32 × cS)) :=
  if (f_X12_isGood s) = 0 then
    oR (
      j_X12_digits_66 x2 x3 s)
  else
    ob (f_X12_seesDigit s) fun r9 s10 =>
    if r9 = 0 then
      oR (
        j_X12_digits_66 x2 x3 s10)
    else
      if (iG s10 193 28) = (x2 + x1) then
        tb (f_X12_wrongs (2 : Int32) (iG s10 193 28) s10) fun r18 s19 =>
        j_X12_digits_40 x1 x2 x3 s19
      else
        j_X12_digits_40 x1 x2 x3 s10
set_option maxRecDepth 20000 in
set_option maxHeartbeats 4000000 in
theorem ok_b_X12_digits_7 {g : pG} {l : Launch} {F : pF} {x1 : Int32} {x2 : Int32} {x3 : Int32} {s : cS} {x : ((Int32 × cS) ⊕ (Int32 × cS))} (h : b_X12_digits_7 x1 x2 x3 s = some x) (hx : (KL (fun (v : Int32 × cS) => PW g l (pRoom 3 0 0) M_X12_digits F 7 [(0, .ref 193), (1, .int x1), (2, .int x2), (3, .int v.1)] [] (tS v.2) 0 0) (fun q => F = pE g (some (.int q.1)) (tS q.2) 0 0)) x) : PW g l (pRoom 3 0 0) M_X12_digits F 7 [(0, .ref 193), (1, .int x1), (2, .int x2), (3, .int x3)] [] (tS s) 0 0 := by
  unfold b_X12_digits_7 at h
  refine PW.aload_n 0 0 dX12_digits_7 rfl rfl rfl ?_
  refine CW.callVi (ci := 12) (st := []) [] dX12_digits_8 (p_X12_isGood rfl) MV_X12_isGood mL_X12_201 (by decide) rfl LA_193 rfl rfl (Nat.le_of_ble_eq_true rfl) (by first | decide | omega) ?_
  refine PW.if_eq (tgt := 66) dX12_digits_11 (by decide) (fun c2 => ?_) (fun c2 => ?_)
  · replace h := ifp h c2
    obtain ⟨xo, hy, hxo⟩ := oRb h
    clear h
    subst hxo
    replace hx := KLr hx
    have h := hy
    clear hy
    exact PW.pick [0, 2, 3] rfl (ok_j_X12_digits_66 h hx)
  · replace h := ifn h c2
    refine PW.aload_n 0 0 dX12_digits_14 rfl rfl rfl ?_
    obtain ⟨r9, s10, q11, h⟩ := obnd h
    refine CW.callVi (ci := 12) (st := []) [] dX12_digits_15 (p_X12_seesDigit q11) MV_X12_seesDigit mL_X12_229 (by decide) rfl LA_193 rfl rfl (Nat.le_of_ble_eq_true rfl) (by first | decide | omega) ?_
    refine PW.if_eq (tgt := 66) dX12_digits_18 (by decide) (fun c12 => ?_) (fun c12 => ?_)
    · replace h := ifp h c12
      obtain ⟨xo, hy, hxo⟩ := oRb h
      clear h
      subst hxo
      replace hx := KLr hx
      have h := hy
      clear hy
      exact PW.pick [0, 2, 3] rfl (ok_j_X12_digits_66 h hx)
    · replace h := ifn h c12
      refine PW.aload_n 0 0 dX12_digits_21 rfl rfl rfl ?_
      refine CW.geti dX12_digits_22 fL_X12_192 LA_193 (Or.inl rfl) ?_
      refine PW.iload_n 2 2 dX12_digits_25 rfl rfl ?_
      refine PW.iload_n 1 1 dX12_digits_26 rfl rfl ?_
      refine PW.iadd dX12_digits_27 ?_
      refine PW.icmp_ne (tgt := 40) dX12_digits_28 (by decide) (fun c13 => ?_) (fun c13 => ?_)
      · replace h := ifn h c13
        exact PW.pick [0, 1, 2, 3] rfl (ok_j_X12_digits_40 h hx)
      · replace h := ifp h c13
        refine PW.aload_n 0 0 dX12_digits_31 rfl rfl rfl ?_
        refine PW.iconst (v := 2) dX12_digits_32 (by decide) ?_
        refine PW.aload_n 0 0 dX12_digits_33 rfl rfl rfl ?_
        refine CW.geti dX12_digits_34 fL_X12_192 LA_193 (Or.inl rfl) ?_
        obtain ⟨r18, s19, q20, h⟩ := tbnd h
        refine CW.callVv (ci := 12) (st := []) [.int (2 : Int32), .int (iG s10 193 28)] dX12_digits_37 (p_X12_wrongs q20) MV_X12_wrongs mL_X12_214 (by decide) rfl LA_193 rfl rfl (Nat.le_of_ble_eq_true rfl) (by first | decide | omega) ?_
        exact PW.pick [0, 1, 2, 3] rfl (ok_j_X12_digits_40 h hx)
def w_X12_digits_7 (N : Nat) (x1 : Int32) (x2 : Int32) (x3 : Int32) (s : cS) : Option (Int32 × cS) := itr (fun (v : Int32 × cS) => b_X12_digits_7 x1 x2 v.1 v.2) N (x3, s)
theorem ok_w_X12_digits_7 {g : pG} {l : Launch} {F : pF} {N : Nat} {x1 : Int32} {x2 : Int32} {x3 : Int32} {s : cS} {x : (Int32 × cS)} (h : w_X12_digits_7 N x1 x2 x3 s = some x) (hx : (fun q => F = pE g (some (.int q.1)) (tS q.2) 0 0) x) : PW g l (pRoom 3 0 0) M_X12_digits F 7 [(0, .ref 193), (1, .int x1), (2, .int x2), (3, .int x3)] [] (tS s) 0 0 :=
  okIter (P := (fun (v : Int32 × cS) => PW g l (pRoom 3 0 0) M_X12_digits F 7 [(0, .ref 193), (1, .int x1), (2, .int x2), (3, .int v.1)] [] (tS v.2) 0 0)) (K := (fun q => F = pE g (some (.int q.1)) (tS q.2) 0 0)) (fun v y hB hy => ok_b_X12_digits_7 hB hy) N (x3, s) x h hx
def f_X12_digits (N : Nat) (a0 : Int32) (s : cS) : Option (Int32 × cS) :=
  w_X12_digits_7 N a0 (iG s 193 28) (0 : Int32) s
set_option maxRecDepth 20000 in
set_option maxHeartbeats 4000000 in
theorem p_X12_digits {g : pG} {l : Launch} {N : Nat} {a0 : Int32} {s : cS} {q : Int32 × cS} (h : f_X12_digits N a0 s = some q) : PM g l 3 M_X12_digits [.ref 193, .int a0] (tS s) (some (.int q.1)) (tS q.2) 0 0 := by
  refine PM.of (by decide +kernel) (Nat.le_of_ble_eq_true rfl) ?_
  show PW g l (pRoom 3 0 0) M_X12_digits _ 0 [(0, .ref 193), (1, .int a0)] [] (tS s) 0 0
  unfold f_X12_digits at h
  generalize hF : pE g (some (.int q.1)) (tS q.2) 0 0 = F
  have hx := hF.symm
  refine PW.aload_n 0 0 dX12_digits_0 rfl rfl rfl ?_
  refine CW.geti dX12_digits_1 fL_X12_192 LA_193 (Or.inl rfl) ?_
  refine PW.istore_n dX12_digits_4 rfl (Nat.le_of_ble_eq_true rfl) rfl ?_
  refine PW.iconst (v := 0) dX12_digits_5 (by decide) ?_
  refine PW.istore_n dX12_digits_6 rfl (Nat.le_of_ble_eq_true rfl) rfl ?_
  exact PW.pick [2, 3, 1, 0] rfl (ok_w_X12_digits_7 h hx)
/-! X12_part -/
def j_X12_part_120 (x1 : Int32) (x2 : Int32) (x4 : Int32) (s : cS) : Option (Int32 × cS) :=
  if inb x1 8 then
  sb (iS s 222 x1.toNatClampNeg x4) fun s14 =>
  some (((x2 + x4), s14))
  else none
set_option maxRecDepth 20000 in
set_option maxHeartbeats 4000000 in
theorem ok_j_X12_part_120 {g : pG} {l : Launch} {F : pF} {x1 : Int32} {x2 : Int32} {x4 : Int32} {s : cS} {x : (Int32 × cS)} (h : j_X12_part_120 x1 x2 x4 s = some x) (hx : (fun q => F = pE g (some (.int q.1)) (tS q.2) 0 0) x) : PW g l (pRoom 4 0 0) M_X12_part F 120 [(0, .ref 193), (1, .int x1), (2, .int x2), (4, .int x4)] [] (tS s) 0 0 := by
  unfold j_X12_part_120 at h
  refine PW.aload_n 0 0 dX12_part_120 rfl rfl rfl ?_
  refine CW.getr dX12_part_121 fL_X12_96 LA_193 (Or.inr ⟨_, rfl⟩) rfl ?_
  refine PW.iload_n 1 1 dX12_part_124 rfl rfl ?_
  refine PW.iload 3 dX12_part_125 rfl ?_
  by_cases c13 : inb x1 8
  rotate_left
  · have h := ifn h c13; cases h
  replace h := ifp h c13
  refine CW.iast dX12_part_127 LA_222 c13 ?_
  obtain ⟨s14, es14, h⟩ := sbnd h
  refine PW.sbe es14 ?_
  clear es14
  refine PW.iload_n 2 2 dX12_part_128 rfl rfl ?_
  refine PW.iload 3 dX12_part_129 rfl ?_
  refine PW.iadd dX12_part_131 ?_
  cases h
  subst hx
  exact PW.iret dX12_part_132 rfl rfl (Nat.le_refl 0) (Nat.le_refl 0)
def j_X12_part_114 (x1 : Int32) (x2 : Int32) (x3 : Int32) (x4 : Int32) (s : cS) : Option (Int32 × cS) :=
  tb (f_X12_wrongs (3 : Int32) x3 s) fun r16 s17 =>
  j_X12_part_120 x1 x2 x4 s17
set_option maxRecDepth 20000 in
set_option maxHeartbeats 4000000 in
theorem ok_j_X12_part_114 {g : pG} {l : Launch} {F : pF} {x1 : Int32} {x2 : Int32} {x3 : Int32} {x4 : Int32} {s : cS} {x : (Int32 × cS)} (h : j_X12_part_114 x1 x2 x3 x4 s = some x) (hx : (fun q => F = pE g (some (.int q.1)) (tS q.2) 0 0) x) : PW g l (pRoom 4 0 0) M_X12_part F 114 [(0, .ref 193), (1, .int x1), (2, .int x2), (3, .int x3), (4, .int x4)] [] (tS s) 0 0 := by
  unfold j_X12_part_114 at h
  refine PW.aload_n 0 0 dX12_part_114 rfl rfl rfl ?_
  refine PW.iconst (v := 3) dX12_part_115 (by decide) ?_
  refine PW.iload_n 3 3 dX12_part_116 rfl rfl ?_
  obtain ⟨r16, s17, q18, h⟩ := tbnd h
  refine CW.callVv (ci := 12) (st := []) [.int (3 : Int32), .int x3] dX12_part_117 (p_X12_wrongs q18) MV_X12_wrongs mL_X12_214 (by decide) rfl LA_193 rfl rfl (Nat.le_of_ble_eq_true rfl) (by first | decide | omega) ?_
  exact PW.pick [0, 1, 2, 4] rfl (ok_j_X12_part_120 h hx)
def j_X12_part_92 (x1 : Int32) (x2 : Int32) (x3 : Int32) (x4 : Int32) (s : cS) : Option (Int32 × cS) :=
  if (f_X12_isGood s) = 0 then
    j_X12_part_120 x1 x2 x4 s
  else
    if x4 = 0 then
      j_X12_part_114 x1 x2 x3 x4 s
    else
      if (x2 + x4) ≤ (2000 : Int32) then
        j_X12_part_120 x1 x2 x4 s
      else
        j_X12_part_114 x1 x2 x3 x4 s
set_option maxRecDepth 20000 in
set_option maxHeartbeats 4000000 in
theorem ok_j_X12_part_92 {g : pG} {l : Launch} {F : pF} {x1 : Int32} {x2 : Int32} {x3 : Int32} {x4 : Int32} {s : cS} {x : (Int32 × cS)} (h : j_X12_part_92 x1 x2 x3 x4 s = some x) (hx : (fun q => F = pE g (some (.int q.1)) (tS q.2) 0 0) x) : PW g l (pRoom 4 0 0) M_X12_part F 92 [(0, .ref 193), (1, .int x1), (2, .int x2), (3, .int x3), (4, .int x4)] [] (tS s) 0 0 := by
  unfold j_X12_part_92 at h
  refine PW.aload_n 0 0 dX12_part_92 rfl rfl rfl ?_
  refine CW.callVi (ci := 12) (st := []) [] dX12_part_93 (p_X12_isGood rfl) MV_X12_isGood mL_X12_201 (by decide) rfl LA_193 rfl rfl (Nat.le_of_ble_eq_true rfl) (by first | decide | omega) ?_
  refine PW.if_eq (tgt := 120) dX12_part_96 (by decide) (fun c12 => ?_) (fun c12 => ?_)
  · replace h := ifp h c12
    exact PW.pick [0, 1, 2, 4] rfl (ok_j_X12_part_120 h hx)
  · replace h := ifn h c12
    refine PW.iload 4 dX12_part_99 rfl ?_
    refine PW.if_eq (tgt := 114) dX12_part_101 (by decide) (fun c15 => ?_) (fun c15 => ?_)
    · replace h := ifp h c15
      exact PW.pick [0, 1, 2, 3, 4] rfl (ok_j_X12_part_114 h hx)
    · replace h := ifn h c15
      refine PW.iload_n 2 2 dX12_part_104 rfl rfl ?_
      refine PW.iload 4 dX12_part_105 rfl ?_
      refine PW.iadd dX12_part_107 ?_
      refine PW.sipush (v := 2000) dX12_part_108 (by decide) ?_
      refine PW.icmp_le (tgt := 120) dX12_part_111 (by decide) (fun c19 => ?_) (fun c19 => ?_)
      · replace h := ifp h c19
        exact PW.pick [0, 1, 2, 4] rfl (ok_j_X12_part_120 h hx)
      · replace h := ifn h c19
        exact PW.pick [0, 1, 2, 3, 4] rfl (ok_j_X12_part_114 h hx)
def j_X12_part_26 (N : Nat) (x1 : Int32) (x2 : Int32) (s : cS) : Option (Int32 × cS) :=
  if (f_X12_isGood s) = 0 then
    some ((x2, s))
  else
    ob (f_X12_digits N (2 : Int32) s) fun r4 s5 =>
    if inb x1 8 then
    sb (iS s5 221 x1.toNatClampNeg r4) fun s8 =>
    if (f_X12_isGood s8) = 0 then
      j_X12_part_92 x1 x2 (iG s 193 28) (1 : Int32) s8
    else
      ob (f_X12_here s8) fun r20 s21 =>
      if r20 = (42 : Int32) then
        sb (iS s21 193 28 ((iG s21 193 28) + (1 : Int32))) fun s24 =>
        ob (f_X12_digits N (4 : Int32) s24) fun r25 s26 =>
        j_X12_part_92 x1 x2 (iG s24 193 28) r25 s26
      else
        j_X12_part_92 x1 x2 (iG s 193 28) (1 : Int32) s21
    else none
set_option maxRecDepth 20000 in
set_option maxHeartbeats 4000000 in
theorem ok_j_X12_part_26 {g : pG} {l : Launch} {F : pF} {N : Nat} {x1 : Int32} {x2 : Int32} {s : cS} {x : (Int32 × cS)} (h : j_X12_part_26 N x1 x2 s = some x) (hx : (fun q => F = pE g (some (.int q.1)) (tS q.2) 0 0) x) : PW g l (pRoom 4 0 0) M_X12_part F 26 [(0, .ref 193), (1, .int x1), (2, .int x2)] [] (tS s) 0 0 := by
  unfold j_X12_part_26 at h
  refine PW.aload_n 0 0 dX12_part_26 rfl rfl rfl ?_
  refine CW.callVi (ci := 12) (st := []) [] dX12_part_27 (p_X12_isGood rfl) MV_X12_isGood mL_X12_201 (by decide) rfl LA_193 rfl rfl (Nat.le_of_ble_eq_true rfl) (by first | decide | omega) ?_
  refine PW.if_ne (tgt := 35) dX12_part_30 (by decide) (fun c3 => ?_) (fun c3 => ?_)
  · replace h := ifn h c3
    refine PW.aload_n 0 0 dX12_part_35 rfl rfl rfl ?_
    refine CW.geti dX12_part_36 fL_X12_192 LA_193 (Or.inl rfl) ?_
    refine PW.istore_n dX12_part_39 rfl (Nat.le_of_ble_eq_true rfl) rfl ?_
    refine PW.aload_n 1 0 dX12_part_40 rfl rfl rfl ?_
    refine CW.getr dX12_part_41 fL_X12_93 LA_193 (Or.inr ⟨_, rfl⟩) rfl ?_
    refine PW.iload_n 2 1 dX12_part_44 rfl rfl ?_
    refine PW.aload_n 1 0 dX12_part_45 rfl rfl rfl ?_
    refine PW.iconst (v := 2) dX12_part_46 (by decide) ?_
    obtain ⟨r4, s5, q6, h⟩ := obnd h
    refine CW.callVi (ci := 12) (st := [.int x1, .ref 221]) [.int (2 : Int32)] dX12_part_47 (p_X12_digits q6) MV_X12_digits mL_X12_351 (by decide) rfl LA_193 rfl rfl (Nat.le_of_ble_eq_true rfl) (by first | decide | omega) ?_
    by_cases c7 : inb x1 8
    rotate_left
    · have h := ifn h c7; cases h
    replace h := ifp h c7
    refine CW.iast dX12_part_50 LA_221 c7 ?_
    obtain ⟨s8, es8, h⟩ := sbnd h
    refine PW.sbe es8 ?_
    clear es8
    refine PW.iconst (v := 1) dX12_part_51 (by decide) ?_
    refine PW.istore dX12_part_52 (Nat.le_of_ble_eq_true rfl) rfl ?_
    refine PW.aload_n 2 0 dX12_part_54 rfl rfl rfl ?_
    refine CW.callVi (ci := 12) (st := []) [] dX12_part_55 (p_X12_isGood rfl) MV_X12_isGood mL_X12_201 (by decide) rfl LA_193 rfl rfl (Nat.le_of_ble_eq_true rfl) (by first | decide | omega) ?_
    refine PW.if_eq (tgt := 92) dX12_part_58 (by decide) (fun c10 => ?_) (fun c10 => ?_)
    · replace h := ifp h c10
      exact PW.pick [2, 3, 4, 1, 0] rfl (ok_j_X12_part_92 h hx)
    · replace h := ifn h c10
      refine PW.aload_n 2 0 dX12_part_61 rfl rfl rfl ?_
      obtain ⟨r20, s21, q22, h⟩ := obnd h
      refine CW.callVi (ci := 12) (st := []) [] dX12_part_62 (p_X12_here q22) MV_X12_here mL_X12_218 (by decide) rfl LA_193 rfl rfl (Nat.le_of_ble_eq_true rfl) (by first | decide | omega) ?_
      refine PW.bipush (v := 42) dX12_part_65 (by decide) ?_
      refine PW.icmp_ne (tgt := 92) dX12_part_67 (by decide) (fun c23 => ?_) (fun c23 => ?_)
      · replace h := ifn h c23
        exact PW.pick [2, 3, 4, 1, 0] rfl (ok_j_X12_part_92 h hx)
      · replace h := ifp h c23
        refine PW.aload_n 2 0 dX12_part_70 rfl rfl rfl ?_
        refine PW.dup dX12_part_71 rfl ?_
        refine CW.geti dX12_part_72 fL_X12_192 LA_193 (Or.inl rfl) ?_
        refine PW.iconst (v := 1) dX12_part_75 (by decide) ?_
        refine PW.iadd dX12_part_76 ?_
        refine CW.puti dX12_part_77 fL_X12_192 rfl LA_193 rfl ?_
        obtain ⟨s24, es24, h⟩ := sbnd h
        refine PW.sbe es24 ?_
        clear es24
        refine PW.aload_n 2 0 dX12_part_80 rfl rfl rfl ?_
        refine CW.geti dX12_part_81 fL_X12_192 LA_193 (Or.inl rfl) ?_
        refine PW.istore_n dX12_part_84 rfl (Nat.le_of_ble_eq_true rfl) rfl ?_
        refine PW.aload_n 2 0 dX12_part_85 rfl rfl rfl ?_
        refine PW.iconst (v := 4) dX12_part_86 (by decide) ?_
        obtain ⟨r25, s26, q27, h⟩ := obnd h
        refine CW.callVi (ci := 12) (st := []) [.int (4 : Int32)] dX12_part_87 (p_X12_digits q27) MV_X12_digits mL_X12_351 (by decide) rfl LA_193 rfl rfl (Nat.le_of_ble_eq_true rfl) (by first | decide | omega) ?_
        refine PW.istore dX12_part_90 (Nat.le_of_ble_eq_true rfl) rfl ?_
        exact PW.pick [2, 3, 4, 1, 0] rfl (ok_j_X12_part_92 h hx)
  · replace h := ifp h c3
    refine PW.iload_n 2 2 dX12_part_33 rfl rfl ?_
    cases h
    subst hx
    exact PW.iret dX12_part_34 rfl rfl (Nat.le_refl 0) (Nat.le_refl 0)
def j_X12_part_19 (N : Nat) (x1 : Int32) (x2 : Int32) (y1 : Int32) (s : cS) : Option (Int32 × cS) :=
  tb (f_X12_wrongs y1 (iG s 193 28) s) fun r32 s33 =>
  j_X12_part_26 N x1 x2 s33
set_option maxRecDepth 20000 in
set_option maxHeartbeats 4000000 in
theorem ok_j_X12_part_19 {g : pG} {l : Launch} {F : pF} {N : Nat} {x1 : Int32} {x2 : Int32} {y1 : Int32} {s : cS} {x : (Int32 × cS)} (h : j_X12_part_19 N x1 x2 y1 s = some x) (hx : (fun q => F = pE g (some (.int q.1)) (tS q.2) 0 0) x) : PW g l (pRoom 4 0 0) M_X12_part F 19 [(0, .ref 193), (1, .int x1), (2, .int x2)] [.int y1, .ref 193] (tS s) 0 0 := by
  unfold j_X12_part_19 at h
  refine PW.aload_n 0 0 dX12_part_19 rfl rfl rfl ?_
  refine CW.geti dX12_part_20 fL_X12_192 LA_193 (Or.inl rfl) ?_
  obtain ⟨r32, s33, q34, h⟩ := tbnd h
  refine CW.callVv (ci := 12) (st := []) [.int y1, .int (iG s 193 28)] dX12_part_23 (p_X12_wrongs q34) MV_X12_wrongs mL_X12_214 (by decide) rfl LA_193 rfl rfl (Nat.le_of_ble_eq_true rfl) (by first | decide | omega) ?_
  exact PW.pick [0, 1, 2] rfl (ok_j_X12_part_26 h hx)
def f_X12_part (N : Nat) (a0 : Int32) (a1 : Int32) (s : cS) : Option (Int32 × cS) :=
  if a0 = (8 : Int32) then
    ob (f_X12_seesDigit s) fun r28 s29 =>
    if r28 = 0 then
      j_X12_part_19 N a0 a1 (1 : Int32) s29
    else
      j_X12_part_19 N a0 a1 (4 : Int32) s29
  else
    j_X12_part_26 N a0 a1 s
set_option maxRecDepth 20000 in
set_option maxHeartbeats 4000000 in
theorem p_X12_part {g : pG} {l : Launch} {N : Nat} {a0 : Int32} {a1 : Int32} {s : cS} {q : Int32 × cS} (h : f_X12_part N a0 a1 s = some q) : PM g l 4 M_X12_part [.ref 193, .int a0, .int a1] (tS s) (some (.int q.1)) (tS q.2) 0 0 := by
  refine PM.of (by decide +kernel) (Nat.le_of_ble_eq_true rfl) ?_
  show PW g l (pRoom 4 0 0) M_X12_part _ 0 [(0, .ref 193), (1, .int a0), (2, .int a1)] [] (tS s) 0 0
  unfold f_X12_part at h
  generalize hF : pE g (some (.int q.1)) (tS q.2) 0 0 = F
  have hx := hF.symm
  refine PW.iload_n 1 1 dX12_part_0 rfl rfl ?_
  refine PW.bipush (v := 8) dX12_part_1 (by decide) ?_
  refine PW.icmp_ne (tgt := 26) dX12_part_3 (by decide) (fun c1 => ?_) (fun c1 => ?_)
  · replace h := ifn h c1
    exact PW.pick [0, 1, 2] rfl (ok_j_X12_part_26 h hx)
  · replace h := ifp h c1
    refine PW.aload_n 0 0 dX12_part_6 rfl rfl rfl ?_
    refine PW.aload_n 0 0 dX12_part_7 rfl rfl rfl ?_
    obtain ⟨r28, s29, q30, h⟩ := obnd h
    refine CW.callVi (ci := 12) (st := [.ref 193]) [] dX12_part_8 (p_X12_seesDigit q30) MV_X12_seesDigit mL_X12_229 (by decide) rfl LA_193 rfl rfl (Nat.le_of_ble_eq_true rfl) (by first | decide | omega) ?_
    refine PW.if_eq (tgt := 18) dX12_part_11 (by decide) (fun c31 => ?_) (fun c31 => ?_)
    · replace h := ifp h c31
      refine PW.iconst (v := 1) dX12_part_18 (by decide) ?_
      exact PW.pick [0, 1, 2] rfl (ok_j_X12_part_19 h hx)
    · replace h := ifn h c31
      refine PW.iconst (v := 4) dX12_part_14 (by decide) ?_
      refine PW.goto (tgt := 19) dX12_part_15 (by decide) ?_
      exact PW.pick [0, 1, 2] rfl (ok_j_X12_part_19 h hx)
/-! X12_isProgram -/
def f_X12_isProgram (a0 : Int32) (s : cS) : Int32 :=
  (f_X12_isIn a0.toInt64 (0 : Int64) (7 : Int64) s)
set_option maxRecDepth 20000 in
set_option maxHeartbeats 4000000 in
theorem p_X12_isProgram {g : pG} {l : Launch} {a0 : Int32} {s : cS} {q : Int32} (h : f_X12_isProgram a0 s = q) : PM g l 2 M_X12_isProgram [.int a0] (tS s) (some (.int q)) (tS s) 0 0 := by
  refine PM.of (by decide +kernel) (Nat.le_of_ble_eq_true rfl) ?_
  show PW g l (pRoom 2 0 0) M_X12_isProgram _ 0 [(0, .int a0)] [] (tS s) 0 0
  unfold f_X12_isProgram at h
  generalize hF : pE g (some (.int q)) (tS s) 0 0 = F
  have hx := hF.symm
  refine PW.iload_n 0 0 dX12_isProgram_0 rfl rfl ?_
  refine PW.i2l dX12_isProgram_1 ?_
  refine PW.lconst (v := 0) dX12_isProgram_2 (by decide) ?_
  refine PW.ldc2_w dX12_isProgram_3 kL_X12_354 ?_
  refine CW.callSi (st := []) [.long a0.toInt64, .long (0 : Int64), .long (7 : Int64)] dX12_isProgram_6 (p_X12_isIn rfl) MS_X12_isIn mL_X12_164 rfl rfl (Nat.le_of_ble_eq_true rfl) (by first | decide | omega) ?_
  cases h
  subst hx
  exact PW.iret dX12_isProgram_9 rfl (narZ (f_X12_isIn_bool)) (Nat.le_refl 0) (Nat.le_refl 0)
theorem f_X12_isProgram_bool {a0 : Int32} {s : cS} : f_X12_isProgram a0 s = 0 ∨ f_X12_isProgram a0 s = 1 := by
  unfold f_X12_isProgram
  repeat' split
  all_goals first | exact Or.inl rfl | exact Or.inr rfl | exact wB_bool _ _ _ | exact digB_bool | exact f_X11_within_bool | exact f_X9_hasRoomFor_bool | exact f_X9_atEnd_bool | exact f_X9_sound_bool | exact f_X9_onDigit_bool | exact f_X0_has_bool | exact f_X3_uses_bool | exact f_X1_has_bool | exact f_X1_hasLife_bool | exact f_X1_hasPiece_bool | exact f_X2_has_bool | exact f_X5_isIn_bool | exact f_X5_isKnown_bool | exact f_X10_has_bool | exact f_X7_has_bool | exact f_X7_hasFind_bool | exact f_J0_isLatin1_aae02_bool | exact f_J1_canEncode_9a6ad_bool | exact f_X12_isIn_bool | exact f_X12_has_bool | exact f_X12_isCorner_bool | exact f_X12_isGood_bool | exact f_X12_isTimes_bool | exact f_X12_isPlus_bool | exact f_X12_isSign_bool | exact f_X12_isValue_bool | exact f_X12_isPressure_bool
/-! X12_program -/
def b_X12_program_157 (x1 : Int32) (x3 : Int32) (x4 : Int32) (x6 : Int32) (s : cS) : Option ((Int32 × cS) ⊕ (Int32 × cS)) :=
  if x3 ≤ x6 then
    oR (
      if inb x1 16 then
      sb (iS s 217 x1.toNatClampNeg x3) fun s14 =>
      sb (iS s14 220 x1.toNatClampNeg x4) fun s15 =>
      some ((x4, s15))
      else none)
  else
    if inb x6 8 then
    if inb (((8 : Int32) * x1) + x6) 128 then
    sb (iS s 218 (((8 : Int32) * x1) + x6).toNatClampNeg (iG s 221 x6.toNatClampNeg)) fun s18 =>
    sb (iS s18 219 (((8 : Int32) * x1) + x6).toNatClampNeg (iG s18 222 x6.toNatClampNeg)) fun s19 =>
    some (.inl ((x6 + (1 : Int32)), s19))
    else none
    else none
set_option maxRecDepth 20000 in
set_option maxHeartbeats 4000000 in
theorem ok_b_X12_program_157 {g : pG} {l : Launch} {F : pF} {x1 : Int32} {x3 : Int32} {x4 : Int32} {x6 : Int32} {s : cS} {x : ((Int32 × cS) ⊕ (Int32 × cS))} (h : b_X12_program_157 x1 x3 x4 x6 s = some x) (hx : (KL (fun (v : Int32 × cS) => PW g l (pRoom 5 0 0) M_X12_program F 157 [(0, .ref 193), (1, .int x1), (3, .int x3), (4, .int x4), (6, .int v.1)] [] (tS v.2) 0 0) (fun q => F = pE g (some (.int q.1)) (tS q.2) 0 0)) x) : PW g l (pRoom 5 0 0) M_X12_program F 157 [(0, .ref 193), (1, .int x1), (3, .int x3), (4, .int x4), (6, .int x6)] [] (tS s) 0 0 := by
  unfold b_X12_program_157 at h
  refine PW.iload 4 dX12_program_157 rfl ?_
  refine PW.iload_n 2 3 dX12_program_159 rfl rfl ?_
  refine PW.icmp_ge (tgt := 207) dX12_program_160 (by decide) (fun c12 => ?_) (fun c12 => ?_)
  · replace h := ifp h c12
    obtain ⟨xo, hy, hxo⟩ := oRb h
    clear h
    subst hxo
    replace hx := KLr hx
    have h := hy
    clear hy
    refine PW.aload_n 0 0 dX12_program_207 rfl rfl rfl ?_
    refine CW.getr dX12_program_208 fL_X12_81 LA_193 (Or.inr ⟨_, rfl⟩) rfl ?_
    refine PW.iload_n 1 1 dX12_program_211 rfl rfl ?_
    refine PW.iload_n 2 3 dX12_program_212 rfl rfl ?_
    by_cases c13 : inb x1 16
    rotate_left
    · have h := ifn h c13; cases h
    replace h := ifp h c13
    refine CW.iast dX12_program_213 LA_217 c13 ?_
    obtain ⟨s14, es14, h⟩ := sbnd h
    refine PW.sbe es14 ?_
    clear es14
    refine PW.aload_n 0 0 dX12_program_214 rfl rfl rfl ?_
    refine CW.getr dX12_program_215 fL_X12_90 LA_193 (Or.inr ⟨_, rfl⟩) rfl ?_
    refine PW.iload_n 1 1 dX12_program_218 rfl rfl ?_
    refine PW.iload 3 dX12_program_219 rfl ?_
    refine CW.iast dX12_program_221 LA_220 c13 ?_
    obtain ⟨s15, es15, h⟩ := sbnd h
    refine PW.sbe es15 ?_
    clear es15
    refine PW.iload 3 dX12_program_222 rfl ?_
    cases h
    subst hx
    exact PW.iret dX12_program_224 rfl rfl (Nat.le_refl 0) (Nat.le_refl 0)
  · replace h := ifn h c12
    refine PW.aload_n 0 0 dX12_program_163 rfl rfl rfl ?_
    refine CW.getr dX12_program_164 fL_X12_84 LA_193 (Or.inr ⟨_, rfl⟩) rfl ?_
    refine PW.bipush (v := 8) dX12_program_167 (by decide) ?_
    refine PW.iload_n 1 1 dX12_program_169 rfl rfl ?_
    refine PW.imul dX12_program_170 ?_
    refine PW.iload 4 dX12_program_171 rfl ?_
    refine PW.iadd dX12_program_173 ?_
    refine PW.aload_n 0 0 dX12_program_174 rfl rfl rfl ?_
    refine CW.getr dX12_program_175 fL_X12_93 LA_193 (Or.inr ⟨_, rfl⟩) rfl ?_
    refine PW.iload 4 dX12_program_178 rfl ?_
    by_cases c16 : inb x6 8
    rotate_left
    · have h := ifn h c16; cases h
    replace h := ifp h c16
    refine CW.iald dX12_program_180 LA_221 c16 ?_
    by_cases c17 : inb (((8 : Int32) * x1) + x6) 128
    rotate_left
    · have h := ifn h c17; cases h
    replace h := ifp h c17
    refine CW.iast dX12_program_181 LA_218 c17 ?_
    obtain ⟨s18, es18, h⟩ := sbnd h
    refine PW.sbe es18 ?_
    clear es18
    refine PW.aload_n 0 0 dX12_program_182 rfl rfl rfl ?_
    refine CW.getr dX12_program_183 fL_X12_87 LA_193 (Or.inr ⟨_, rfl⟩) rfl ?_
    refine PW.bipush (v := 8) dX12_program_186 (by decide) ?_
    refine PW.iload_n 1 1 dX12_program_188 rfl rfl ?_
    refine PW.imul dX12_program_189 ?_
    refine PW.iload 4 dX12_program_190 rfl ?_
    refine PW.iadd dX12_program_192 ?_
    refine PW.aload_n 0 0 dX12_program_193 rfl rfl rfl ?_
    refine CW.getr dX12_program_194 fL_X12_96 LA_193 (Or.inr ⟨_, rfl⟩) rfl ?_
    refine PW.iload 4 dX12_program_197 rfl ?_
    refine CW.iald dX12_program_199 LA_222 c16 ?_
    refine CW.iast dX12_program_200 LA_219 c17 ?_
    obtain ⟨s19, es19, h⟩ := sbnd h
    refine PW.sbe es19 ?_
    clear es19
    refine PW.iinc (v := (x6 + (1 : Int32))) 4 dX12_program_201 rfl (by first | rfl | decide) (Nat.le_of_ble_eq_true rfl) rfl ?_
    refine PW.goto (tgt := 157) dX12_program_204 (by decide) ?_
    cases h
    exact PW.pick [1, 2, 3, 4, 0] rfl hx
def w_X12_program_157 (N : Nat) (x1 : Int32) (x3 : Int32) (x4 : Int32) (x6 : Int32) (s : cS) : Option (Int32 × cS) := itr (fun (v : Int32 × cS) => b_X12_program_157 x1 x3 x4 v.1 v.2) N (x6, s)
theorem ok_w_X12_program_157 {g : pG} {l : Launch} {F : pF} {N : Nat} {x1 : Int32} {x3 : Int32} {x4 : Int32} {x6 : Int32} {s : cS} {x : (Int32 × cS)} (h : w_X12_program_157 N x1 x3 x4 x6 s = some x) (hx : (fun q => F = pE g (some (.int q.1)) (tS q.2) 0 0) x) : PW g l (pRoom 5 0 0) M_X12_program F 157 [(0, .ref 193), (1, .int x1), (3, .int x3), (4, .int x4), (6, .int x6)] [] (tS s) 0 0 :=
  okIter (P := (fun (v : Int32 × cS) => PW g l (pRoom 5 0 0) M_X12_program F 157 [(0, .ref 193), (1, .int x1), (3, .int x3), (4, .int x4), (6, .int v.1)] [] (tS v.2) 0 0)) (K := (fun q => F = pE g (some (.int q.1)) (tS q.2) 0 0)) (fun v y hB hy => ok_b_X12_program_157 hB hy) N (x6, s) x h hx
def j_X12_program_142 (N : Nat) (x1 : Int32) (x3 : Int32) (x4 : Int32) (s : cS) : Option (Int32 × cS) :=
  if 0 ≤ (iG s 193 30) then
    w_X12_program_157 N x1 x3 x4 (0 : Int32) s
  else
    some (((iG s 193 30), s))
set_option maxRecDepth 20000 in
set_option maxHeartbeats 4000000 in
theorem ok_j_X12_program_142 {g : pG} {l : Launch} {F : pF} {N : Nat} {x1 : Int32} {x3 : Int32} {x4 : Int32} {s : cS} {x : (Int32 × cS)} (h : j_X12_program_142 N x1 x3 x4 s = some x) (hx : (fun q => F = pE g (some (.int q.1)) (tS q.2) 0 0) x) : PW g l (pRoom 5 0 0) M_X12_program F 142 [(0, .ref 193), (1, .int x1), (3, .int x3), (4, .int x4)] [] (tS s) 0 0 := by
  unfold j_X12_program_142 at h
  refine PW.aload_n 0 0 dX12_program_142 rfl rfl rfl ?_
  refine CW.geti dX12_program_143 fL_X12_198 LA_193 (Or.inl rfl) ?_
  refine PW.if_ge (tgt := 154) dX12_program_146 (by decide) (fun c11 => ?_) (fun c11 => ?_)
  · replace h := ifp h c11
    refine PW.iconst (v := 0) dX12_program_154 (by decide) ?_
    refine PW.istore dX12_program_155 (Nat.le_of_ble_eq_true rfl) rfl ?_
    exact PW.pick [1, 2, 3, 4, 0] rfl (ok_w_X12_program_157 h hx)
  · replace h := ifn h c11
    refine PW.aload_n 0 0 dX12_program_149 rfl rfl rfl ?_
    refine CW.geti dX12_program_150 fL_X12_198 LA_193 (Or.inl rfl) ?_
    cases h
    subst hx
    exact PW.iret dX12_program_153 rfl rfl (Nat.le_refl 0) (Nat.le_refl 0)
def j_X12_program_129 (x1 : Int32) (x3 : Int32) (x4 : Int32) (x5 : Int32) (s : cS) : Option (((Int32 × Int32 × Int32) × cS) ⊕ (Int32 × cS)) :=
  sb (iS s 193 28 ((iG s 193 28) + (1 : Int32))) fun s32 =>
  some (.inl ((x3, x4, x5), s32))
set_option maxRecDepth 20000 in
set_option maxHeartbeats 4000000 in
theorem ok_j_X12_program_129 {g : pG} {l : Launch} {F : pF} {x1 : Int32} {x3 : Int32} {x4 : Int32} {x5 : Int32} {s : cS} {x : (((Int32 × Int32 × Int32) × cS) ⊕ (Int32 × cS))} (h : j_X12_program_129 x1 x3 x4 x5 s = some x) (hx : (KL (fun (v : (Int32 × Int32 × Int32) × cS) => PW g l (pRoom 5 0 0) M_X12_program F 57 [(0, .ref 193), (1, .int x1), (3, .int v.1.1), (4, .int v.1.2.1), (5, .int v.1.2.2)] [] (tS v.2) 0 0) (fun q => F = pE g (some (.int q.1)) (tS q.2) 0 0)) x) : PW g l (pRoom 5 0 0) M_X12_program F 129 [(0, .ref 193), (1, .int x1), (3, .int x3), (4, .int x4), (5, .int x5)] [] (tS s) 0 0 := by
  unfold j_X12_program_129 at h
  refine PW.aload_n 0 0 dX12_program_129 rfl rfl rfl ?_
  refine PW.dup dX12_program_130 rfl ?_
  refine CW.geti dX12_program_131 fL_X12_192 LA_193 (Or.inl rfl) ?_
  refine PW.iconst (v := 1) dX12_program_134 (by decide) ?_
  refine PW.iadd dX12_program_135 ?_
  refine CW.puti dX12_program_136 fL_X12_192 rfl LA_193 rfl ?_
  obtain ⟨s32, es32, h⟩ := sbnd h
  refine PW.sbe es32 ?_
  clear es32
  refine PW.goto (tgt := 57) dX12_program_139 (by decide) ?_
  cases h
  exact PW.pick [0, 1, 2, 3, 4] rfl hx
def j_X12_program_104 (x1 : Int32) (x3 : Int32) (x4 : Int32) (y0 : Int32) (s : cS) : Option (((Int32 × Int32 × Int32) × cS) ⊕ (Int32 × cS)) :=
  if y0 = 0 then
    some (.inl ((x3, x4, y0), s))
  else
    ob (f_X12_here s) fun r28 s29 =>
    if r28 = (59 : Int32) then
      j_X12_program_129 x1 x3 x4 y0 s29
    else
      tb (f_X12_wrongs (1 : Int32) (iG s29 193 28) s29) fun r33 s34 =>
      j_X12_program_129 x1 x3 x4 y0 s34
set_option maxRecDepth 20000 in
set_option maxHeartbeats 4000000 in
theorem ok_j_X12_program_104 {g : pG} {l : Launch} {F : pF} {x1 : Int32} {x3 : Int32} {x4 : Int32} {y0 : Int32} {s : cS} {x : (((Int32 × Int32 × Int32) × cS) ⊕ (Int32 × cS))} (h : j_X12_program_104 x1 x3 x4 y0 s = some x) (hx : (KL (fun (v : (Int32 × Int32 × Int32) × cS) => PW g l (pRoom 5 0 0) M_X12_program F 57 [(0, .ref 193), (1, .int x1), (3, .int v.1.1), (4, .int v.1.2.1), (5, .int v.1.2.2)] [] (tS v.2) 0 0) (fun q => F = pE g (some (.int q.1)) (tS q.2) 0 0)) x) : PW g l (pRoom 5 0 0) M_X12_program F 104 [(0, .ref 193), (1, .int x1), (3, .int x3), (4, .int x4)] [.int y0] (tS s) 0 0 := by
  unfold j_X12_program_104 at h
  refine PW.istore dX12_program_104 (Nat.le_of_ble_eq_true rfl) rfl ?_
  refine PW.iload 0 dX12_program_106 rfl ?_
  refine PW.if_eq (tgt := 57) dX12_program_108 (by decide) (fun c27 => ?_) (fun c27 => ?_)
  · replace h := ifp h c27
    cases h
    exact PW.pick [1, 2, 3, 4, 0] rfl hx
  · replace h := ifn h c27
    refine PW.aload_n 1 0 dX12_program_111 rfl rfl rfl ?_
    obtain ⟨r28, s29, q30, h⟩ := obnd h
    refine CW.callVi (ci := 12) (st := []) [] dX12_program_112 (p_X12_here q30) MV_X12_here mL_X12_218 (by decide) rfl LA_193 rfl rfl (Nat.le_of_ble_eq_true rfl) (by first | decide | omega) ?_
    refine PW.bipush (v := 59) dX12_program_115 (by decide) ?_
    refine PW.icmp_eq (tgt := 129) dX12_program_117 (by decide) (fun c31 => ?_) (fun c31 => ?_)
    · replace h := ifp h c31
      exact PW.pick [1, 2, 3, 4, 0] rfl (ok_j_X12_program_129 h hx)
    · replace h := ifn h c31
      refine PW.aload_n 1 0 dX12_program_120 rfl rfl rfl ?_
      refine PW.iconst (v := 1) dX12_program_121 (by decide) ?_
      refine PW.aload_n 1 0 dX12_program_122 rfl rfl rfl ?_
      refine CW.geti dX12_program_123 fL_X12_192 LA_193 (Or.inl rfl) ?_
      obtain ⟨r33, s34, q35, h⟩ := tbnd h
      refine CW.callVv (ci := 12) (st := []) [.int (1 : Int32), .int (iG s29 193 28)] dX12_program_126 (p_X12_wrongs q35) MV_X12_wrongs mL_X12_214 (by decide) rfl LA_193 rfl rfl (Nat.le_of_ble_eq_true rfl) (by first | decide | omega) ?_
      exact PW.pick [1, 2, 3, 4, 0] rfl (ok_j_X12_program_129 h hx)
def j_X12_program_103 (x1 : Int32) (x3 : Int32) (x4 : Int32) (s : cS) : Option (((Int32 × Int32 × Int32) × cS) ⊕ (Int32 × cS)) :=
  j_X12_program_104 x1 x3 x4 (0 : Int32) s
set_option maxRecDepth 20000 in
set_option maxHeartbeats 4000000 in
theorem ok_j_X12_program_103 {g : pG} {l : Launch} {F : pF} {x1 : Int32} {x3 : Int32} {x4 : Int32} {s : cS} {x : (((Int32 × Int32 × Int32) × cS) ⊕ (Int32 × cS))} (h : j_X12_program_103 x1 x3 x4 s = some x) (hx : (KL (fun (v : (Int32 × Int32 × Int32) × cS) => PW g l (pRoom 5 0 0) M_X12_program F 57 [(0, .ref 193), (1, .int x1), (3, .int v.1.1), (4, .int v.1.2.1), (5, .int v.1.2.2)] [] (tS v.2) 0 0) (fun q => F = pE g (some (.int q.1)) (tS q.2) 0 0)) x) : PW g l (pRoom 5 0 0) M_X12_program F 103 [(0, .ref 193), (1, .int x1), (3, .int x3), (4, .int x4)] [] (tS s) 0 0 := by
  unfold j_X12_program_103 at h
  refine PW.iconst (v := 0) dX12_program_103 (by decide) ?_
  exact PW.pick [0, 1, 2, 3] rfl (ok_j_X12_program_104 h hx)
def b_X12_program_57 (N : Nat) (x1 : Int32) (x3 : Int32) (x4 : Int32) (x5 : Int32) (s : cS) : Option (((Int32 × Int32 × Int32) × cS) ⊕ (Int32 × cS)) :=
  if x5 = 0 then
    oR (
      j_X12_program_142 N x1 x3 x4 s)
  else
    if (f_X12_isGood s) = 0 then
      oR (
        j_X12_program_142 N x1 x3 x4 s)
    else
      ob (f_X12_part N x3 x4 s) fun r22 s23 =>
      if (f_X12_isGood s23) = 0 then
        j_X12_program_103 x1 (x3 + (1 : Int32)) r22 s23
      else
        if (iG s23 193 29) ≤ (iG s23 193 28) then
          j_X12_program_103 x1 (x3 + (1 : Int32)) r22 s23
        else
          j_X12_program_104 x1 (x3 + (1 : Int32)) r22 (1 : Int32) s23
set_option maxRecDepth 20000 in
set_option maxHeartbeats 4000000 in
theorem ok_b_X12_program_57 {g : pG} {l : Launch} {F : pF} {N : Nat} {x1 : Int32} {x3 : Int32} {x4 : Int32} {x5 : Int32} {s : cS} {x : (((Int32 × Int32 × Int32) × cS) ⊕ (Int32 × cS))} (h : b_X12_program_57 N x1 x3 x4 x5 s = some x) (hx : (KL (fun (v : (Int32 × Int32 × Int32) × cS) => PW g l (pRoom 5 0 0) M_X12_program F 57 [(0, .ref 193), (1, .int x1), (3, .int v.1.1), (4, .int v.1.2.1), (5, .int v.1.2.2)] [] (tS v.2) 0 0) (fun q => F = pE g (some (.int q.1)) (tS q.2) 0 0)) x) : PW g l (pRoom 5 0 0) M_X12_program F 57 [(0, .ref 193), (1, .int x1), (3, .int x3), (4, .int x4), (5, .int x5)] [] (tS s) 0 0 := by
  unfold b_X12_program_57 at h
  refine PW.iload 4 dX12_program_57 rfl ?_
  refine PW.if_eq (tgt := 142) dX12_program_59 (by decide) (fun c10 => ?_) (fun c10 => ?_)
  · replace h := ifp h c10
    obtain ⟨xo, hy, hxo⟩ := oRb h
    clear h
    subst hxo
    replace hx := KLr hx
    have h := hy
    clear hy
    exact PW.pick [0, 1, 2, 3] rfl (ok_j_X12_program_142 h hx)
  · replace h := ifn h c10
    refine PW.aload_n 0 0 dX12_program_62 rfl rfl rfl ?_
    refine CW.callVi (ci := 12) (st := []) [] dX12_program_63 (p_X12_isGood rfl) MV_X12_isGood mL_X12_201 (by decide) rfl LA_193 rfl rfl (Nat.le_of_ble_eq_true rfl) (by first | decide | omega) ?_
    refine PW.if_eq (tgt := 142) dX12_program_66 (by decide) (fun c21 => ?_) (fun c21 => ?_)
    · replace h := ifp h c21
      obtain ⟨xo, hy, hxo⟩ := oRb h
      clear h
      subst hxo
      replace hx := KLr hx
      have h := hy
      clear hy
      exact PW.pick [0, 1, 2, 3] rfl (ok_j_X12_program_142 h hx)
    · replace h := ifn h c21
      refine PW.aload_n 0 0 dX12_program_69 rfl rfl rfl ?_
      refine PW.iload_n 2 3 dX12_program_70 rfl rfl ?_
      refine PW.iload 3 dX12_program_71 rfl ?_
      obtain ⟨r22, s23, q24, h⟩ := obnd h
      refine CW.callVi (ci := 12) (st := []) [.int x3, .int x4] dX12_program_73 (p_X12_part q24) MV_X12_part mL_X12_361 (by decide) rfl LA_193 rfl rfl (Nat.le_of_ble_eq_true rfl) (by first | decide | omega) ?_
      refine PW.istore dX12_program_76 (Nat.le_of_ble_eq_true rfl) rfl ?_
      refine PW.iinc (v := (x3 + (1 : Int32))) 3 dX12_program_78 rfl (by first | rfl | decide) (Nat.le_of_ble_eq_true rfl) rfl ?_
      refine PW.aload_n 2 0 dX12_program_81 rfl rfl rfl ?_
      refine CW.callVi (ci := 12) (st := []) [] dX12_program_82 (p_X12_isGood rfl) MV_X12_isGood mL_X12_201 (by decide) rfl LA_193 rfl rfl (Nat.le_of_ble_eq_true rfl) (by first | decide | omega) ?_
      refine PW.if_eq (tgt := 103) dX12_program_85 (by decide) (fun c26 => ?_) (fun c26 => ?_)
      · replace h := ifp h c26
        exact PW.pick [2, 3, 0, 1] rfl (ok_j_X12_program_103 h hx)
      · replace h := ifn h c26
        refine PW.aload_n 2 0 dX12_program_88 rfl rfl rfl ?_
        refine CW.geti dX12_program_89 fL_X12_192 LA_193 (Or.inl rfl) ?_
        refine PW.aload_n 2 0 dX12_program_92 rfl rfl rfl ?_
        refine CW.geti dX12_program_93 fL_X12_195 LA_193 (Or.inl rfl) ?_
        refine PW.icmp_ge (tgt := 103) dX12_program_96 (by decide) (fun c36 => ?_) (fun c36 => ?_)
        · replace h := ifp h c36
          exact PW.pick [2, 3, 0, 1] rfl (ok_j_X12_program_103 h hx)
        · replace h := ifn h c36
          refine PW.iconst (v := 1) dX12_program_99 (by decide) ?_
          refine PW.goto (tgt := 104) dX12_program_100 (by decide) ?_
          exact PW.pick [2, 3, 0, 1] rfl (ok_j_X12_program_104 h hx)
def w_X12_program_57 (N : Nat) (x1 : Int32) (x3 : Int32) (x4 : Int32) (x5 : Int32) (s : cS) : Option (Int32 × cS) := itr (fun (v : (Int32 × Int32 × Int32) × cS) => b_X12_program_57 N x1 v.1.1 v.1.2.1 v.1.2.2 v.2) N ((x3, x4, x5), s)
theorem ok_w_X12_program_57 {g : pG} {l : Launch} {F : pF} {N : Nat} {x1 : Int32} {x3 : Int32} {x4 : Int32} {x5 : Int32} {s : cS} {x : (Int32 × cS)} (h : w_X12_program_57 N x1 x3 x4 x5 s = some x) (hx : (fun q => F = pE g (some (.int q.1)) (tS q.2) 0 0) x) : PW g l (pRoom 5 0 0) M_X12_program F 57 [(0, .ref 193), (1, .int x1), (3, .int x3), (4, .int x4), (5, .int x5)] [] (tS s) 0 0 :=
  okIter (P := (fun (v : (Int32 × Int32 × Int32) × cS) => PW g l (pRoom 5 0 0) M_X12_program F 57 [(0, .ref 193), (1, .int x1), (3, .int v.1.1), (4, .int v.1.2.1), (5, .int v.1.2.2)] [] (tS v.2) 0 0)) (K := (fun q => F = pE g (some (.int q.1)) (tS q.2) 0 0)) (fun v y hB hy => ok_b_X12_program_57 hB hy) N ((x3, x4, x5), s) x h hx
def f_X12_program (N : Nat) (a0 : Int32) (a1 : Int32) (s : cS) : Option (Int32 × cS) :=
  if (f_X12_isProgram a0 s) = 0 then
    some (((-1 : Int32), s))
  else
    if (f_X12_isIn a1.toInt64 (1 : Int64) (60 : Int64) s) = 0 then
      some (((-1 : Int32), s))
    else
      if a1 ≤ (iG s 193 1) then
        sb (iS s 193 1 (0 : Int32)) fun s6 =>
        sb (iS s6 193 28 (0 : Int32)) fun s7 =>
        sb (iS s7 193 29 a1) fun s8 =>
        sb (iS s8 193 30 (0 : Int32)) fun s9 =>
        w_X12_program_57 N a0 (0 : Int32) (0 : Int32) (1 : Int32) s9
      else
        some (((-1 : Int32), s))
set_option maxRecDepth 20000 in
set_option maxHeartbeats 4000000 in
theorem p_X12_program {g : pG} {l : Launch} {N : Nat} {a0 : Int32} {a1 : Int32} {s : cS} {q : Int32 × cS} (h : f_X12_program N a0 a1 s = some q) : PM g l 5 M_X12_program [.ref 193, .int a0, .int a1] (tS s) (some (.int q.1)) (tS q.2) 0 0 := by
  refine PM.of (by decide +kernel) (Nat.le_of_ble_eq_true rfl) ?_
  show PW g l (pRoom 5 0 0) M_X12_program _ 0 [(0, .ref 193), (1, .int a0), (2, .int a1)] [] (tS s) 0 0
  unfold f_X12_program at h
  generalize hF : pE g (some (.int q.1)) (tS q.2) 0 0 = F
  have hx := hF.symm
  refine PW.iload_n 1 1 dX12_program_0 rfl rfl ?_
  refine CW.callSi (st := []) [.int a0] dX12_program_1 (p_X12_isProgram rfl) MS_X12_isProgram mL_X12_356 rfl rfl (Nat.le_of_ble_eq_true rfl) (by first | decide | omega) ?_
  refine PW.if_eq (tgt := 27) dX12_program_4 (by decide) (fun c2 => ?_) (fun c2 => ?_)
  · replace h := ifp h c2
    refine PW.iconst (v := (-1)) dX12_program_27 (by decide) ?_
    cases h
    subst hx
    exact PW.iret dX12_program_28 rfl rfl (Nat.le_refl 0) (Nat.le_refl 0)
  · replace h := ifn h c2
    refine PW.iload_n 2 2 dX12_program_7 rfl rfl ?_
    refine PW.i2l dX12_program_8 ?_
    refine PW.lconst (v := 1) dX12_program_9 (by decide) ?_
    refine PW.ldc2_w dX12_program_10 kL_X12_359 ?_
    refine CW.callSi (st := []) [.long a1.toInt64, .long (1 : Int64), .long (60 : Int64)] dX12_program_13 (p_X12_isIn rfl) MS_X12_isIn mL_X12_164 rfl rfl (Nat.le_of_ble_eq_true rfl) (by first | decide | omega) ?_
    refine PW.if_eq (tgt := 27) dX12_program_16 (by decide) (fun c4 => ?_) (fun c4 => ?_)
    · replace h := ifp h c4
      refine PW.iconst (v := (-1)) dX12_program_27 (by decide) ?_
      cases h
      subst hx
      exact PW.iret dX12_program_28 rfl rfl (Nat.le_refl 0) (Nat.le_refl 0)
    · replace h := ifn h c4
      refine PW.iload_n 2 2 dX12_program_19 rfl rfl ?_
      refine PW.aload_n 0 0 dX12_program_20 rfl rfl rfl ?_
      refine CW.geti dX12_program_21 fL_X12_185 LA_193 (Or.inl rfl) ?_
      refine PW.icmp_le (tgt := 29) dX12_program_24 (by decide) (fun c5 => ?_) (fun c5 => ?_)
      · replace h := ifp h c5
        refine PW.aload_n 0 0 dX12_program_29 rfl rfl rfl ?_
        refine PW.iconst (v := 0) dX12_program_30 (by decide) ?_
        refine CW.puti dX12_program_31 fL_X12_185 rfl LA_193 rfl ?_
        obtain ⟨s6, es6, h⟩ := sbnd h
        refine PW.sbe es6 ?_
        clear es6
        refine PW.aload_n 0 0 dX12_program_34 rfl rfl rfl ?_
        refine PW.iconst (v := 0) dX12_program_35 (by decide) ?_
        refine CW.puti dX12_program_36 fL_X12_192 rfl LA_193 rfl ?_
        obtain ⟨s7, es7, h⟩ := sbnd h
        refine PW.sbe es7 ?_
        clear es7
        refine PW.aload_n 0 0 dX12_program_39 rfl rfl rfl ?_
        refine PW.iload_n 2 2 dX12_program_40 rfl rfl ?_
        refine CW.puti dX12_program_41 fL_X12_195 rfl LA_193 rfl ?_
        obtain ⟨s8, es8, h⟩ := sbnd h
        refine PW.sbe es8 ?_
        clear es8
        refine PW.aload_n 0 0 dX12_program_44 rfl rfl rfl ?_
        refine PW.iconst (v := 0) dX12_program_45 (by decide) ?_
        refine CW.puti dX12_program_46 fL_X12_198 rfl LA_193 rfl ?_
        obtain ⟨s9, es9, h⟩ := sbnd h
        refine PW.sbe es9 ?_
        clear es9
        refine PW.iconst (v := 0) dX12_program_49 (by decide) ?_
        refine PW.istore_n dX12_program_50 rfl (Nat.le_of_ble_eq_true rfl) rfl ?_
        refine PW.iconst (v := 0) dX12_program_51 (by decide) ?_
        refine PW.istore dX12_program_52 (Nat.le_of_ble_eq_true rfl) rfl ?_
        refine PW.iconst (v := 1) dX12_program_54 (by decide) ?_
        refine PW.istore dX12_program_55 (Nat.le_of_ble_eq_true rfl) rfl ?_
        exact PW.pick [3, 4, 2, 1, 0] rfl (ok_w_X12_program_57 h hx)
      · replace h := ifn h c5
        refine PW.iconst (v := (-1)) dX12_program_27 (by decide) ?_
        cases h
        subst hx
        exact PW.iret dX12_program_28 rfl rfl (Nat.le_refl 0) (Nat.le_refl 0)
/-! X12_goes -/
def j_X12_goes_178 (x2 : Int32) (x3 : Int32) (x4 : Int32) (x5 : Int32) (x6 : Int32) (x7 : Int32) (s : cS) : Option ((Int32 × cS) ⊕ (Unit × cS)) :=
  some (.inl ((x7 + (1 : Int32)), s))
set_option maxRecDepth 20000 in
set_option maxHeartbeats 4000000 in
theorem ok_j_X12_goes_178 {g : pG} {l : Launch} {F : pF} {x2 : Int32} {x3 : Int32} {x4 : Int32} {x5 : Int32} {x6 : Int32} {x7 : Int32} {s : cS} {x : ((Int32 × cS) ⊕ (Unit × cS))} (h : j_X12_goes_178 x2 x3 x4 x5 x6 x7 s = some x) (hx : (KL (fun (v : Int32 × cS) => PW g l (pRoom 6 0 0) M_X12_goes F 35 [(0, .ref 193), (2, .int x2), (3, .int x3), (4, .int x4), (5, .int x5), (6, .int x6), (7, .int v.1)] [] (tS v.2) 0 0) (fun q => F = pE g none (tS q.2) 0 0)) x) : PW g l (pRoom 6 0 0) M_X12_goes F 178 [(0, .ref 193), (2, .int x2), (3, .int x3), (4, .int x4), (5, .int x5), (6, .int x6), (7, .int x7)] [] (tS s) 0 0 := by
  unfold j_X12_goes_178 at h
  refine PW.iinc (v := (x7 + (1 : Int32))) 6 dX12_goes_178 rfl (by first | rfl | decide) (Nat.le_of_ble_eq_true rfl) rfl ?_
  refine PW.goto (tgt := 35) dX12_goes_181 (by decide) ?_
  cases h
  exact PW.pick [1, 2, 3, 4, 5, 6, 0] rfl hx
def j_X12_goes_172 (x2 : Int32) (x3 : Int32) (x4 : Int32) (x5 : Int32) (x6 : Int32) (x7 : Int32) (x8 : Int32) (x9 : Int32) (s : cS) : Option ((Int32 × cS) ⊕ ((Int32 × cS) ⊕ (Unit × cS))) :=
  some (.inl ((x9 + (1 : Int32)), s))
set_option maxRecDepth 20000 in
set_option maxHeartbeats 4000000 in
theorem ok_j_X12_goes_172 {g : pG} {l : Launch} {F : pF} {x2 : Int32} {x3 : Int32} {x4 : Int32} {x5 : Int32} {x6 : Int32} {x7 : Int32} {x8 : Int32} {x9 : Int32} {s : cS} {x : ((Int32 × cS) ⊕ ((Int32 × cS) ⊕ (Unit × cS)))} (h : j_X12_goes_172 x2 x3 x4 x5 x6 x7 x8 x9 s = some x) (hx : (KL (fun (v : Int32 × cS) => PW g l (pRoom 6 0 0) M_X12_goes F 106 [(0, .ref 193), (2, .int x2), (3, .int x3), (4, .int x4), (5, .int x5), (6, .int x6), (7, .int x7), (8, .int x8), (9, .int v.1)] [] (tS v.2) 0 0) (KL (fun (v : Int32 × cS) => PW g l (pRoom 6 0 0) M_X12_goes F 35 [(0, .ref 193), (2, .int x2), (3, .int x3), (4, .int x4), (5, .int x5), (6, .int x6), (7, .int v.1)] [] (tS v.2) 0 0) (fun q => F = pE g none (tS q.2) 0 0))) x) : PW g l (pRoom 6 0 0) M_X12_goes F 172 [(0, .ref 193), (2, .int x2), (3, .int x3), (4, .int x4), (5, .int x5), (6, .int x6), (7, .int x7), (8, .int x8), (9, .int x9)] [] (tS s) 0 0 := by
  unfold j_X12_goes_172 at h
  refine PW.iinc (v := (x9 + (1 : Int32))) 8 dX12_goes_172 rfl (by first | rfl | decide) (Nat.le_of_ble_eq_true rfl) rfl ?_
  refine PW.goto (tgt := 106) dX12_goes_175 (by decide) ?_
  cases h
  exact PW.pick [1, 2, 3, 4, 5, 6, 7, 8, 0] rfl hx
def j_X12_goes_157 (x2 : Int32) (x3 : Int32) (x4 : Int32) (x5 : Int32) (x6 : Int32) (x7 : Int32) (x8 : Int32) (x9 : Int32) (s : cS) : Option ((Int32 × cS) ⊕ ((Int32 × cS) ⊕ (Unit × cS))) :=
  ob (f_X12_runsNow s) fun r22 s23 =>
  if r22 = 0 then
    j_X12_goes_172 x2 x3 x4 x5 x6 x7 x8 x9 s23
  else
    sb (iS s23 193 54 (iG s23 193 40)) fun s26 =>
    j_X12_goes_172 x2 x3 x4 x5 x6 x7 x8 x9 s26
set_option maxRecDepth 20000 in
set_option maxHeartbeats 4000000 in
theorem ok_j_X12_goes_157 {g : pG} {l : Launch} {F : pF} {x2 : Int32} {x3 : Int32} {x4 : Int32} {x5 : Int32} {x6 : Int32} {x7 : Int32} {x8 : Int32} {x9 : Int32} {s : cS} {x : ((Int32 × cS) ⊕ ((Int32 × cS) ⊕ (Unit × cS)))} (h : j_X12_goes_157 x2 x3 x4 x5 x6 x7 x8 x9 s = some x) (hx : (KL (fun (v : Int32 × cS) => PW g l (pRoom 6 0 0) M_X12_goes F 106 [(0, .ref 193), (2, .int x2), (3, .int x3), (4, .int x4), (5, .int x5), (6, .int x6), (7, .int x7), (8, .int x8), (9, .int v.1)] [] (tS v.2) 0 0) (KL (fun (v : Int32 × cS) => PW g l (pRoom 6 0 0) M_X12_goes F 35 [(0, .ref 193), (2, .int x2), (3, .int x3), (4, .int x4), (5, .int x5), (6, .int x6), (7, .int v.1)] [] (tS v.2) 0 0) (fun q => F = pE g none (tS q.2) 0 0))) x) : PW g l (pRoom 6 0 0) M_X12_goes F 157 [(0, .ref 193), (2, .int x2), (3, .int x3), (4, .int x4), (5, .int x5), (6, .int x6), (7, .int x7), (8, .int x8), (9, .int x9)] [] (tS s) 0 0 := by
  unfold j_X12_goes_157 at h
  refine PW.aload_n 0 0 dX12_goes_157 rfl rfl rfl ?_
  obtain ⟨r22, s23, q24, h⟩ := obnd h
  refine CW.callVi (ci := 12) (st := []) [] dX12_goes_158 (p_X12_runsNow q24) MV_X12_runsNow mL_X12_373 (by decide) rfl LA_193 rfl rfl (Nat.le_of_ble_eq_true rfl) (by first | decide | omega) ?_
  refine PW.if_eq (tgt := 172) dX12_goes_161 (by decide) (fun c25 => ?_) (fun c25 => ?_)
  · replace h := ifp h c25
    exact PW.pick [0, 1, 2, 3, 4, 5, 6, 7, 8] rfl (ok_j_X12_goes_172 h hx)
  · replace h := ifn h c25
    refine PW.aload_n 0 0 dX12_goes_164 rfl rfl rfl ?_
    refine PW.aload_n 0 0 dX12_goes_165 rfl rfl rfl ?_
    refine CW.geti dX12_goes_166 fL_X12_308 LA_193 (Or.inl rfl) ?_
    refine CW.puti dX12_goes_169 fL_X12_367 rfl LA_193 rfl ?_
    obtain ⟨s26, es26, h⟩ := sbnd h
    refine PW.sbe es26 ?_
    clear es26
    exact PW.pick [0, 1, 2, 3, 4, 5, 6, 7, 8] rfl (ok_j_X12_goes_172 h hx)
def b_X12_goes_106 (N : Nat) (x2 : Int32) (x3 : Int32) (x4 : Int32) (x5 : Int32) (x6 : Int32) (x7 : Int32) (x8 : Int32) (x9 : Int32) (s : cS) : Option ((Int32 × cS) ⊕ ((Int32 × cS) ⊕ (Unit × cS))) :=
  if x8 ≤ x9 then
    oR (
      j_X12_goes_178 x2 x3 x4 x5 x6 x7 s)
  else
    if (iG s 193 54) = 0 then
      ob (f_X12_isPulled N x2 s) fun r17 s18 =>
      sb (iS s18 193 40 ((iG s18 193 40) + (1 : Int32))) fun s20 =>
      if (iG s20 193 43) ≤ 0 then
        j_X12_goes_157 x2 x3 x4 x5 x6 x7 x8 x9 s20
      else
        if (iG s20 193 53) = 0 then
          sb (iS s20 193 53 (iG s20 193 40)) fun s28 =>
          j_X12_goes_157 x2 x3 x4 x5 x6 x7 x8 x9 s28
        else
          j_X12_goes_157 x2 x3 x4 x5 x6 x7 x8 x9 s20
    else
      oR (
        j_X12_goes_178 x2 x3 x4 x5 x6 x7 s)
set_option maxRecDepth 20000 in
set_option maxHeartbeats 4000000 in
theorem ok_b_X12_goes_106 {g : pG} {l : Launch} {F : pF} {N : Nat} {x2 : Int32} {x3 : Int32} {x4 : Int32} {x5 : Int32} {x6 : Int32} {x7 : Int32} {x8 : Int32} {x9 : Int32} {s : cS} {x : ((Int32 × cS) ⊕ ((Int32 × cS) ⊕ (Unit × cS)))} (h : b_X12_goes_106 N x2 x3 x4 x5 x6 x7 x8 x9 s = some x) (hx : (KL (fun (v : Int32 × cS) => PW g l (pRoom 6 0 0) M_X12_goes F 106 [(0, .ref 193), (2, .int x2), (3, .int x3), (4, .int x4), (5, .int x5), (6, .int x6), (7, .int x7), (8, .int x8), (9, .int v.1)] [] (tS v.2) 0 0) (KL (fun (v : Int32 × cS) => PW g l (pRoom 6 0 0) M_X12_goes F 35 [(0, .ref 193), (2, .int x2), (3, .int x3), (4, .int x4), (5, .int x5), (6, .int x6), (7, .int v.1)] [] (tS v.2) 0 0) (fun q => F = pE g none (tS q.2) 0 0))) x) : PW g l (pRoom 6 0 0) M_X12_goes F 106 [(0, .ref 193), (2, .int x2), (3, .int x3), (4, .int x4), (5, .int x5), (6, .int x6), (7, .int x7), (8, .int x8), (9, .int x9)] [] (tS s) 0 0 := by
  unfold b_X12_goes_106 at h
  refine PW.iload 8 dX12_goes_106 rfl ?_
  refine PW.iload 7 dX12_goes_108 rfl ?_
  refine PW.icmp_ge (tgt := 178) dX12_goes_110 (by decide) (fun c15 => ?_) (fun c15 => ?_)
  · replace h := ifp h c15
    obtain ⟨xo, hy, hxo⟩ := oRb h
    clear h
    subst hxo
    replace hx := KLr hx
    have h := hy
    clear hy
    exact PW.pick [0, 1, 2, 3, 4, 5, 6] rfl (ok_j_X12_goes_178 h hx)
  · replace h := ifn h c15
    refine PW.aload_n 0 0 dX12_goes_113 rfl rfl rfl ?_
    refine CW.geti dX12_goes_114 fL_X12_367 LA_193 (Or.inl rfl) ?_
    refine PW.if_ne (tgt := 178) dX12_goes_117 (by decide) (fun c16 => ?_) (fun c16 => ?_)
    · replace h := ifn h c16
      obtain ⟨xo, hy, hxo⟩ := oRb h
      clear h
      subst hxo
      replace hx := KLr hx
      have h := hy
      clear hy
      exact PW.pick [0, 1, 2, 3, 4, 5, 6] rfl (ok_j_X12_goes_178 h hx)
    · replace h := ifp h c16
      refine PW.aload_n 0 0 dX12_goes_120 rfl rfl rfl ?_
      refine PW.iload_n 1 2 dX12_goes_121 rfl rfl ?_
      obtain ⟨r17, s18, q19, h⟩ := obnd h
      refine CW.callVv (ci := 12) (st := []) [.int x2] dX12_goes_122 (p_X12_isPulled q19) MV_X12_isPulled mL_X12_370 (by decide) rfl LA_193 rfl rfl (Nat.le_of_ble_eq_true rfl) (by first | decide | omega) ?_
      refine PW.aload_n 0 0 dX12_goes_125 rfl rfl rfl ?_
      refine PW.dup dX12_goes_126 rfl ?_
      refine CW.geti dX12_goes_127 fL_X12_308 LA_193 (Or.inl rfl) ?_
      refine PW.iconst (v := 1) dX12_goes_130 (by decide) ?_
      refine PW.iadd dX12_goes_131 ?_
      refine CW.puti dX12_goes_132 fL_X12_308 rfl LA_193 rfl ?_
      obtain ⟨s20, es20, h⟩ := sbnd h
      refine PW.sbe es20 ?_
      clear es20
      refine PW.aload_n 0 0 dX12_goes_135 rfl rfl rfl ?_
      refine CW.geti dX12_goes_136 fL_X12_317 LA_193 (Or.inl rfl) ?_
      refine PW.if_le (tgt := 157) dX12_goes_139 (by decide) (fun c21 => ?_) (fun c21 => ?_)
      · replace h := ifp h c21
        exact PW.pick [0, 1, 2, 3, 4, 5, 6, 7, 8] rfl (ok_j_X12_goes_157 h hx)
      · replace h := ifn h c21
        refine PW.aload_n 0 0 dX12_goes_142 rfl rfl rfl ?_
        refine CW.geti dX12_goes_143 fL_X12_364 LA_193 (Or.inl rfl) ?_
        refine PW.if_ne (tgt := 157) dX12_goes_146 (by decide) (fun c27 => ?_) (fun c27 => ?_)
        · replace h := ifn h c27
          exact PW.pick [0, 1, 2, 3, 4, 5, 6, 7, 8] rfl (ok_j_X12_goes_157 h hx)
        · replace h := ifp h c27
          refine PW.aload_n 0 0 dX12_goes_149 rfl rfl rfl ?_
          refine PW.aload_n 0 0 dX12_goes_150 rfl rfl rfl ?_
          refine CW.geti dX12_goes_151 fL_X12_308 LA_193 (Or.inl rfl) ?_
          refine CW.puti dX12_goes_154 fL_X12_364 rfl LA_193 rfl ?_
          obtain ⟨s28, es28, h⟩ := sbnd h
          refine PW.sbe es28 ?_
          clear es28
          exact PW.pick [0, 1, 2, 3, 4, 5, 6, 7, 8] rfl (ok_j_X12_goes_157 h hx)
def w_X12_goes_106 (N : Nat) (x2 : Int32) (x3 : Int32) (x4 : Int32) (x5 : Int32) (x6 : Int32) (x7 : Int32) (x8 : Int32) (x9 : Int32) (s : cS) : Option ((Int32 × cS) ⊕ (Unit × cS)) := itr (fun (v : Int32 × cS) => b_X12_goes_106 N x2 x3 x4 x5 x6 x7 x8 v.1 v.2) N (x9, s)
theorem ok_w_X12_goes_106 {g : pG} {l : Launch} {F : pF} {N : Nat} {x2 : Int32} {x3 : Int32} {x4 : Int32} {x5 : Int32} {x6 : Int32} {x7 : Int32} {x8 : Int32} {x9 : Int32} {s : cS} {x : ((Int32 × cS) ⊕ (Unit × cS))} (h : w_X12_goes_106 N x2 x3 x4 x5 x6 x7 x8 x9 s = some x) (hx : (KL (fun (v : Int32 × cS) => PW g l (pRoom 6 0 0) M_X12_goes F 35 [(0, .ref 193), (2, .int x2), (3, .int x3), (4, .int x4), (5, .int x5), (6, .int x6), (7, .int v.1)] [] (tS v.2) 0 0) (fun q => F = pE g none (tS q.2) 0 0)) x) : PW g l (pRoom 6 0 0) M_X12_goes F 106 [(0, .ref 193), (2, .int x2), (3, .int x3), (4, .int x4), (5, .int x5), (6, .int x6), (7, .int x7), (8, .int x8), (9, .int x9)] [] (tS s) 0 0 :=
  okIter (P := (fun (v : Int32 × cS) => PW g l (pRoom 6 0 0) M_X12_goes F 106 [(0, .ref 193), (2, .int x2), (3, .int x3), (4, .int x4), (5, .int x5), (6, .int x6), (7, .int x7), (8, .int x8), (9, .int v.1)] [] (tS v.2) 0 0)) (K := (KL (fun (v : Int32 × cS) => PW g l (pRoom 6 0 0) M_X12_goes F 35 [(0, .ref 193), (2, .int x2), (3, .int x3), (4, .int x4), (5, .int x5), (6, .int x6), (7, .int v.1)] [] (tS v.2) 0 0) (fun q => F = pE g none (tS q.2) 0 0))) (fun v y hB hy => ok_b_X12_goes_106 hB hy) N (x9, s) x h hx
def j_X12_goes_101 (N : Nat) (x2 : Int32) (x3 : Int32) (x4 : Int32) (x5 : Int32) (x6 : Int32) (x7 : Int32) (y0 : Int32) (s : cS) : Option ((Int32 × cS) ⊕ (Unit × cS)) :=
  w_X12_goes_106 N x2 x3 x4 x5 x6 x7 y0 (0 : Int32) s
set_option maxRecDepth 20000 in
set_option maxHeartbeats 4000000 in
theorem ok_j_X12_goes_101 {g : pG} {l : Launch} {F : pF} {N : Nat} {x2 : Int32} {x3 : Int32} {x4 : Int32} {x5 : Int32} {x6 : Int32} {x7 : Int32} {y0 : Int32} {s : cS} {x : ((Int32 × cS) ⊕ (Unit × cS))} (h : j_X12_goes_101 N x2 x3 x4 x5 x6 x7 y0 s = some x) (hx : (KL (fun (v : Int32 × cS) => PW g l (pRoom 6 0 0) M_X12_goes F 35 [(0, .ref 193), (2, .int x2), (3, .int x3), (4, .int x4), (5, .int x5), (6, .int x6), (7, .int v.1)] [] (tS v.2) 0 0) (fun q => F = pE g none (tS q.2) 0 0)) x) : PW g l (pRoom 6 0 0) M_X12_goes F 101 [(0, .ref 193), (2, .int x2), (3, .int x3), (4, .int x4), (5, .int x5), (6, .int x6), (7, .int x7)] [.int y0] (tS s) 0 0 := by
  unfold j_X12_goes_101 at h
  refine PW.istore dX12_goes_101 (Nat.le_of_ble_eq_true rfl) rfl ?_
  refine PW.iconst (v := 0) dX12_goes_103 (by decide) ?_
  refine PW.istore dX12_goes_104 (Nat.le_of_ble_eq_true rfl) rfl ?_
  exact PW.pick [2, 3, 4, 5, 6, 7, 8, 1, 0] rfl (ok_w_X12_goes_106 h hx)
def j_X12_goes_74 (N : Nat) (x2 : Int32) (x3 : Int32) (x4 : Int32) (x5 : Int32) (x6 : Int32) (x7 : Int32) (y1 : Int32) (s : cS) : Option ((Int32 × cS) ⊕ (Unit × cS)) :=
  sb (iS s 193 39 y1) fun s12 =>
  if x7 = x6 then
    j_X12_goes_101 N x2 x3 x4 x5 x6 x7 x5 s12
  else
    if inb (((8 : Int32) * x3) + x7) 128 then
    j_X12_goes_101 N x2 x3 x4 x5 x6 x7 (iG s12 219 (((8 : Int32) * x3) + x7).toNatClampNeg) s12
    else none
set_option maxRecDepth 20000 in
set_option maxHeartbeats 4000000 in
theorem ok_j_X12_goes_74 {g : pG} {l : Launch} {F : pF} {N : Nat} {x2 : Int32} {x3 : Int32} {x4 : Int32} {x5 : Int32} {x6 : Int32} {x7 : Int32} {y1 : Int32} {s : cS} {x : ((Int32 × cS) ⊕ (Unit × cS))} (h : j_X12_goes_74 N x2 x3 x4 x5 x6 x7 y1 s = some x) (hx : (KL (fun (v : Int32 × cS) => PW g l (pRoom 6 0 0) M_X12_goes F 35 [(0, .ref 193), (2, .int x2), (3, .int x3), (4, .int x4), (5, .int x5), (6, .int x6), (7, .int v.1)] [] (tS v.2) 0 0) (fun q => F = pE g none (tS q.2) 0 0)) x) : PW g l (pRoom 6 0 0) M_X12_goes F 74 [(0, .ref 193), (2, .int x2), (3, .int x3), (4, .int x4), (5, .int x5), (6, .int x6), (7, .int x7)] [.int y1, .ref 193] (tS s) 0 0 := by
  unfold j_X12_goes_74 at h
  refine CW.puti dX12_goes_74 fL_X12_302 rfl LA_193 rfl ?_
  obtain ⟨s12, es12, h⟩ := sbnd h
  refine PW.sbe es12 ?_
  clear es12
  refine PW.iload 6 dX12_goes_77 rfl ?_
  refine PW.iload 5 dX12_goes_79 rfl ?_
  refine PW.icmp_ne (tgt := 89) dX12_goes_81 (by decide) (fun c13 => ?_) (fun c13 => ?_)
  · replace h := ifn h c13
    refine PW.aload_n 0 0 dX12_goes_89 rfl rfl rfl ?_
    refine CW.getr dX12_goes_90 fL_X12_87 LA_193 (Or.inr ⟨_, rfl⟩) rfl ?_
    refine PW.bipush (v := 8) dX12_goes_93 (by decide) ?_
    refine PW.iload_n 2 3 dX12_goes_95 rfl rfl ?_
    refine PW.imul dX12_goes_96 ?_
    refine PW.iload 6 dX12_goes_97 rfl ?_
    refine PW.iadd dX12_goes_99 ?_
    by_cases c14 : inb (((8 : Int32) * x3) + x7) 128
    rotate_left
    · have h := ifn h c14; cases h
    replace h := ifp h c14
    refine CW.iald dX12_goes_100 LA_219 c14 ?_
    exact PW.pick [0, 1, 2, 3, 4, 5, 6] rfl (ok_j_X12_goes_101 h hx)
  · replace h := ifp h c13
    refine PW.iload 4 dX12_goes_84 rfl ?_
    refine PW.goto (tgt := 101) dX12_goes_86 (by decide) ?_
    exact PW.pick [0, 1, 2, 3, 4, 5, 6] rfl (ok_j_X12_goes_101 h hx)
def b_X12_goes_35 (N : Nat) (x2 : Int32) (x3 : Int32) (x4 : Int32) (x5 : Int32) (x6 : Int32) (x7 : Int32) (s : cS) : Option ((Int32 × cS) ⊕ (Unit × cS)) :=
  if x6 < x7 then
    oR (
      some (((), s)))
  else
    if (iG s 193 54) = 0 then
      if x7 = x6 then
        j_X12_goes_74 N x2 x3 x4 x5 x6 x7 x4 s
      else
        if inb (((8 : Int32) * x3) + x7) 128 then
        j_X12_goes_74 N x2 x3 x4 x5 x6 x7 (iG s 218 (((8 : Int32) * x3) + x7).toNatClampNeg) s
        else none
    else
      oR (
        some (((), s)))
set_option maxRecDepth 20000 in
set_option maxHeartbeats 4000000 in
theorem ok_b_X12_goes_35 {g : pG} {l : Launch} {F : pF} {N : Nat} {x2 : Int32} {x3 : Int32} {x4 : Int32} {x5 : Int32} {x6 : Int32} {x7 : Int32} {s : cS} {x : ((Int32 × cS) ⊕ (Unit × cS))} (h : b_X12_goes_35 N x2 x3 x4 x5 x6 x7 s = some x) (hx : (KL (fun (v : Int32 × cS) => PW g l (pRoom 6 0 0) M_X12_goes F 35 [(0, .ref 193), (2, .int x2), (3, .int x3), (4, .int x4), (5, .int x5), (6, .int x6), (7, .int v.1)] [] (tS v.2) 0 0) (fun q => F = pE g none (tS q.2) 0 0)) x) : PW g l (pRoom 6 0 0) M_X12_goes F 35 [(0, .ref 193), (2, .int x2), (3, .int x3), (4, .int x4), (5, .int x5), (6, .int x6), (7, .int x7)] [] (tS s) 0 0 := by
  unfold b_X12_goes_35 at h
  refine PW.iload 6 dX12_goes_35 rfl ?_
  refine PW.iload 5 dX12_goes_37 rfl ?_
  refine PW.icmp_gt (tgt := 184) dX12_goes_39 (by decide) (fun c8 => ?_) (fun c8 => ?_)
  · replace h := ifp h c8
    obtain ⟨xo, hy, hxo⟩ := oRb h
    clear h
    subst hxo
    replace hx := KLr hx
    have h := hy
    clear hy
    cases h
    subst hx
    exact PW.vret dX12_goes_184 rfl (Nat.le_refl 0) (Nat.le_refl 0)
  · replace h := ifn h c8
    refine PW.aload_n 0 0 dX12_goes_42 rfl rfl rfl ?_
    refine CW.geti dX12_goes_43 fL_X12_367 LA_193 (Or.inl rfl) ?_
    refine PW.if_ne (tgt := 184) dX12_goes_46 (by decide) (fun c9 => ?_) (fun c9 => ?_)
    · replace h := ifn h c9
      obtain ⟨xo, hy, hxo⟩ := oRb h
      clear h
      subst hxo
      replace hx := KLr hx
      have h := hy
      clear hy
      cases h
      subst hx
      exact PW.vret dX12_goes_184 rfl (Nat.le_refl 0) (Nat.le_refl 0)
    · replace h := ifp h c9
      refine PW.aload_n 0 0 dX12_goes_49 rfl rfl rfl ?_
      refine PW.iload 6 dX12_goes_50 rfl ?_
      refine PW.iload 5 dX12_goes_52 rfl ?_
      refine PW.icmp_ne (tgt := 62) dX12_goes_54 (by decide) (fun c10 => ?_) (fun c10 => ?_)
      · replace h := ifn h c10
        refine PW.aload_n 0 0 dX12_goes_62 rfl rfl rfl ?_
        refine CW.getr dX12_goes_63 fL_X12_84 LA_193 (Or.inr ⟨_, rfl⟩) rfl ?_
        refine PW.bipush (v := 8) dX12_goes_66 (by decide) ?_
        refine PW.iload_n 2 3 dX12_goes_68 rfl rfl ?_
        refine PW.imul dX12_goes_69 ?_
        refine PW.iload 6 dX12_goes_70 rfl ?_
        refine PW.iadd dX12_goes_72 ?_
        by_cases c11 : inb (((8 : Int32) * x3) + x7) 128
        rotate_left
        · have h := ifn h c11; cases h
        replace h := ifp h c11
        refine CW.iald dX12_goes_73 LA_218 c11 ?_
        exact PW.pick [0, 1, 2, 3, 4, 5, 6] rfl (ok_j_X12_goes_74 h hx)
      · replace h := ifp h c10
        refine PW.iload 3 dX12_goes_57 rfl ?_
        refine PW.goto (tgt := 74) dX12_goes_59 (by decide) ?_
        exact PW.pick [0, 1, 2, 3, 4, 5, 6] rfl (ok_j_X12_goes_74 h hx)
def w_X12_goes_35 (N : Nat) (x2 : Int32) (x3 : Int32) (x4 : Int32) (x5 : Int32) (x6 : Int32) (x7 : Int32) (s : cS) : Option (Unit × cS) := itr (fun (v : Int32 × cS) => b_X12_goes_35 N x2 x3 x4 x5 x6 v.1 v.2) N (x7, s)
theorem ok_w_X12_goes_35 {g : pG} {l : Launch} {F : pF} {N : Nat} {x2 : Int32} {x3 : Int32} {x4 : Int32} {x5 : Int32} {x6 : Int32} {x7 : Int32} {s : cS} {x : (Unit × cS)} (h : w_X12_goes_35 N x2 x3 x4 x5 x6 x7 s = some x) (hx : (fun q => F = pE g none (tS q.2) 0 0) x) : PW g l (pRoom 6 0 0) M_X12_goes F 35 [(0, .ref 193), (2, .int x2), (3, .int x3), (4, .int x4), (5, .int x5), (6, .int x6), (7, .int x7)] [] (tS s) 0 0 :=
  okIter (P := (fun (v : Int32 × cS) => PW g l (pRoom 6 0 0) M_X12_goes F 35 [(0, .ref 193), (2, .int x2), (3, .int x3), (4, .int x4), (5, .int x5), (6, .int x6), (7, .int v.1)] [] (tS v.2) 0 0)) (K := (fun q => F = pE g none (tS q.2) 0 0)) (fun v y hB hy => ok_b_X12_goes_35 hB hy) N (x7, s) x h hx
def j_X12_goes_30 (N : Nat) (x2 : Int32) (x3 : Int32) (x4 : Int32) (x5 : Int32) (y0 : Int32) (s : cS) : Option (Unit × cS) :=
  w_X12_goes_35 N x2 x3 x4 x5 y0 (0 : Int32) s
set_option maxRecDepth 20000 in
set_option maxHeartbeats 4000000 in
theorem ok_j_X12_goes_30 {g : pG} {l : Launch} {F : pF} {N : Nat} {x2 : Int32} {x3 : Int32} {x4 : Int32} {x5 : Int32} {y0 : Int32} {s : cS} {x : (Unit × cS)} (h : j_X12_goes_30 N x2 x3 x4 x5 y0 s = some x) (hx : (fun q => F = pE g none (tS q.2) 0 0) x) : PW g l (pRoom 6 0 0) M_X12_goes F 30 [(0, .ref 193), (2, .int x2), (3, .int x3), (4, .int x4), (5, .int x5)] [.int y0] (tS s) 0 0 := by
  unfold j_X12_goes_30 at h
  refine PW.istore dX12_goes_30 (Nat.le_of_ble_eq_true rfl) rfl ?_
  refine PW.iconst (v := 0) dX12_goes_32 (by decide) ?_
  refine PW.istore dX12_goes_33 (Nat.le_of_ble_eq_true rfl) rfl ?_
  exact PW.pick [2, 3, 4, 5, 6, 1, 0] rfl (ok_w_X12_goes_35 h hx)
def f_X12_goes (N : Nat) (a0 : Int32) (a1 : Int32) (a2 : Int32) (a3 : Int32) (a4 : Int32) (s : cS) : Option (Unit × cS) :=
  tb (f_X12_takes a0 s) fun r1 s2 =>
  sb (iS s2 193 53 (0 : Int32)) fun s4 =>
  sb (iS s4 193 54 (0 : Int32)) fun s5 =>
  if a2 = (-1 : Int32) then
    j_X12_goes_30 N a1 a2 a3 a4 (0 : Int32) s5
  else
    if inb a2 16 then
    j_X12_goes_30 N a1 a2 a3 a4 (iG s5 217 a2.toNatClampNeg) s5
    else none
set_option maxRecDepth 20000 in
set_option maxHeartbeats 4000000 in
theorem p_X12_goes {g : pG} {l : Launch} {N : Nat} {a0 : Int32} {a1 : Int32} {a2 : Int32} {a3 : Int32} {a4 : Int32} {s : cS} {q : Unit × cS} (h : f_X12_goes N a0 a1 a2 a3 a4 s = some q) : PM g l 6 M_X12_goes [.ref 193, .int a0, .int a1, .int a2, .int a3, .int a4] (tS s) none (tS q.2) 0 0 := by
  refine PM.of (by decide +kernel) (Nat.le_of_ble_eq_true rfl) ?_
  show PW g l (pRoom 6 0 0) M_X12_goes _ 0 [(0, .ref 193), (1, .int a0), (2, .int a1), (3, .int a2), (4, .int a3), (5, .int a4)] [] (tS s) 0 0
  unfold f_X12_goes at h
  generalize hF : pE g none (tS q.2) 0 0 = F
  have hx := hF.symm
  refine PW.aload_n 0 0 dX12_goes_0 rfl rfl rfl ?_
  refine PW.iload_n 1 1 dX12_goes_1 rfl rfl ?_
  obtain ⟨r1, s2, q3, h⟩ := tbnd h
  refine CW.callVv (ci := 12) (st := []) [.int a0] dX12_goes_2 (p_X12_takes q3) MV_X12_takes mL_X12_348 (by decide) rfl LA_193 rfl rfl (Nat.le_of_ble_eq_true rfl) (by first | decide | omega) ?_
  refine PW.aload_n 0 0 dX12_goes_5 rfl rfl rfl ?_
  refine PW.iconst (v := 0) dX12_goes_6 (by decide) ?_
  refine CW.puti dX12_goes_7 fL_X12_364 rfl LA_193 rfl ?_
  obtain ⟨s4, es4, h⟩ := sbnd h
  refine PW.sbe es4 ?_
  clear es4
  refine PW.aload_n 0 0 dX12_goes_10 rfl rfl rfl ?_
  refine PW.iconst (v := 0) dX12_goes_11 (by decide) ?_
  refine CW.puti dX12_goes_12 fL_X12_367 rfl LA_193 rfl ?_
  obtain ⟨s5, es5, h⟩ := sbnd h
  refine PW.sbe es5 ?_
  clear es5
  refine PW.iload_n 3 3 dX12_goes_15 rfl rfl ?_
  refine PW.iconst (v := (-1)) dX12_goes_16 (by decide) ?_
  refine PW.icmp_ne (tgt := 24) dX12_goes_17 (by decide) (fun c6 => ?_) (fun c6 => ?_)
  · replace h := ifn h c6
    refine PW.aload_n 0 0 dX12_goes_24 rfl rfl rfl ?_
    refine CW.getr dX12_goes_25 fL_X12_81 LA_193 (Or.inr ⟨_, rfl⟩) rfl ?_
    refine PW.iload_n 3 3 dX12_goes_28 rfl rfl ?_
    by_cases c7 : inb a2 16
    rotate_left
    · have h := ifn h c7; cases h
    replace h := ifp h c7
    refine CW.iald dX12_goes_29 LA_217 c7 ?_
    exact PW.pick [0, 2, 3, 4, 5] rfl (ok_j_X12_goes_30 h hx)
  · replace h := ifp h c6
    refine PW.iconst (v := 0) dX12_goes_20 (by decide) ?_
    refine PW.goto (tgt := 30) dX12_goes_21 (by decide) ?_
    exact PW.pick [0, 2, 3, 4, 5] rfl (ok_j_X12_goes_30 h hx)
/-! X12_runs -/
def f_X12_runs (N : Nat) (a0 : Int32) (a1 : Int32) (a2 : Int32) (a3 : Int32) (s : cS) : Option (Int32 × cS) :=
  if (f_X12_isProgram a0 s) = 0 then
    some (((-1 : Int32), s))
  else
    if (f_X12_isCorner a1 s) = 0 then
      some (((-1 : Int32), s))
    else
      if inb a1 8 then
      if (f_X12_isIn a2.toInt64 (0 : Int64) (((iG s 199 a1.toNatClampNeg) - (1 : Int32)).toInt64) s) = 0 then
        some (((-1 : Int32), s))
      else
        if (f_X12_isIn a3.toInt64 (0 : Int64) (1 : Int64) s) = 0 then
          some (((-1 : Int32), s))
        else
          if inb (((4 : Int32) * a1) + a2) 32 then
          ob (f_X12_goes N a1 (iG s 200 (((4 : Int32) * a1) + a2).toNatClampNeg) a0 (0 : Int32) (0 : Int32) s) fun r11 s12 =>
          if a3 = 0 then
            some (((iG s12 193 53), s12))
          else
            some (((iG s12 193 54), s12))
          else none
      else none
set_option maxRecDepth 20000 in
set_option maxHeartbeats 4000000 in
theorem p_X12_runs {g : pG} {l : Launch} {N : Nat} {a0 : Int32} {a1 : Int32} {a2 : Int32} {a3 : Int32} {s : cS} {q : Int32 × cS} (h : f_X12_runs N a0 a1 a2 a3 s = some q) : PM g l 7 M_X12_runs [.ref 193, .int a0, .int a1, .int a2, .int a3] (tS s) (some (.int q.1)) (tS q.2) 0 0 := by
  refine PM.of (by decide +kernel) (Nat.le_of_ble_eq_true rfl) ?_
  show PW g l (pRoom 7 0 0) M_X12_runs _ 0 [(0, .ref 193), (1, .int a0), (2, .int a1), (3, .int a2), (4, .int a3)] [] (tS s) 0 0
  unfold f_X12_runs at h
  generalize hF : pE g (some (.int q.1)) (tS q.2) 0 0 = F
  have hx := hF.symm
  refine PW.iload_n 1 1 dX12_runs_0 rfl rfl ?_
  refine CW.callSi (st := []) [.int a0] dX12_runs_1 (p_X12_isProgram rfl) MS_X12_isProgram mL_X12_356 rfl rfl (Nat.le_of_ble_eq_true rfl) (by first | decide | omega) ?_
  refine PW.if_eq (tgt := 44) dX12_runs_4 (by decide) (fun c2 => ?_) (fun c2 => ?_)
  · replace h := ifp h c2
    refine PW.iconst (v := (-1)) dX12_runs_44 (by decide) ?_
    cases h
    subst hx
    exact PW.iret dX12_runs_45 rfl rfl (Nat.le_refl 0) (Nat.le_refl 0)
  · replace h := ifn h c2
    refine PW.aload_n 0 0 dX12_runs_7 rfl rfl rfl ?_
    refine PW.iload_n 2 2 dX12_runs_8 rfl rfl ?_
    refine CW.callVi (ci := 12) (st := []) [.int a1] dX12_runs_9 (p_X12_isCorner rfl) MV_X12_isCorner mL_X12_177 (by decide) rfl LA_193 rfl rfl (Nat.le_of_ble_eq_true rfl) (by first | decide | omega) ?_
    refine PW.if_eq (tgt := 44) dX12_runs_12 (by decide) (fun c4 => ?_) (fun c4 => ?_)
    · replace h := ifp h c4
      refine PW.iconst (v := (-1)) dX12_runs_44 (by decide) ?_
      cases h
      subst hx
      exact PW.iret dX12_runs_45 rfl rfl (Nat.le_refl 0) (Nat.le_refl 0)
    · replace h := ifn h c4
      refine PW.iload_n 3 3 dX12_runs_15 rfl rfl ?_
      refine PW.i2l dX12_runs_16 ?_
      refine PW.lconst (v := 0) dX12_runs_17 (by decide) ?_
      refine PW.aload_n 0 0 dX12_runs_18 rfl rfl rfl ?_
      refine CW.getr dX12_runs_19 fL_X12_26 LA_193 (Or.inr ⟨_, rfl⟩) rfl ?_
      refine PW.iload_n 2 2 dX12_runs_22 rfl rfl ?_
      by_cases c5 : inb a1 8
      rotate_left
      · have h := ifn h c5; cases h
      replace h := ifp h c5
      refine CW.iald dX12_runs_23 LA_199 c5 ?_
      refine PW.iconst (v := 1) dX12_runs_24 (by decide) ?_
      refine PW.isub dX12_runs_25 ?_
      refine PW.i2l dX12_runs_26 ?_
      refine CW.callSi (st := []) [.long a2.toInt64, .long (0 : Int64), .long ((iG s 199 a1.toNatClampNeg) - (1 : Int32)).toInt64] dX12_runs_27 (p_X12_isIn rfl) MS_X12_isIn mL_X12_164 rfl rfl (Nat.le_of_ble_eq_true rfl) (by first | decide | omega) ?_
      refine PW.if_eq (tgt := 44) dX12_runs_30 (by decide) (fun c7 => ?_) (fun c7 => ?_)
      · replace h := ifp h c7
        refine PW.iconst (v := (-1)) dX12_runs_44 (by decide) ?_
        cases h
        subst hx
        exact PW.iret dX12_runs_45 rfl rfl (Nat.le_refl 0) (Nat.le_refl 0)
      · replace h := ifn h c7
        refine PW.iload 4 dX12_runs_33 rfl ?_
        refine PW.i2l dX12_runs_35 ?_
        refine PW.lconst (v := 0) dX12_runs_36 (by decide) ?_
        refine PW.lconst (v := 1) dX12_runs_37 (by decide) ?_
        refine CW.callSi (st := []) [.long a3.toInt64, .long (0 : Int64), .long (1 : Int64)] dX12_runs_38 (p_X12_isIn rfl) MS_X12_isIn mL_X12_164 rfl rfl (Nat.le_of_ble_eq_true rfl) (by first | decide | omega) ?_
        refine PW.if_ne (tgt := 46) dX12_runs_41 (by decide) (fun c9 => ?_) (fun c9 => ?_)
        · replace h := ifn h c9
          refine PW.aload_n 0 0 dX12_runs_46 rfl rfl rfl ?_
          refine PW.iload_n 2 2 dX12_runs_47 rfl rfl ?_
          refine PW.aload_n 0 0 dX12_runs_48 rfl rfl rfl ?_
          refine CW.getr dX12_runs_49 fL_X12_29 LA_193 (Or.inr ⟨_, rfl⟩) rfl ?_
          refine PW.iconst (v := 4) dX12_runs_52 (by decide) ?_
          refine PW.iload_n 2 2 dX12_runs_53 rfl rfl ?_
          refine PW.imul dX12_runs_54 ?_
          refine PW.iload_n 3 3 dX12_runs_55 rfl rfl ?_
          refine PW.iadd dX12_runs_56 ?_
          by_cases c10 : inb (((4 : Int32) * a1) + a2) 32
          rotate_left
          · have h := ifn h c10; cases h
          replace h := ifp h c10
          refine CW.iald dX12_runs_57 LA_200 c10 ?_
          refine PW.iload_n 1 1 dX12_runs_58 rfl rfl ?_
          refine PW.iconst (v := 0) dX12_runs_59 (by decide) ?_
          refine PW.iconst (v := 0) dX12_runs_60 (by decide) ?_
          obtain ⟨r11, s12, q13, h⟩ := obnd h
          refine CW.callVv (ci := 12) (st := []) [.int a1, .int (iG s 200 (((4 : Int32) * a1) + a2).toNatClampNeg), .int a0, .int (0 : Int32), .int (0 : Int32)] dX12_runs_61 (p_X12_goes q13) MV_X12_goes mL_X12_376 (by decide) rfl LA_193 rfl rfl (Nat.le_of_ble_eq_true rfl) (by first | decide | omega) ?_
          refine PW.iload 4 dX12_runs_64 rfl ?_
          refine PW.if_ne (tgt := 76) dX12_runs_66 (by decide) (fun c14 => ?_) (fun c14 => ?_)
          · replace h := ifn h c14
            refine PW.aload_n 0 0 dX12_runs_76 rfl rfl rfl ?_
            refine CW.geti dX12_runs_77 fL_X12_367 LA_193 (Or.inl rfl) ?_
            cases h
            subst hx
            exact PW.iret dX12_runs_80 rfl rfl (Nat.le_refl 0) (Nat.le_refl 0)
          · replace h := ifp h c14
            refine PW.aload_n 0 0 dX12_runs_69 rfl rfl rfl ?_
            refine CW.geti dX12_runs_70 fL_X12_364 LA_193 (Or.inl rfl) ?_
            refine PW.goto (tgt := 80) dX12_runs_73 (by decide) ?_
            cases h
            subst hx
            exact PW.iret dX12_runs_80 rfl rfl (Nat.le_refl 0) (Nat.le_refl 0)
        · replace h := ifp h c9
          refine PW.iconst (v := (-1)) dX12_runs_44 (by decide) ?_
          cases h
          subst hx
          exact PW.iret dX12_runs_45 rfl rfl (Nat.le_refl 0) (Nat.le_refl 0)
/-! X12_pullsIn -/
def f_X12_pullsIn (a0 : Int32) (s : cS) : Option (Int32 × cS) :=
  if a0 = (-1 : Int32) then
    some (((0 : Int32), s))
  else
    if inb a0 16 then
    some (((iG s 220 a0.toNatClampNeg), s))
    else none
set_option maxRecDepth 20000 in
set_option maxHeartbeats 4000000 in
theorem p_X12_pullsIn {g : pG} {l : Launch} {a0 : Int32} {s : cS} {q : Int32 × cS} (h : f_X12_pullsIn a0 s = some q) : PM g l 1 M_X12_pullsIn [.ref 193, .int a0] (tS s) (some (.int q.1)) (tS q.2) 0 0 := by
  refine PM.of (by decide +kernel) (Nat.le_of_ble_eq_true rfl) ?_
  show PW g l (pRoom 1 0 0) M_X12_pullsIn _ 0 [(0, .ref 193), (1, .int a0)] [] (tS s) 0 0
  unfold f_X12_pullsIn at h
  generalize hF : pE g (some (.int q.1)) (tS q.2) 0 0 = F
  have hx := hF.symm
  refine PW.iload_n 1 1 dX12_pullsIn_0 rfl rfl ?_
  refine PW.iconst (v := (-1)) dX12_pullsIn_1 (by decide) ?_
  refine PW.icmp_ne (tgt := 9) dX12_pullsIn_2 (by decide) (fun c1 => ?_) (fun c1 => ?_)
  · replace h := ifn h c1
    refine PW.aload_n 0 0 dX12_pullsIn_9 rfl rfl rfl ?_
    refine CW.getr dX12_pullsIn_10 fL_X12_90 LA_193 (Or.inr ⟨_, rfl⟩) rfl ?_
    refine PW.iload_n 1 1 dX12_pullsIn_13 rfl rfl ?_
    by_cases c2 : inb a0 16
    rotate_left
    · have h := ifn h c2; cases h
    replace h := ifp h c2
    refine CW.iald dX12_pullsIn_14 LA_220 c2 ?_
    cases h
    subst hx
    exact PW.iret dX12_pullsIn_15 rfl rfl (Nat.le_refl 0) (Nat.le_refl 0)
  · replace h := ifp h c1
    refine PW.iconst (v := 0) dX12_pullsIn_5 (by decide) ?_
    refine PW.goto (tgt := 15) dX12_pullsIn_6 (by decide) ?_
    cases h
    subst hx
    exact PW.iret dX12_pullsIn_15 rfl rfl (Nat.le_refl 0) (Nat.le_refl 0)
/-! X12_all -/
def j_X12_all_80 (x1 : Int32) (x2 : Int32) (x3 : Int32) (x4 : Int32) (x5 : Int32) (s : cS) : Option ((Int32 × cS) ⊕ (Unit × cS)) :=
  some (.inl ((x5 + (1 : Int32)), s))
set_option maxRecDepth 20000 in
set_option maxHeartbeats 4000000 in
theorem ok_j_X12_all_80 {g : pG} {l : Launch} {F : pF} {x1 : Int32} {x2 : Int32} {x3 : Int32} {x4 : Int32} {x5 : Int32} {s : cS} {x : ((Int32 × cS) ⊕ (Unit × cS))} (h : j_X12_all_80 x1 x2 x3 x4 x5 s = some x) (hx : (KL (fun (v : Int32 × cS) => PW g l (pRoom 7 0 0) M_X12_all F 3 [(0, .ref 193), (1, .int x1), (2, .int x2), (3, .int x3), (4, .int x4), (5, .int v.1)] [] (tS v.2) 0 0) (fun q => F = pE g none (tS q.2) 0 0)) x) : PW g l (pRoom 7 0 0) M_X12_all F 80 [(0, .ref 193), (1, .int x1), (2, .int x2), (3, .int x3), (4, .int x4), (5, .int x5)] [] (tS s) 0 0 := by
  unfold j_X12_all_80 at h
  refine PW.iinc (v := (x5 + (1 : Int32))) 5 dX12_all_80 rfl (by first | rfl | decide) (Nat.le_of_ble_eq_true rfl) rfl ?_
  refine PW.goto (tgt := 3) dX12_all_83 (by decide) ?_
  cases h
  exact PW.pick [1, 2, 3, 4, 5, 0] rfl hx
def b_X12_all_15 (N : Nat) (x1 : Int32) (x2 : Int32) (x3 : Int32) (x4 : Int32) (x5 : Int32) (x6 : Int32) (s : cS) : Option ((Int32 × cS) ⊕ ((Int32 × cS) ⊕ (Unit × cS))) :=
  if inb x5 8 then
  if (iG s 199 x5.toNatClampNeg) ≤ x6 then
    oR (
      j_X12_all_80 x1 x2 x3 x4 x5 s)
  else
    if (f_X12_has x1 x5 s) = 0 then
      oR (
        j_X12_all_80 x1 x2 x3 x4 x5 s)
    else
      if inb (((4 : Int32) * x5) + x6) 32 then
      ob (f_X12_goes N x5 (iG s 200 (((4 : Int32) * x5) + x6).toNatClampNeg) x2 x3 x4 s) fun r7 s8 =>
      sb (iS s8 223 (((4 : Int32) * x5) + x6).toNatClampNeg (iG s8 193 54)) fun s10 =>
      some (.inl ((x6 + (1 : Int32)), s10))
      else none
  else none
set_option maxRecDepth 20000 in
set_option maxHeartbeats 4000000 in
theorem ok_b_X12_all_15 {g : pG} {l : Launch} {F : pF} {N : Nat} {x1 : Int32} {x2 : Int32} {x3 : Int32} {x4 : Int32} {x5 : Int32} {x6 : Int32} {s : cS} {x : ((Int32 × cS) ⊕ ((Int32 × cS) ⊕ (Unit × cS)))} (h : b_X12_all_15 N x1 x2 x3 x4 x5 x6 s = some x) (hx : (KL (fun (v : Int32 × cS) => PW g l (pRoom 7 0 0) M_X12_all F 15 [(0, .ref 193), (1, .int x1), (2, .int x2), (3, .int x3), (4, .int x4), (5, .int x5), (6, .int v.1)] [] (tS v.2) 0 0) (KL (fun (v : Int32 × cS) => PW g l (pRoom 7 0 0) M_X12_all F 3 [(0, .ref 193), (1, .int x1), (2, .int x2), (3, .int x3), (4, .int x4), (5, .int v.1)] [] (tS v.2) 0 0) (fun q => F = pE g none (tS q.2) 0 0))) x) : PW g l (pRoom 7 0 0) M_X12_all F 15 [(0, .ref 193), (1, .int x1), (2, .int x2), (3, .int x3), (4, .int x4), (5, .int x5), (6, .int x6)] [] (tS s) 0 0 := by
  unfold b_X12_all_15 at h
  refine PW.iload 6 dX12_all_15 rfl ?_
  refine PW.aload_n 0 0 dX12_all_17 rfl rfl rfl ?_
  refine CW.getr dX12_all_18 fL_X12_26 LA_193 (Or.inr ⟨_, rfl⟩) rfl ?_
  refine PW.iload 5 dX12_all_21 rfl ?_
  by_cases c2 : inb x5 8
  rotate_left
  · have h := ifn h c2; cases h
  replace h := ifp h c2
  refine CW.iald dX12_all_23 LA_199 c2 ?_
  refine PW.icmp_ge (tgt := 80) dX12_all_24 (by decide) (fun c3 => ?_) (fun c3 => ?_)
  · replace h := ifp h c3
    obtain ⟨xo, hy, hxo⟩ := oRb h
    clear h
    subst hxo
    replace hx := KLr hx
    have h := hy
    clear hy
    exact PW.pick [0, 1, 2, 3, 4, 5] rfl (ok_j_X12_all_80 h hx)
  · replace h := ifn h c3
    refine PW.iload_n 1 1 dX12_all_27 rfl rfl ?_
    refine PW.iload 5 dX12_all_28 rfl ?_
    refine CW.callSi (st := []) [.int x1, .int x5] dX12_all_30 (p_X12_has rfl) MS_X12_has mL_X12_380 rfl rfl (Nat.le_of_ble_eq_true rfl) (by first | decide | omega) ?_
    refine PW.if_eq (tgt := 80) dX12_all_33 (by decide) (fun c5 => ?_) (fun c5 => ?_)
    · replace h := ifp h c5
      obtain ⟨xo, hy, hxo⟩ := oRb h
      clear h
      subst hxo
      replace hx := KLr hx
      have h := hy
      clear hy
      exact PW.pick [0, 1, 2, 3, 4, 5] rfl (ok_j_X12_all_80 h hx)
    · replace h := ifn h c5
      refine PW.aload_n 0 0 dX12_all_36 rfl rfl rfl ?_
      refine PW.iload 5 dX12_all_37 rfl ?_
      refine PW.aload_n 0 0 dX12_all_39 rfl rfl rfl ?_
      refine CW.getr dX12_all_40 fL_X12_29 LA_193 (Or.inr ⟨_, rfl⟩) rfl ?_
      refine PW.iconst (v := 4) dX12_all_43 (by decide) ?_
      refine PW.iload 5 dX12_all_44 rfl ?_
      refine PW.imul dX12_all_46 ?_
      refine PW.iload 6 dX12_all_47 rfl ?_
      refine PW.iadd dX12_all_49 ?_
      by_cases c6 : inb (((4 : Int32) * x5) + x6) 32
      rotate_left
      · have h := ifn h c6; cases h
      replace h := ifp h c6
      refine CW.iald dX12_all_50 LA_200 c6 ?_
      refine PW.iload_n 2 2 dX12_all_51 rfl rfl ?_
      refine PW.iload_n 3 3 dX12_all_52 rfl rfl ?_
      refine PW.iload 4 dX12_all_53 rfl ?_
      obtain ⟨r7, s8, q9, h⟩ := obnd h
      refine CW.callVv (ci := 12) (st := []) [.int x5, .int (iG s 200 (((4 : Int32) * x5) + x6).toNatClampNeg), .int x2, .int x3, .int x4] dX12_all_55 (p_X12_goes q9) MV_X12_goes mL_X12_376 (by decide) rfl LA_193 rfl rfl (Nat.le_of_ble_eq_true rfl) (by first | decide | omega) ?_
      refine PW.aload_n 0 0 dX12_all_58 rfl rfl rfl ?_
      refine CW.getr dX12_all_59 fL_X12_99 LA_193 (Or.inr ⟨_, rfl⟩) rfl ?_
      refine PW.iconst (v := 4) dX12_all_62 (by decide) ?_
      refine PW.iload 5 dX12_all_63 rfl ?_
      refine PW.imul dX12_all_65 ?_
      refine PW.iload 6 dX12_all_66 rfl ?_
      refine PW.iadd dX12_all_68 ?_
      refine PW.aload_n 0 0 dX12_all_69 rfl rfl rfl ?_
      refine CW.geti dX12_all_70 fL_X12_367 LA_193 (Or.inl rfl) ?_
      refine CW.iast dX12_all_73 LA_223 c6 ?_
      obtain ⟨s10, es10, h⟩ := sbnd h
      refine PW.sbe es10 ?_
      clear es10
      refine PW.iinc (v := (x6 + (1 : Int32))) 6 dX12_all_74 rfl (by first | rfl | decide) (Nat.le_of_ble_eq_true rfl) rfl ?_
      refine PW.goto (tgt := 15) dX12_all_77 (by decide) ?_
      cases h
      exact PW.pick [1, 2, 3, 4, 5, 6, 0] rfl hx
def w_X12_all_15 (N : Nat) (x1 : Int32) (x2 : Int32) (x3 : Int32) (x4 : Int32) (x5 : Int32) (x6 : Int32) (s : cS) : Option ((Int32 × cS) ⊕ (Unit × cS)) := itr (fun (v : Int32 × cS) => b_X12_all_15 N x1 x2 x3 x4 x5 v.1 v.2) N (x6, s)
theorem ok_w_X12_all_15 {g : pG} {l : Launch} {F : pF} {N : Nat} {x1 : Int32} {x2 : Int32} {x3 : Int32} {x4 : Int32} {x5 : Int32} {x6 : Int32} {s : cS} {x : ((Int32 × cS) ⊕ (Unit × cS))} (h : w_X12_all_15 N x1 x2 x3 x4 x5 x6 s = some x) (hx : (KL (fun (v : Int32 × cS) => PW g l (pRoom 7 0 0) M_X12_all F 3 [(0, .ref 193), (1, .int x1), (2, .int x2), (3, .int x3), (4, .int x4), (5, .int v.1)] [] (tS v.2) 0 0) (fun q => F = pE g none (tS q.2) 0 0)) x) : PW g l (pRoom 7 0 0) M_X12_all F 15 [(0, .ref 193), (1, .int x1), (2, .int x2), (3, .int x3), (4, .int x4), (5, .int x5), (6, .int x6)] [] (tS s) 0 0 :=
  okIter (P := (fun (v : Int32 × cS) => PW g l (pRoom 7 0 0) M_X12_all F 15 [(0, .ref 193), (1, .int x1), (2, .int x2), (3, .int x3), (4, .int x4), (5, .int x5), (6, .int v.1)] [] (tS v.2) 0 0)) (K := (KL (fun (v : Int32 × cS) => PW g l (pRoom 7 0 0) M_X12_all F 3 [(0, .ref 193), (1, .int x1), (2, .int x2), (3, .int x3), (4, .int x4), (5, .int v.1)] [] (tS v.2) 0 0) (fun q => F = pE g none (tS q.2) 0 0))) (fun v y hB hy => ok_b_X12_all_15 hB hy) N (x6, s) x h hx
def b_X12_all_3 (N : Nat) (x1 : Int32) (x2 : Int32) (x3 : Int32) (x4 : Int32) (x5 : Int32) (s : cS) : Option ((Int32 × cS) ⊕ (Unit × cS)) :=
  if (iG s 193 2) ≤ x5 then
    oR (
      some (((), s)))
  else
    w_X12_all_15 N x1 x2 x3 x4 x5 (0 : Int32) s
set_option maxRecDepth 20000 in
set_option maxHeartbeats 4000000 in
theorem ok_b_X12_all_3 {g : pG} {l : Launch} {F : pF} {N : Nat} {x1 : Int32} {x2 : Int32} {x3 : Int32} {x4 : Int32} {x5 : Int32} {s : cS} {x : ((Int32 × cS) ⊕ (Unit × cS))} (h : b_X12_all_3 N x1 x2 x3 x4 x5 s = some x) (hx : (KL (fun (v : Int32 × cS) => PW g l (pRoom 7 0 0) M_X12_all F 3 [(0, .ref 193), (1, .int x1), (2, .int x2), (3, .int x3), (4, .int x4), (5, .int v.1)] [] (tS v.2) 0 0) (fun q => F = pE g none (tS q.2) 0 0)) x) : PW g l (pRoom 7 0 0) M_X12_all F 3 [(0, .ref 193), (1, .int x1), (2, .int x2), (3, .int x3), (4, .int x4), (5, .int x5)] [] (tS s) 0 0 := by
  unfold b_X12_all_3 at h
  refine PW.iload 5 dX12_all_3 rfl ?_
  refine PW.aload_n 0 0 dX12_all_5 rfl rfl rfl ?_
  refine CW.geti dX12_all_6 fL_X12_161 LA_193 (Or.inl rfl) ?_
  refine PW.icmp_ge (tgt := 86) dX12_all_9 (by decide) (fun c1 => ?_) (fun c1 => ?_)
  · replace h := ifp h c1
    obtain ⟨xo, hy, hxo⟩ := oRb h
    clear h
    subst hxo
    replace hx := KLr hx
    have h := hy
    clear hy
    cases h
    subst hx
    exact PW.vret dX12_all_86 rfl (Nat.le_refl 0) (Nat.le_refl 0)
  · replace h := ifn h c1
    refine PW.iconst (v := 0) dX12_all_12 (by decide) ?_
    refine PW.istore dX12_all_13 (Nat.le_of_ble_eq_true rfl) rfl ?_
    exact PW.pick [1, 2, 3, 4, 5, 6, 0] rfl (ok_w_X12_all_15 h hx)
def w_X12_all_3 (N : Nat) (x1 : Int32) (x2 : Int32) (x3 : Int32) (x4 : Int32) (x5 : Int32) (s : cS) : Option (Unit × cS) := itr (fun (v : Int32 × cS) => b_X12_all_3 N x1 x2 x3 x4 v.1 v.2) N (x5, s)
theorem ok_w_X12_all_3 {g : pG} {l : Launch} {F : pF} {N : Nat} {x1 : Int32} {x2 : Int32} {x3 : Int32} {x4 : Int32} {x5 : Int32} {s : cS} {x : (Unit × cS)} (h : w_X12_all_3 N x1 x2 x3 x4 x5 s = some x) (hx : (fun q => F = pE g none (tS q.2) 0 0) x) : PW g l (pRoom 7 0 0) M_X12_all F 3 [(0, .ref 193), (1, .int x1), (2, .int x2), (3, .int x3), (4, .int x4), (5, .int x5)] [] (tS s) 0 0 :=
  okIter (P := (fun (v : Int32 × cS) => PW g l (pRoom 7 0 0) M_X12_all F 3 [(0, .ref 193), (1, .int x1), (2, .int x2), (3, .int x3), (4, .int x4), (5, .int v.1)] [] (tS v.2) 0 0)) (K := (fun q => F = pE g none (tS q.2) 0 0)) (fun v y hB hy => ok_b_X12_all_3 hB hy) N (x5, s) x h hx
def f_X12_all (N : Nat) (a0 : Int32) (a1 : Int32) (a2 : Int32) (a3 : Int32) (s : cS) : Option (Unit × cS) :=
  w_X12_all_3 N a0 a1 a2 a3 (0 : Int32) s
set_option maxRecDepth 20000 in
set_option maxHeartbeats 4000000 in
theorem p_X12_all {g : pG} {l : Launch} {N : Nat} {a0 : Int32} {a1 : Int32} {a2 : Int32} {a3 : Int32} {s : cS} {q : Unit × cS} (h : f_X12_all N a0 a1 a2 a3 s = some q) : PM g l 7 M_X12_all [.ref 193, .int a0, .int a1, .int a2, .int a3] (tS s) none (tS q.2) 0 0 := by
  refine PM.of (by decide +kernel) (Nat.le_of_ble_eq_true rfl) ?_
  show PW g l (pRoom 7 0 0) M_X12_all _ 0 [(0, .ref 193), (1, .int a0), (2, .int a1), (3, .int a2), (4, .int a3)] [] (tS s) 0 0
  unfold f_X12_all at h
  generalize hF : pE g none (tS q.2) 0 0 = F
  have hx := hF.symm
  refine PW.iconst (v := 0) dX12_all_0 (by decide) ?_
  refine PW.istore dX12_all_1 (Nat.le_of_ble_eq_true rfl) rfl ?_
  exact PW.pick [1, 2, 3, 4, 5, 0] rfl (ok_w_X12_all_3 h hx)
/-! X12_waysOf -/
def j_X12_waysOf_83 (x1 : Int32) (x2 : Int64) (x4 : Int32) (s : cS) : Option (((Int64 × Int32) × cS) ⊕ (Int64 × cS)) :=
  some (.inl ((x2, (x4 + (1 : Int32))), s))
set_option maxRecDepth 20000 in
set_option maxHeartbeats 4000000 in
theorem ok_j_X12_waysOf_83 {g : pG} {l : Launch} {F : pF} {x1 : Int32} {x2 : Int64} {x4 : Int32} {s : cS} {x : (((Int64 × Int32) × cS) ⊕ (Int64 × cS))} (h : j_X12_waysOf_83 x1 x2 x4 s = some x) (hx : (KL (fun (v : (Int64 × Int32) × cS) => PW g l (pRoom 2 0 0) M_X12_waysOf F 5 [(0, .ref 193), (1, .int x1), (2, .long v.1.1), (4, .int v.1.2)] [] (tS v.2) 0 0) (fun q => F = pE g (some (.long q.1)) (tS q.2) 0 0)) x) : PW g l (pRoom 2 0 0) M_X12_waysOf F 83 [(0, .ref 193), (1, .int x1), (2, .long x2), (4, .int x4)] [] (tS s) 0 0 := by
  unfold j_X12_waysOf_83 at h
  refine PW.iinc (v := (x4 + (1 : Int32))) 3 dX12_waysOf_83 rfl (by first | rfl | decide) (Nat.le_of_ble_eq_true rfl) rfl ?_
  refine PW.goto (tgt := 5) dX12_waysOf_86 (by decide) ?_
  cases h
  exact PW.pick [1, 2, 3, 0] rfl hx
def b_X12_waysOf_42 (x1 : Int32) (x2 : Int64) (x4 : Int32) (x5 : Int64) (x7 : Int32) (s : cS) : Option (((Int64 × Int32) × cS) ⊕ (((Int64 × Int32) × cS) ⊕ (Int64 × cS))) :=
  if inb x4 8 then
  if (iG s 199 x4.toNatClampNeg) ≤ x7 then
    oR (
      j_X12_waysOf_83 x1 (x2 * x5) x4 s)
  else
    if inb (((4 : Int32) * x4) + x7) 32 then
    some (.inl (((x5 + (iG s 201 (((4 : Int32) * x4) + x7).toNatClampNeg).toInt64), (x7 + (1 : Int32))), s))
    else none
  else none
set_option maxRecDepth 20000 in
set_option maxHeartbeats 4000000 in
theorem ok_b_X12_waysOf_42 {g : pG} {l : Launch} {F : pF} {x1 : Int32} {x2 : Int64} {x4 : Int32} {x5 : Int64} {x7 : Int32} {s : cS} {x : (((Int64 × Int32) × cS) ⊕ (((Int64 × Int32) × cS) ⊕ (Int64 × cS)))} (h : b_X12_waysOf_42 x1 x2 x4 x5 x7 s = some x) (hx : (KL (fun (v : (Int64 × Int32) × cS) => PW g l (pRoom 2 0 0) M_X12_waysOf F 42 [(0, .ref 193), (1, .int x1), (2, .long x2), (4, .int x4), (5, .long v.1.1), (7, .int v.1.2)] [] (tS v.2) 0 0) (KL (fun (v : (Int64 × Int32) × cS) => PW g l (pRoom 2 0 0) M_X12_waysOf F 5 [(0, .ref 193), (1, .int x1), (2, .long v.1.1), (4, .int v.1.2)] [] (tS v.2) 0 0) (fun q => F = pE g (some (.long q.1)) (tS q.2) 0 0))) x) : PW g l (pRoom 2 0 0) M_X12_waysOf F 42 [(0, .ref 193), (1, .int x1), (2, .long x2), (4, .int x4), (5, .long x5), (7, .int x7)] [] (tS s) 0 0 := by
  unfold b_X12_waysOf_42 at h
  refine PW.iload 5 dX12_waysOf_42 rfl ?_
  refine PW.aload_n 0 0 dX12_waysOf_44 rfl rfl rfl ?_
  refine CW.getr dX12_waysOf_45 fL_X12_26 LA_193 (Or.inr ⟨_, rfl⟩) rfl ?_
  refine PW.iload 3 dX12_waysOf_48 rfl ?_
  by_cases c6 : inb x4 8
  rotate_left
  · have h := ifn h c6; cases h
  replace h := ifp h c6
  refine CW.iald dX12_waysOf_50 LA_199 c6 ?_
  refine PW.icmp_ge (tgt := 78) dX12_waysOf_51 (by decide) (fun c7 => ?_) (fun c7 => ?_)
  · replace h := ifp h c7
    obtain ⟨xo, hy, hxo⟩ := oRb h
    clear h
    subst hxo
    replace hx := KLr hx
    have h := hy
    clear hy
    refine PW.lload_n 2 2 dX12_waysOf_78 rfl rfl ?_
    refine PW.lload 4 dX12_waysOf_79 rfl ?_
    refine PW.lmul dX12_waysOf_81 ?_
    refine PW.lstore_n dX12_waysOf_82 rfl (Nat.le_of_ble_eq_true rfl) rfl ?_
    exact PW.pick [1, 2, 0, 3] rfl (ok_j_X12_waysOf_83 h hx)
  · replace h := ifn h c7
    refine PW.lload 4 dX12_waysOf_54 rfl ?_
    refine PW.aload_n 0 0 dX12_waysOf_56 rfl rfl rfl ?_
    refine CW.getr dX12_waysOf_57 fL_X12_32 LA_193 (Or.inr ⟨_, rfl⟩) rfl ?_
    refine PW.iconst (v := 4) dX12_waysOf_60 (by decide) ?_
    refine PW.iload 3 dX12_waysOf_61 rfl ?_
    refine PW.imul dX12_waysOf_63 ?_
    refine PW.iload 5 dX12_waysOf_64 rfl ?_
    refine PW.iadd dX12_waysOf_66 ?_
    by_cases c8 : inb (((4 : Int32) * x4) + x7) 32
    rotate_left
    · have h := ifn h c8; cases h
    replace h := ifp h c8
    refine CW.iald dX12_waysOf_67 LA_201 c8 ?_
    refine PW.i2l dX12_waysOf_68 ?_
    refine PW.ladd dX12_waysOf_69 ?_
    refine PW.lstore dX12_waysOf_70 (Nat.le_of_ble_eq_true rfl) rfl ?_
    refine PW.iinc (v := (x7 + (1 : Int32))) 5 dX12_waysOf_72 rfl (by first | rfl | decide) (Nat.le_of_ble_eq_true rfl) rfl ?_
    refine PW.goto (tgt := 42) dX12_waysOf_75 (by decide) ?_
    cases h
    exact PW.pick [2, 3, 4, 5, 1, 0] rfl hx
def w_X12_waysOf_42 (N : Nat) (x1 : Int32) (x2 : Int64) (x4 : Int32) (x5 : Int64) (x7 : Int32) (s : cS) : Option (((Int64 × Int32) × cS) ⊕ (Int64 × cS)) := itr (fun (v : (Int64 × Int32) × cS) => b_X12_waysOf_42 x1 x2 x4 v.1.1 v.1.2 v.2) N ((x5, x7), s)
theorem ok_w_X12_waysOf_42 {g : pG} {l : Launch} {F : pF} {N : Nat} {x1 : Int32} {x2 : Int64} {x4 : Int32} {x5 : Int64} {x7 : Int32} {s : cS} {x : (((Int64 × Int32) × cS) ⊕ (Int64 × cS))} (h : w_X12_waysOf_42 N x1 x2 x4 x5 x7 s = some x) (hx : (KL (fun (v : (Int64 × Int32) × cS) => PW g l (pRoom 2 0 0) M_X12_waysOf F 5 [(0, .ref 193), (1, .int x1), (2, .long v.1.1), (4, .int v.1.2)] [] (tS v.2) 0 0) (fun q => F = pE g (some (.long q.1)) (tS q.2) 0 0)) x) : PW g l (pRoom 2 0 0) M_X12_waysOf F 42 [(0, .ref 193), (1, .int x1), (2, .long x2), (4, .int x4), (5, .long x5), (7, .int x7)] [] (tS s) 0 0 :=
  okIter (P := (fun (v : (Int64 × Int32) × cS) => PW g l (pRoom 2 0 0) M_X12_waysOf F 42 [(0, .ref 193), (1, .int x1), (2, .long x2), (4, .int x4), (5, .long v.1.1), (7, .int v.1.2)] [] (tS v.2) 0 0)) (K := (KL (fun (v : (Int64 × Int32) × cS) => PW g l (pRoom 2 0 0) M_X12_waysOf F 5 [(0, .ref 193), (1, .int x1), (2, .long v.1.1), (4, .int v.1.2)] [] (tS v.2) 0 0) (fun q => F = pE g (some (.long q.1)) (tS q.2) 0 0))) (fun v y hB hy => ok_b_X12_waysOf_42 hB hy) N ((x5, x7), s) x h hx
def b_X12_waysOf_5 (N : Nat) (x1 : Int32) (x2 : Int64) (x4 : Int32) (s : cS) : Option (((Int64 × Int32) × cS) ⊕ (Int64 × cS)) :=
  if (iG s 193 2) ≤ x4 then
    oR (
      some ((x2, s)))
  else
    if inb x4 8 then
    if (iG s 199 x4.toNatClampNeg) = 0 then
      j_X12_waysOf_83 x1 x2 x4 s
    else
      if (f_X12_has x1 x4 s) = 0 then
        j_X12_waysOf_83 x1 x2 x4 s
      else
        w_X12_waysOf_42 N x1 x2 x4 (0 : Int64) (0 : Int32) s
    else none
set_option maxRecDepth 20000 in
set_option maxHeartbeats 4000000 in
theorem ok_b_X12_waysOf_5 {g : pG} {l : Launch} {F : pF} {N : Nat} {x1 : Int32} {x2 : Int64} {x4 : Int32} {s : cS} {x : (((Int64 × Int32) × cS) ⊕ (Int64 × cS))} (h : b_X12_waysOf_5 N x1 x2 x4 s = some x) (hx : (KL (fun (v : (Int64 × Int32) × cS) => PW g l (pRoom 2 0 0) M_X12_waysOf F 5 [(0, .ref 193), (1, .int x1), (2, .long v.1.1), (4, .int v.1.2)] [] (tS v.2) 0 0) (fun q => F = pE g (some (.long q.1)) (tS q.2) 0 0)) x) : PW g l (pRoom 2 0 0) M_X12_waysOf F 5 [(0, .ref 193), (1, .int x1), (2, .long x2), (4, .int x4)] [] (tS s) 0 0 := by
  unfold b_X12_waysOf_5 at h
  refine PW.iload 3 dX12_waysOf_5 rfl ?_
  refine PW.aload_n 0 0 dX12_waysOf_7 rfl rfl rfl ?_
  refine CW.geti dX12_waysOf_8 fL_X12_161 LA_193 (Or.inl rfl) ?_
  refine PW.icmp_ge (tgt := 89) dX12_waysOf_11 (by decide) (fun c1 => ?_) (fun c1 => ?_)
  · replace h := ifp h c1
    obtain ⟨xo, hy, hxo⟩ := oRb h
    clear h
    subst hxo
    replace hx := KLr hx
    have h := hy
    clear hy
    refine PW.lload_n 2 2 dX12_waysOf_89 rfl rfl ?_
    cases h
    subst hx
    exact PW.lret dX12_waysOf_90 rfl (Nat.le_refl 0) (Nat.le_refl 0)
  · replace h := ifn h c1
    refine PW.aload_n 0 0 dX12_waysOf_14 rfl rfl rfl ?_
    refine CW.getr dX12_waysOf_15 fL_X12_26 LA_193 (Or.inr ⟨_, rfl⟩) rfl ?_
    refine PW.iload 3 dX12_waysOf_18 rfl ?_
    by_cases c2 : inb x4 8
    rotate_left
    · have h := ifn h c2; cases h
    replace h := ifp h c2
    refine CW.iald dX12_waysOf_20 LA_199 c2 ?_
    refine PW.if_eq (tgt := 83) dX12_waysOf_21 (by decide) (fun c3 => ?_) (fun c3 => ?_)
    · replace h := ifp h c3
      exact PW.pick [0, 1, 2, 3] rfl (ok_j_X12_waysOf_83 h hx)
    · replace h := ifn h c3
      refine PW.iload_n 1 1 dX12_waysOf_24 rfl rfl ?_
      refine PW.iload 3 dX12_waysOf_25 rfl ?_
      refine CW.callSi (st := []) [.int x1, .int x4] dX12_waysOf_27 (p_X12_has rfl) MS_X12_has mL_X12_380 rfl rfl (Nat.le_of_ble_eq_true rfl) (by first | decide | omega) ?_
      refine PW.if_ne (tgt := 36) dX12_waysOf_30 (by decide) (fun c5 => ?_) (fun c5 => ?_)
      · replace h := ifn h c5
        refine PW.lconst (v := 0) dX12_waysOf_36 (by decide) ?_
        refine PW.lstore dX12_waysOf_37 (Nat.le_of_ble_eq_true rfl) rfl ?_
        refine PW.iconst (v := 0) dX12_waysOf_39 (by decide) ?_
        refine PW.istore dX12_waysOf_40 (Nat.le_of_ble_eq_true rfl) rfl ?_
        exact PW.pick [2, 3, 4, 5, 1, 0] rfl (ok_w_X12_waysOf_42 h hx)
      · replace h := ifp h c5
        refine PW.goto (tgt := 83) dX12_waysOf_33 (by decide) ?_
        exact PW.pick [0, 1, 2, 3] rfl (ok_j_X12_waysOf_83 h hx)
def w_X12_waysOf_5 (N : Nat) (x1 : Int32) (x2 : Int64) (x4 : Int32) (s : cS) : Option (Int64 × cS) := itr (fun (v : (Int64 × Int32) × cS) => b_X12_waysOf_5 N x1 v.1.1 v.1.2 v.2) N ((x2, x4), s)
theorem ok_w_X12_waysOf_5 {g : pG} {l : Launch} {F : pF} {N : Nat} {x1 : Int32} {x2 : Int64} {x4 : Int32} {s : cS} {x : (Int64 × cS)} (h : w_X12_waysOf_5 N x1 x2 x4 s = some x) (hx : (fun q => F = pE g (some (.long q.1)) (tS q.2) 0 0) x) : PW g l (pRoom 2 0 0) M_X12_waysOf F 5 [(0, .ref 193), (1, .int x1), (2, .long x2), (4, .int x4)] [] (tS s) 0 0 :=
  okIter (P := (fun (v : (Int64 × Int32) × cS) => PW g l (pRoom 2 0 0) M_X12_waysOf F 5 [(0, .ref 193), (1, .int x1), (2, .long v.1.1), (4, .int v.1.2)] [] (tS v.2) 0 0)) (K := (fun q => F = pE g (some (.long q.1)) (tS q.2) 0 0)) (fun v y hB hy => ok_b_X12_waysOf_5 hB hy) N ((x2, x4), s) x h hx
def f_X12_waysOf (N : Nat) (a0 : Int32) (s : cS) : Option (Int64 × cS) :=
  w_X12_waysOf_5 N a0 (1 : Int64) (0 : Int32) s
set_option maxRecDepth 20000 in
set_option maxHeartbeats 4000000 in
theorem p_X12_waysOf {g : pG} {l : Launch} {N : Nat} {a0 : Int32} {s : cS} {q : Int64 × cS} (h : f_X12_waysOf N a0 s = some q) : PM g l 2 M_X12_waysOf [.ref 193, .int a0] (tS s) (some (.long q.1)) (tS q.2) 0 0 := by
  refine PM.of (by decide +kernel) (Nat.le_of_ble_eq_true rfl) ?_
  show PW g l (pRoom 2 0 0) M_X12_waysOf _ 0 [(0, .ref 193), (1, .int a0)] [] (tS s) 0 0
  unfold f_X12_waysOf at h
  generalize hF : pE g (some (.long q.1)) (tS q.2) 0 0 = F
  have hx := hF.symm
  refine PW.lconst (v := 1) dX12_waysOf_0 (by decide) ?_
  refine PW.lstore_n dX12_waysOf_1 rfl (Nat.le_of_ble_eq_true rfl) rfl ?_
  refine PW.iconst (v := 0) dX12_waysOf_2 (by decide) ?_
  refine PW.istore dX12_waysOf_3 (Nat.le_of_ble_eq_true rfl) rfl ?_
  exact PW.pick [2, 3, 1, 0] rfl (ok_w_X12_waysOf_5 h hx)
/-! X12_waysLeft -/
def j_X12_waysLeft_118 (x1 : Int32) (x2 : Int32) (x3 : Int64) (x5 : Int32) (s : cS) : Option (((Int64 × Int32) × cS) ⊕ (Int64 × cS)) :=
  some (.inl ((x3, (x5 + (1 : Int32))), s))
set_option maxRecDepth 20000 in
set_option maxHeartbeats 4000000 in
theorem ok_j_X12_waysLeft_118 {g : pG} {l : Launch} {F : pF} {x1 : Int32} {x2 : Int32} {x3 : Int64} {x5 : Int32} {s : cS} {x : (((Int64 × Int32) × cS) ⊕ (Int64 × cS))} (h : j_X12_waysLeft_118 x1 x2 x3 x5 s = some x) (hx : (KL (fun (v : (Int64 × Int32) × cS) => PW g l (pRoom 2 0 0) M_X12_waysLeft F 5 [(0, .ref 193), (1, .int x1), (2, .int x2), (3, .long v.1.1), (5, .int v.1.2)] [] (tS v.2) 0 0) (fun q => F = pE g (some (.long q.1)) (tS q.2) 0 0)) x) : PW g l (pRoom 2 0 0) M_X12_waysLeft F 118 [(0, .ref 193), (1, .int x1), (2, .int x2), (3, .long x3), (5, .int x5)] [] (tS s) 0 0 := by
  unfold j_X12_waysLeft_118 at h
  refine PW.iinc (v := (x5 + (1 : Int32))) 4 dX12_waysLeft_118 rfl (by first | rfl | decide) (Nat.le_of_ble_eq_true rfl) rfl ?_
  refine PW.goto (tgt := 5) dX12_waysLeft_121 (by decide) ?_
  cases h
  exact PW.pick [1, 2, 3, 4, 0] rfl hx
def j_X12_waysLeft_104 (x1 : Int32) (x2 : Int32) (x3 : Int64) (x5 : Int32) (x8 : Int32) (y0 : Int64) (y1 : Int64) (s : cS) : Option (((Int64 × Int32) × cS) ⊕ (((Int64 × Int32) × cS) ⊕ (Int64 × cS))) :=
  some (.inl (((y0 + y1), (x8 + (1 : Int32))), s))
set_option maxRecDepth 20000 in
set_option maxHeartbeats 4000000 in
theorem ok_j_X12_waysLeft_104 {g : pG} {l : Launch} {F : pF} {x1 : Int32} {x2 : Int32} {x3 : Int64} {x5 : Int32} {x8 : Int32} {y0 : Int64} {y1 : Int64} {s : cS} {x : (((Int64 × Int32) × cS) ⊕ (((Int64 × Int32) × cS) ⊕ (Int64 × cS)))} (h : j_X12_waysLeft_104 x1 x2 x3 x5 x8 y0 y1 s = some x) (hx : (KL (fun (v : (Int64 × Int32) × cS) => PW g l (pRoom 2 0 0) M_X12_waysLeft F 42 [(0, .ref 193), (1, .int x1), (2, .int x2), (3, .long x3), (5, .int x5), (6, .long v.1.1), (8, .int v.1.2)] [] (tS v.2) 0 0) (KL (fun (v : (Int64 × Int32) × cS) => PW g l (pRoom 2 0 0) M_X12_waysLeft F 5 [(0, .ref 193), (1, .int x1), (2, .int x2), (3, .long v.1.1), (5, .int v.1.2)] [] (tS v.2) 0 0) (fun q => F = pE g (some (.long q.1)) (tS q.2) 0 0))) x) : PW g l (pRoom 2 0 0) M_X12_waysLeft F 104 [(0, .ref 193), (1, .int x1), (2, .int x2), (3, .long x3), (5, .int x5), (8, .int x8)] [.long y1, .long y0] (tS s) 0 0 := by
  unfold j_X12_waysLeft_104 at h
  refine PW.ladd dX12_waysLeft_104 ?_
  refine PW.lstore dX12_waysLeft_105 (Nat.le_of_ble_eq_true rfl) rfl ?_
  refine PW.iinc (v := (x8 + (1 : Int32))) 6 dX12_waysLeft_107 rfl (by first | rfl | decide) (Nat.le_of_ble_eq_true rfl) rfl ?_
  refine PW.goto (tgt := 42) dX12_waysLeft_110 (by decide) ?_
  cases h
  exact PW.pick [2, 3, 4, 5, 6, 1, 0] rfl hx
def j_X12_waysLeft_87 (x1 : Int32) (x2 : Int32) (x3 : Int64) (x5 : Int32) (x8 : Int32) (y0 : Int64) (s : cS) : Option (((Int64 × Int32) × cS) ⊕ (((Int64 × Int32) × cS) ⊕ (Int64 × cS))) :=
  if inb (((4 : Int32) * x5) + x8) 32 then
  j_X12_waysLeft_104 x1 x2 x3 x5 x8 y0 ((iG s 201 (((4 : Int32) * x5) + x8).toNatClampNeg).toInt64) s
  else none
set_option maxRecDepth 20000 in
set_option maxHeartbeats 4000000 in
theorem ok_j_X12_waysLeft_87 {g : pG} {l : Launch} {F : pF} {x1 : Int32} {x2 : Int32} {x3 : Int64} {x5 : Int32} {x8 : Int32} {y0 : Int64} {s : cS} {x : (((Int64 × Int32) × cS) ⊕ (((Int64 × Int32) × cS) ⊕ (Int64 × cS)))} (h : j_X12_waysLeft_87 x1 x2 x3 x5 x8 y0 s = some x) (hx : (KL (fun (v : (Int64 × Int32) × cS) => PW g l (pRoom 2 0 0) M_X12_waysLeft F 42 [(0, .ref 193), (1, .int x1), (2, .int x2), (3, .long x3), (5, .int x5), (6, .long v.1.1), (8, .int v.1.2)] [] (tS v.2) 0 0) (KL (fun (v : (Int64 × Int32) × cS) => PW g l (pRoom 2 0 0) M_X12_waysLeft F 5 [(0, .ref 193), (1, .int x1), (2, .int x2), (3, .long v.1.1), (5, .int v.1.2)] [] (tS v.2) 0 0) (fun q => F = pE g (some (.long q.1)) (tS q.2) 0 0))) x) : PW g l (pRoom 2 0 0) M_X12_waysLeft F 87 [(0, .ref 193), (1, .int x1), (2, .int x2), (3, .long x3), (5, .int x5), (8, .int x8)] [.long y0] (tS s) 0 0 := by
  unfold j_X12_waysLeft_87 at h
  refine PW.aload_n 0 0 dX12_waysLeft_87 rfl rfl rfl ?_
  refine CW.getr dX12_waysLeft_88 fL_X12_32 LA_193 (Or.inr ⟨_, rfl⟩) rfl ?_
  refine PW.iconst (v := 4) dX12_waysLeft_91 (by decide) ?_
  refine PW.iload 4 dX12_waysLeft_92 rfl ?_
  refine PW.imul dX12_waysLeft_94 ?_
  refine PW.iload 5 dX12_waysLeft_95 rfl ?_
  refine PW.iadd dX12_waysLeft_97 ?_
  by_cases c10 : inb (((4 : Int32) * x5) + x8) 32
  rotate_left
  · have h := ifn h c10; cases h
  replace h := ifp h c10
  refine CW.iald dX12_waysLeft_98 LA_201 c10 ?_
  refine PW.i2l dX12_waysLeft_99 ?_
  refine PW.goto (tgt := 104) dX12_waysLeft_100 (by decide) ?_
  exact PW.pick [0, 1, 2, 3, 4, 5] rfl (ok_j_X12_waysLeft_104 h hx)
def b_X12_waysLeft_42 (x1 : Int32) (x2 : Int32) (x3 : Int64) (x5 : Int32) (x6 : Int64) (x8 : Int32) (s : cS) : Option (((Int64 × Int32) × cS) ⊕ (((Int64 × Int32) × cS) ⊕ (Int64 × cS))) :=
  if inb x5 8 then
  if (iG s 199 x5.toNatClampNeg) ≤ x8 then
    oR (
      j_X12_waysLeft_118 x1 x2 (x3 * x6) x5 s)
  else
    if inb (((4 : Int32) * x5) + x8) 32 then
    if (iG s 223 (((4 : Int32) * x5) + x8).toNatClampNeg) = 0 then
      j_X12_waysLeft_87 x1 x2 x3 x5 x8 x6 s
    else
      if (iG s 223 (((4 : Int32) * x5) + x8).toNatClampNeg) ≤ x2 then
        j_X12_waysLeft_104 x1 x2 x3 x5 x8 x6 (0 : Int64) s
      else
        j_X12_waysLeft_87 x1 x2 x3 x5 x8 x6 s
    else none
  else none
set_option maxRecDepth 20000 in
set_option maxHeartbeats 4000000 in
theorem ok_b_X12_waysLeft_42 {g : pG} {l : Launch} {F : pF} {x1 : Int32} {x2 : Int32} {x3 : Int64} {x5 : Int32} {x6 : Int64} {x8 : Int32} {s : cS} {x : (((Int64 × Int32) × cS) ⊕ (((Int64 × Int32) × cS) ⊕ (Int64 × cS)))} (h : b_X12_waysLeft_42 x1 x2 x3 x5 x6 x8 s = some x) (hx : (KL (fun (v : (Int64 × Int32) × cS) => PW g l (pRoom 2 0 0) M_X12_waysLeft F 42 [(0, .ref 193), (1, .int x1), (2, .int x2), (3, .long x3), (5, .int x5), (6, .long v.1.1), (8, .int v.1.2)] [] (tS v.2) 0 0) (KL (fun (v : (Int64 × Int32) × cS) => PW g l (pRoom 2 0 0) M_X12_waysLeft F 5 [(0, .ref 193), (1, .int x1), (2, .int x2), (3, .long v.1.1), (5, .int v.1.2)] [] (tS v.2) 0 0) (fun q => F = pE g (some (.long q.1)) (tS q.2) 0 0))) x) : PW g l (pRoom 2 0 0) M_X12_waysLeft F 42 [(0, .ref 193), (1, .int x1), (2, .int x2), (3, .long x3), (5, .int x5), (6, .long x6), (8, .int x8)] [] (tS s) 0 0 := by
  unfold b_X12_waysLeft_42 at h
  refine PW.iload 6 dX12_waysLeft_42 rfl ?_
  refine PW.aload_n 0 0 dX12_waysLeft_44 rfl rfl rfl ?_
  refine CW.getr dX12_waysLeft_45 fL_X12_26 LA_193 (Or.inr ⟨_, rfl⟩) rfl ?_
  refine PW.iload 4 dX12_waysLeft_48 rfl ?_
  by_cases c6 : inb x5 8
  rotate_left
  · have h := ifn h c6; cases h
  replace h := ifp h c6
  refine CW.iald dX12_waysLeft_50 LA_199 c6 ?_
  refine PW.icmp_ge (tgt := 113) dX12_waysLeft_51 (by decide) (fun c7 => ?_) (fun c7 => ?_)
  · replace h := ifp h c7
    obtain ⟨xo, hy, hxo⟩ := oRb h
    clear h
    subst hxo
    replace hx := KLr hx
    have h := hy
    clear hy
    refine PW.lload_n 3 3 dX12_waysLeft_113 rfl rfl ?_
    refine PW.lload 5 dX12_waysLeft_114 rfl ?_
    refine PW.lmul dX12_waysLeft_116 ?_
    refine PW.lstore_n dX12_waysLeft_117 rfl (Nat.le_of_ble_eq_true rfl) rfl ?_
    exact PW.pick [1, 2, 3, 0, 4] rfl (ok_j_X12_waysLeft_118 h hx)
  · replace h := ifn h c7
    refine PW.lload 5 dX12_waysLeft_54 rfl ?_
    refine PW.aload_n 0 0 dX12_waysLeft_56 rfl rfl rfl ?_
    refine CW.getr dX12_waysLeft_57 fL_X12_99 LA_193 (Or.inr ⟨_, rfl⟩) rfl ?_
    refine PW.iconst (v := 4) dX12_waysLeft_60 (by decide) ?_
    refine PW.iload 4 dX12_waysLeft_61 rfl ?_
    refine PW.imul dX12_waysLeft_63 ?_
    refine PW.iload 6 dX12_waysLeft_64 rfl ?_
    refine PW.iadd dX12_waysLeft_66 ?_
    by_cases c8 : inb (((4 : Int32) * x5) + x8) 32
    rotate_left
    · have h := ifn h c8; cases h
    replace h := ifp h c8
    refine CW.iald dX12_waysLeft_67 LA_223 c8 ?_
    refine PW.if_eq (tgt := 87) dX12_waysLeft_68 (by decide) (fun c9 => ?_) (fun c9 => ?_)
    · replace h := ifp h c9
      exact PW.pick [0, 1, 2, 3, 4, 6] rfl (ok_j_X12_waysLeft_87 h hx)
    · replace h := ifn h c9
      refine PW.aload_n 0 0 dX12_waysLeft_71 rfl rfl rfl ?_
      refine CW.getr dX12_waysLeft_72 fL_X12_99 LA_193 (Or.inr ⟨_, rfl⟩) rfl ?_
      refine PW.iconst (v := 4) dX12_waysLeft_75 (by decide) ?_
      refine PW.iload 4 dX12_waysLeft_76 rfl ?_
      refine PW.imul dX12_waysLeft_78 ?_
      refine PW.iload 6 dX12_waysLeft_79 rfl ?_
      refine PW.iadd dX12_waysLeft_81 ?_
      refine CW.iald dX12_waysLeft_82 LA_223 c8 ?_
      refine PW.iload_n 2 2 dX12_waysLeft_83 rfl rfl ?_
      refine PW.icmp_le (tgt := 103) dX12_waysLeft_84 (by decide) (fun c11 => ?_) (fun c11 => ?_)
      · replace h := ifp h c11
        refine PW.lconst (v := 0) dX12_waysLeft_103 (by decide) ?_
        exact PW.pick [0, 1, 2, 3, 4, 6] rfl (ok_j_X12_waysLeft_104 h hx)
      · replace h := ifn h c11
        exact PW.pick [0, 1, 2, 3, 4, 6] rfl (ok_j_X12_waysLeft_87 h hx)
def w_X12_waysLeft_42 (N : Nat) (x1 : Int32) (x2 : Int32) (x3 : Int64) (x5 : Int32) (x6 : Int64) (x8 : Int32) (s : cS) : Option (((Int64 × Int32) × cS) ⊕ (Int64 × cS)) := itr (fun (v : (Int64 × Int32) × cS) => b_X12_waysLeft_42 x1 x2 x3 x5 v.1.1 v.1.2 v.2) N ((x6, x8), s)
theorem ok_w_X12_waysLeft_42 {g : pG} {l : Launch} {F : pF} {N : Nat} {x1 : Int32} {x2 : Int32} {x3 : Int64} {x5 : Int32} {x6 : Int64} {x8 : Int32} {s : cS} {x : (((Int64 × Int32) × cS) ⊕ (Int64 × cS))} (h : w_X12_waysLeft_42 N x1 x2 x3 x5 x6 x8 s = some x) (hx : (KL (fun (v : (Int64 × Int32) × cS) => PW g l (pRoom 2 0 0) M_X12_waysLeft F 5 [(0, .ref 193), (1, .int x1), (2, .int x2), (3, .long v.1.1), (5, .int v.1.2)] [] (tS v.2) 0 0) (fun q => F = pE g (some (.long q.1)) (tS q.2) 0 0)) x) : PW g l (pRoom 2 0 0) M_X12_waysLeft F 42 [(0, .ref 193), (1, .int x1), (2, .int x2), (3, .long x3), (5, .int x5), (6, .long x6), (8, .int x8)] [] (tS s) 0 0 :=
  okIter (P := (fun (v : (Int64 × Int32) × cS) => PW g l (pRoom 2 0 0) M_X12_waysLeft F 42 [(0, .ref 193), (1, .int x1), (2, .int x2), (3, .long x3), (5, .int x5), (6, .long v.1.1), (8, .int v.1.2)] [] (tS v.2) 0 0)) (K := (KL (fun (v : (Int64 × Int32) × cS) => PW g l (pRoom 2 0 0) M_X12_waysLeft F 5 [(0, .ref 193), (1, .int x1), (2, .int x2), (3, .long v.1.1), (5, .int v.1.2)] [] (tS v.2) 0 0) (fun q => F = pE g (some (.long q.1)) (tS q.2) 0 0))) (fun v y hB hy => ok_b_X12_waysLeft_42 hB hy) N ((x6, x8), s) x h hx
def b_X12_waysLeft_5 (N : Nat) (x1 : Int32) (x2 : Int32) (x3 : Int64) (x5 : Int32) (s : cS) : Option (((Int64 × Int32) × cS) ⊕ (Int64 × cS)) :=
  if (iG s 193 2) ≤ x5 then
    oR (
      some ((x3, s)))
  else
    if inb x5 8 then
    if (iG s 199 x5.toNatClampNeg) = 0 then
      j_X12_waysLeft_118 x1 x2 x3 x5 s
    else
      if (f_X12_has x1 x5 s) = 0 then
        j_X12_waysLeft_118 x1 x2 x3 x5 s
      else
        w_X12_waysLeft_42 N x1 x2 x3 x5 (0 : Int64) (0 : Int32) s
    else none
set_option maxRecDepth 20000 in
set_option maxHeartbeats 4000000 in
theorem ok_b_X12_waysLeft_5 {g : pG} {l : Launch} {F : pF} {N : Nat} {x1 : Int32} {x2 : Int32} {x3 : Int64} {x5 : Int32} {s : cS} {x : (((Int64 × Int32) × cS) ⊕ (Int64 × cS))} (h : b_X12_waysLeft_5 N x1 x2 x3 x5 s = some x) (hx : (KL (fun (v : (Int64 × Int32) × cS) => PW g l (pRoom 2 0 0) M_X12_waysLeft F 5 [(0, .ref 193), (1, .int x1), (2, .int x2), (3, .long v.1.1), (5, .int v.1.2)] [] (tS v.2) 0 0) (fun q => F = pE g (some (.long q.1)) (tS q.2) 0 0)) x) : PW g l (pRoom 2 0 0) M_X12_waysLeft F 5 [(0, .ref 193), (1, .int x1), (2, .int x2), (3, .long x3), (5, .int x5)] [] (tS s) 0 0 := by
  unfold b_X12_waysLeft_5 at h
  refine PW.iload 4 dX12_waysLeft_5 rfl ?_
  refine PW.aload_n 0 0 dX12_waysLeft_7 rfl rfl rfl ?_
  refine CW.geti dX12_waysLeft_8 fL_X12_161 LA_193 (Or.inl rfl) ?_
  refine PW.icmp_ge (tgt := 124) dX12_waysLeft_11 (by decide) (fun c1 => ?_) (fun c1 => ?_)
  · replace h := ifp h c1
    obtain ⟨xo, hy, hxo⟩ := oRb h
    clear h
    subst hxo
    replace hx := KLr hx
    have h := hy
    clear hy
    refine PW.lload_n 3 3 dX12_waysLeft_124 rfl rfl ?_
    cases h
    subst hx
    exact PW.lret dX12_waysLeft_125 rfl (Nat.le_refl 0) (Nat.le_refl 0)
  · replace h := ifn h c1
    refine PW.aload_n 0 0 dX12_waysLeft_14 rfl rfl rfl ?_
    refine CW.getr dX12_waysLeft_15 fL_X12_26 LA_193 (Or.inr ⟨_, rfl⟩) rfl ?_
    refine PW.iload 4 dX12_waysLeft_18 rfl ?_
    by_cases c2 : inb x5 8
    rotate_left
    · have h := ifn h c2; cases h
    replace h := ifp h c2
    refine CW.iald dX12_waysLeft_20 LA_199 c2 ?_
    refine PW.if_eq (tgt := 118) dX12_waysLeft_21 (by decide) (fun c3 => ?_) (fun c3 => ?_)
    · replace h := ifp h c3
      exact PW.pick [0, 1, 2, 3, 4] rfl (ok_j_X12_waysLeft_118 h hx)
    · replace h := ifn h c3
      refine PW.iload_n 1 1 dX12_waysLeft_24 rfl rfl ?_
      refine PW.iload 4 dX12_waysLeft_25 rfl ?_
      refine CW.callSi (st := []) [.int x1, .int x5] dX12_waysLeft_27 (p_X12_has rfl) MS_X12_has mL_X12_380 rfl rfl (Nat.le_of_ble_eq_true rfl) (by first | decide | omega) ?_
      refine PW.if_ne (tgt := 36) dX12_waysLeft_30 (by decide) (fun c5 => ?_) (fun c5 => ?_)
      · replace h := ifn h c5
        refine PW.lconst (v := 0) dX12_waysLeft_36 (by decide) ?_
        refine PW.lstore dX12_waysLeft_37 (Nat.le_of_ble_eq_true rfl) rfl ?_
        refine PW.iconst (v := 0) dX12_waysLeft_39 (by decide) ?_
        refine PW.istore dX12_waysLeft_40 (Nat.le_of_ble_eq_true rfl) rfl ?_
        exact PW.pick [2, 3, 4, 5, 6, 1, 0] rfl (ok_w_X12_waysLeft_42 h hx)
      · replace h := ifp h c5
        refine PW.goto (tgt := 118) dX12_waysLeft_33 (by decide) ?_
        exact PW.pick [0, 1, 2, 3, 4] rfl (ok_j_X12_waysLeft_118 h hx)
def w_X12_waysLeft_5 (N : Nat) (x1 : Int32) (x2 : Int32) (x3 : Int64) (x5 : Int32) (s : cS) : Option (Int64 × cS) := itr (fun (v : (Int64 × Int32) × cS) => b_X12_waysLeft_5 N x1 x2 v.1.1 v.1.2 v.2) N ((x3, x5), s)
theorem ok_w_X12_waysLeft_5 {g : pG} {l : Launch} {F : pF} {N : Nat} {x1 : Int32} {x2 : Int32} {x3 : Int64} {x5 : Int32} {s : cS} {x : (Int64 × cS)} (h : w_X12_waysLeft_5 N x1 x2 x3 x5 s = some x) (hx : (fun q => F = pE g (some (.long q.1)) (tS q.2) 0 0) x) : PW g l (pRoom 2 0 0) M_X12_waysLeft F 5 [(0, .ref 193), (1, .int x1), (2, .int x2), (3, .long x3), (5, .int x5)] [] (tS s) 0 0 :=
  okIter (P := (fun (v : (Int64 × Int32) × cS) => PW g l (pRoom 2 0 0) M_X12_waysLeft F 5 [(0, .ref 193), (1, .int x1), (2, .int x2), (3, .long v.1.1), (5, .int v.1.2)] [] (tS v.2) 0 0)) (K := (fun q => F = pE g (some (.long q.1)) (tS q.2) 0 0)) (fun v y hB hy => ok_b_X12_waysLeft_5 hB hy) N ((x3, x5), s) x h hx
def f_X12_waysLeft (N : Nat) (a0 : Int32) (a1 : Int32) (s : cS) : Option (Int64 × cS) :=
  w_X12_waysLeft_5 N a0 a1 (1 : Int64) (0 : Int32) s
set_option maxRecDepth 20000 in
set_option maxHeartbeats 4000000 in
theorem p_X12_waysLeft {g : pG} {l : Launch} {N : Nat} {a0 : Int32} {a1 : Int32} {s : cS} {q : Int64 × cS} (h : f_X12_waysLeft N a0 a1 s = some q) : PM g l 2 M_X12_waysLeft [.ref 193, .int a0, .int a1] (tS s) (some (.long q.1)) (tS q.2) 0 0 := by
  refine PM.of (by decide +kernel) (Nat.le_of_ble_eq_true rfl) ?_
  show PW g l (pRoom 2 0 0) M_X12_waysLeft _ 0 [(0, .ref 193), (1, .int a0), (2, .int a1)] [] (tS s) 0 0
  unfold f_X12_waysLeft at h
  generalize hF : pE g (some (.long q.1)) (tS q.2) 0 0 = F
  have hx := hF.symm
  refine PW.lconst (v := 1) dX12_waysLeft_0 (by decide) ?_
  refine PW.lstore_n dX12_waysLeft_1 rfl (Nat.le_of_ble_eq_true rfl) rfl ?_
  refine PW.iconst (v := 0) dX12_waysLeft_2 (by decide) ?_
  refine PW.istore dX12_waysLeft_3 (Nat.le_of_ble_eq_true rfl) rfl ?_
  exact PW.pick [2, 3, 4, 1, 0] rfl (ok_w_X12_waysLeft_5 h hx)
/-! X12_whole -/
def f_X12_whole (s : cS) : Int32 :=
  (((1 : Int32) <<< ((iG s 193 2) &&& 31)) - (1 : Int32))
set_option maxRecDepth 20000 in
set_option maxHeartbeats 4000000 in
theorem p_X12_whole {g : pG} {l : Launch} {s : cS} {q : Int32} (h : f_X12_whole s = q) : PM g l 1 M_X12_whole [.ref 193] (tS s) (some (.int q)) (tS s) 0 0 := by
  refine PM.of (by decide +kernel) (Nat.le_of_ble_eq_true rfl) ?_
  show PW g l (pRoom 1 0 0) M_X12_whole _ 0 [(0, .ref 193)] [] (tS s) 0 0
  unfold f_X12_whole at h
  generalize hF : pE g (some (.int q)) (tS s) 0 0 = F
  have hx := hF.symm
  refine PW.iconst (v := 1) dX12_whole_0 (by decide) ?_
  refine PW.aload_n 0 0 dX12_whole_1 rfl rfl rfl ?_
  refine CW.geti dX12_whole_2 fL_X12_161 LA_193 (Or.inl rfl) ?_
  refine PW.ishl dX12_whole_5 ?_
  refine PW.iconst (v := 1) dX12_whole_6 (by decide) ?_
  refine PW.isub dX12_whole_7 ?_
  cases h
  subst hx
  exact PW.iret dX12_whole_8 rfl rfl (Nat.le_refl 0) (Nat.le_refl 0)
/-! X12_first -/
def j_X12_first_185 (x1 : Int32) (x2 : Int64) (x4 : Int32) (s : cS) : Option (((Int64 × Int32) × cS) ⊕ (Int64 × cS)) :=
  some (.inl ((x2, (x4 + (1 : Int32))), s))
set_option maxRecDepth 20000 in
set_option maxHeartbeats 4000000 in
theorem ok_j_X12_first_185 {g : pG} {l : Launch} {F : pF} {x1 : Int32} {x2 : Int64} {x4 : Int32} {s : cS} {x : (((Int64 × Int32) × cS) ⊕ (Int64 × cS))} (h : j_X12_first_185 x1 x2 x4 s = some x) (hx : (KL (fun (v : (Int64 × Int32) × cS) => PW g l (pRoom 1 0 0) M_X12_first F 5 [(0, .ref 193), (1, .int x1), (2, .long v.1.1), (4, .int v.1.2)] [] (tS v.2) 0 0) (fun q => F = pE g (some (.long q.1)) (tS q.2) 0 0)) x) : PW g l (pRoom 1 0 0) M_X12_first F 185 [(0, .ref 193), (1, .int x1), (2, .long x2), (4, .int x4)] [] (tS s) 0 0 := by
  unfold j_X12_first_185 at h
  refine PW.iinc (v := (x4 + (1 : Int32))) 3 dX12_first_185 rfl (by first | rfl | decide) (Nat.le_of_ble_eq_true rfl) rfl ?_
  refine PW.goto (tgt := 5) dX12_first_188 (by decide) ?_
  cases h
  exact PW.pick [1, 2, 3, 0] rfl hx
def j_X12_first_174 (x1 : Int32) (x2 : Int64) (x4 : Int32) (x5 : Int32) (x6 : Int64) (x8 : Int32) (s : cS) : Option (((Int64 × Int32) × cS) ⊕ (((Int64 × Int32) × cS) ⊕ (Int64 × cS))) :=
  some (.inl ((x6, (x8 + (1 : Int32))), s))
set_option maxRecDepth 20000 in
set_option maxHeartbeats 4000000 in
theorem ok_j_X12_first_174 {g : pG} {l : Launch} {F : pF} {x1 : Int32} {x2 : Int64} {x4 : Int32} {x5 : Int32} {x6 : Int64} {x8 : Int32} {s : cS} {x : (((Int64 × Int32) × cS) ⊕ (((Int64 × Int32) × cS) ⊕ (Int64 × cS)))} (h : j_X12_first_174 x1 x2 x4 x5 x6 x8 s = some x) (hx : (KL (fun (v : (Int64 × Int32) × cS) => PW g l (pRoom 1 0 0) M_X12_first F 54 [(0, .ref 193), (1, .int x1), (2, .long x2), (4, .int x4), (5, .int x5), (6, .long v.1.1), (8, .int v.1.2)] [] (tS v.2) 0 0) (KL (fun (v : (Int64 × Int32) × cS) => PW g l (pRoom 1 0 0) M_X12_first F 5 [(0, .ref 193), (1, .int x1), (2, .long v.1.1), (4, .int v.1.2)] [] (tS v.2) 0 0) (fun q => F = pE g (some (.long q.1)) (tS q.2) 0 0))) x) : PW g l (pRoom 1 0 0) M_X12_first F 174 [(0, .ref 193), (1, .int x1), (2, .long x2), (4, .int x4), (5, .int x5), (6, .long x6), (8, .int x8)] [] (tS s) 0 0 := by
  unfold j_X12_first_174 at h
  refine PW.iinc (v := (x8 + (1 : Int32))) 6 dX12_first_174 rfl (by first | rfl | decide) (Nat.le_of_ble_eq_true rfl) rfl ?_
  refine PW.goto (tgt := 54) dX12_first_177 (by decide) ?_
  cases h
  exact PW.pick [1, 2, 3, 4, 5, 6, 0] rfl hx
def j_X12_first_158 (x1 : Int32) (x2 : Int64) (x4 : Int32) (x5 : Int32) (x6 : Int64) (x8 : Int32) (x11 : Int32) (y0 : Int64) (y1 : Int64) (s : cS) : Option (((Int64 × Int32) × cS) ⊕ (((Int64 × Int32) × cS) ⊕ (((Int64 × Int32) × cS) ⊕ (Int64 × cS)))) :=
  some (.inl (((y0 + y1), (x11 + (1 : Int32))), s))
set_option maxRecDepth 20000 in
set_option maxHeartbeats 4000000 in
theorem ok_j_X12_first_158 {g : pG} {l : Launch} {F : pF} {x1 : Int32} {x2 : Int64} {x4 : Int32} {x5 : Int32} {x6 : Int64} {x8 : Int32} {x11 : Int32} {y0 : Int64} {y1 : Int64} {s : cS} {x : (((Int64 × Int32) × cS) ⊕ (((Int64 × Int32) × cS) ⊕ (((Int64 × Int32) × cS) ⊕ (Int64 × cS))))} (h : j_X12_first_158 x1 x2 x4 x5 x6 x8 x11 y0 y1 s = some x) (hx : (KL (fun (v : (Int64 × Int32) × cS) => PW g l (pRoom 1 0 0) M_X12_first F 88 [(0, .ref 193), (1, .int x1), (2, .long x2), (4, .int x4), (5, .int x5), (6, .long x6), (8, .int x8), (9, .long v.1.1), (11, .int v.1.2)] [] (tS v.2) 0 0) (KL (fun (v : (Int64 × Int32) × cS) => PW g l (pRoom 1 0 0) M_X12_first F 54 [(0, .ref 193), (1, .int x1), (2, .long x2), (4, .int x4), (5, .int x5), (6, .long v.1.1), (8, .int v.1.2)] [] (tS v.2) 0 0) (KL (fun (v : (Int64 × Int32) × cS) => PW g l (pRoom 1 0 0) M_X12_first F 5 [(0, .ref 193), (1, .int x1), (2, .long v.1.1), (4, .int v.1.2)] [] (tS v.2) 0 0) (fun q => F = pE g (some (.long q.1)) (tS q.2) 0 0)))) x) : PW g l (pRoom 1 0 0) M_X12_first F 158 [(0, .ref 193), (1, .int x1), (2, .long x2), (4, .int x4), (5, .int x5), (6, .long x6), (8, .int x8), (11, .int x11)] [.long y1, .long y0] (tS s) 0 0 := by
  unfold j_X12_first_158 at h
  refine PW.ladd dX12_first_158 ?_
  refine PW.lstore dX12_first_159 (Nat.le_of_ble_eq_true rfl) rfl ?_
  refine PW.iinc (v := (x11 + (1 : Int32))) 8 dX12_first_161 rfl (by first | rfl | decide) (Nat.le_of_ble_eq_true rfl) rfl ?_
  refine PW.goto (tgt := 88) dX12_first_164 (by decide) ?_
  cases h
  exact PW.pick [2, 3, 4, 5, 6, 7, 8, 1, 0] rfl hx
def j_X12_first_141 (x1 : Int32) (x2 : Int64) (x4 : Int32) (x5 : Int32) (x6 : Int64) (x8 : Int32) (x11 : Int32) (y0 : Int64) (s : cS) : Option (((Int64 × Int32) × cS) ⊕ (((Int64 × Int32) × cS) ⊕ (((Int64 × Int32) × cS) ⊕ (Int64 × cS)))) :=
  if inb (((4 : Int32) * x8) + x11) 32 then
  j_X12_first_158 x1 x2 x4 x5 x6 x8 x11 y0 ((iG s 201 (((4 : Int32) * x8) + x11).toNatClampNeg).toInt64) s
  else none
set_option maxRecDepth 20000 in
set_option maxHeartbeats 4000000 in
theorem ok_j_X12_first_141 {g : pG} {l : Launch} {F : pF} {x1 : Int32} {x2 : Int64} {x4 : Int32} {x5 : Int32} {x6 : Int64} {x8 : Int32} {x11 : Int32} {y0 : Int64} {s : cS} {x : (((Int64 × Int32) × cS) ⊕ (((Int64 × Int32) × cS) ⊕ (((Int64 × Int32) × cS) ⊕ (Int64 × cS))))} (h : j_X12_first_141 x1 x2 x4 x5 x6 x8 x11 y0 s = some x) (hx : (KL (fun (v : (Int64 × Int32) × cS) => PW g l (pRoom 1 0 0) M_X12_first F 88 [(0, .ref 193), (1, .int x1), (2, .long x2), (4, .int x4), (5, .int x5), (6, .long x6), (8, .int x8), (9, .long v.1.1), (11, .int v.1.2)] [] (tS v.2) 0 0) (KL (fun (v : (Int64 × Int32) × cS) => PW g l (pRoom 1 0 0) M_X12_first F 54 [(0, .ref 193), (1, .int x1), (2, .long x2), (4, .int x4), (5, .int x5), (6, .long v.1.1), (8, .int v.1.2)] [] (tS v.2) 0 0) (KL (fun (v : (Int64 × Int32) × cS) => PW g l (pRoom 1 0 0) M_X12_first F 5 [(0, .ref 193), (1, .int x1), (2, .long v.1.1), (4, .int v.1.2)] [] (tS v.2) 0 0) (fun q => F = pE g (some (.long q.1)) (tS q.2) 0 0)))) x) : PW g l (pRoom 1 0 0) M_X12_first F 141 [(0, .ref 193), (1, .int x1), (2, .long x2), (4, .int x4), (5, .int x5), (6, .long x6), (8, .int x8), (11, .int x11)] [.long y0] (tS s) 0 0 := by
  unfold j_X12_first_141 at h
  refine PW.aload_n 0 0 dX12_first_141 rfl rfl rfl ?_
  refine CW.getr dX12_first_142 fL_X12_32 LA_193 (Or.inr ⟨_, rfl⟩) rfl ?_
  refine PW.iconst (v := 4) dX12_first_145 (by decide) ?_
  refine PW.iload 6 dX12_first_146 rfl ?_
  refine PW.imul dX12_first_148 ?_
  refine PW.iload 7 dX12_first_149 rfl ?_
  refine PW.iadd dX12_first_151 ?_
  by_cases c13 : inb (((4 : Int32) * x8) + x11) 32
  rotate_left
  · have h := ifn h c13; cases h
  replace h := ifp h c13
  refine CW.iald dX12_first_152 LA_201 c13 ?_
  refine PW.i2l dX12_first_153 ?_
  refine PW.goto (tgt := 158) dX12_first_154 (by decide) ?_
  exact PW.pick [0, 1, 2, 3, 4, 5, 6, 7] rfl (ok_j_X12_first_158 h hx)
def j_X12_first_157 (x1 : Int32) (x2 : Int64) (x4 : Int32) (x5 : Int32) (x6 : Int64) (x8 : Int32) (x11 : Int32) (y0 : Int64) (s : cS) : Option (((Int64 × Int32) × cS) ⊕ (((Int64 × Int32) × cS) ⊕ (((Int64 × Int32) × cS) ⊕ (Int64 × cS)))) :=
  j_X12_first_158 x1 x2 x4 x5 x6 x8 x11 y0 (0 : Int64) s
set_option maxRecDepth 20000 in
set_option maxHeartbeats 4000000 in
theorem ok_j_X12_first_157 {g : pG} {l : Launch} {F : pF} {x1 : Int32} {x2 : Int64} {x4 : Int32} {x5 : Int32} {x6 : Int64} {x8 : Int32} {x11 : Int32} {y0 : Int64} {s : cS} {x : (((Int64 × Int32) × cS) ⊕ (((Int64 × Int32) × cS) ⊕ (((Int64 × Int32) × cS) ⊕ (Int64 × cS))))} (h : j_X12_first_157 x1 x2 x4 x5 x6 x8 x11 y0 s = some x) (hx : (KL (fun (v : (Int64 × Int32) × cS) => PW g l (pRoom 1 0 0) M_X12_first F 88 [(0, .ref 193), (1, .int x1), (2, .long x2), (4, .int x4), (5, .int x5), (6, .long x6), (8, .int x8), (9, .long v.1.1), (11, .int v.1.2)] [] (tS v.2) 0 0) (KL (fun (v : (Int64 × Int32) × cS) => PW g l (pRoom 1 0 0) M_X12_first F 54 [(0, .ref 193), (1, .int x1), (2, .long x2), (4, .int x4), (5, .int x5), (6, .long v.1.1), (8, .int v.1.2)] [] (tS v.2) 0 0) (KL (fun (v : (Int64 × Int32) × cS) => PW g l (pRoom 1 0 0) M_X12_first F 5 [(0, .ref 193), (1, .int x1), (2, .long v.1.1), (4, .int v.1.2)] [] (tS v.2) 0 0) (fun q => F = pE g (some (.long q.1)) (tS q.2) 0 0)))) x) : PW g l (pRoom 1 0 0) M_X12_first F 157 [(0, .ref 193), (1, .int x1), (2, .long x2), (4, .int x4), (5, .int x5), (6, .long x6), (8, .int x8), (11, .int x11)] [.long y0] (tS s) 0 0 := by
  unfold j_X12_first_157 at h
  refine PW.lconst (v := 0) dX12_first_157 (by decide) ?_
  exact PW.pick [0, 1, 2, 3, 4, 5, 6, 7] rfl (ok_j_X12_first_158 h hx)
def b_X12_first_88 (x1 : Int32) (x2 : Int64) (x4 : Int32) (x5 : Int32) (x6 : Int64) (x8 : Int32) (x9 : Int64) (x11 : Int32) (s : cS) : Option (((Int64 × Int32) × cS) ⊕ (((Int64 × Int32) × cS) ⊕ (((Int64 × Int32) × cS) ⊕ (Int64 × cS)))) :=
  if inb x8 8 then
  if (iG s 199 x8.toNatClampNeg) ≤ x11 then
    oR (
      j_X12_first_174 x1 x2 x4 x5 (x6 * x9) x8 s)
  else
    if inb (((4 : Int32) * x8) + x11) 32 then
    if (iG s 223 (((4 : Int32) * x8) + x11).toNatClampNeg) = 0 then
      j_X12_first_141 x1 x2 x4 x5 x6 x8 x11 x9 s
    else
      if x5 < (iG s 223 (((4 : Int32) * x8) + x11).toNatClampNeg) then
        j_X12_first_141 x1 x2 x4 x5 x6 x8 x11 x9 s
      else
        if (iG s 223 (((4 : Int32) * x8) + x11).toNatClampNeg) = x5 then
          if x8 ≤ x1 then
            j_X12_first_157 x1 x2 x4 x5 x6 x8 x11 x9 s
          else
            j_X12_first_141 x1 x2 x4 x5 x6 x8 x11 x9 s
        else
          j_X12_first_157 x1 x2 x4 x5 x6 x8 x11 x9 s
    else none
  else none
set_option maxRecDepth 20000 in
set_option maxHeartbeats 4000000 in
theorem ok_b_X12_first_88 {g : pG} {l : Launch} {F : pF} {x1 : Int32} {x2 : Int64} {x4 : Int32} {x5 : Int32} {x6 : Int64} {x8 : Int32} {x9 : Int64} {x11 : Int32} {s : cS} {x : (((Int64 × Int32) × cS) ⊕ (((Int64 × Int32) × cS) ⊕ (((Int64 × Int32) × cS) ⊕ (Int64 × cS))))} (h : b_X12_first_88 x1 x2 x4 x5 x6 x8 x9 x11 s = some x) (hx : (KL (fun (v : (Int64 × Int32) × cS) => PW g l (pRoom 1 0 0) M_X12_first F 88 [(0, .ref 193), (1, .int x1), (2, .long x2), (4, .int x4), (5, .int x5), (6, .long x6), (8, .int x8), (9, .long v.1.1), (11, .int v.1.2)] [] (tS v.2) 0 0) (KL (fun (v : (Int64 × Int32) × cS) => PW g l (pRoom 1 0 0) M_X12_first F 54 [(0, .ref 193), (1, .int x1), (2, .long x2), (4, .int x4), (5, .int x5), (6, .long v.1.1), (8, .int v.1.2)] [] (tS v.2) 0 0) (KL (fun (v : (Int64 × Int32) × cS) => PW g l (pRoom 1 0 0) M_X12_first F 5 [(0, .ref 193), (1, .int x1), (2, .long v.1.1), (4, .int v.1.2)] [] (tS v.2) 0 0) (fun q => F = pE g (some (.long q.1)) (tS q.2) 0 0)))) x) : PW g l (pRoom 1 0 0) M_X12_first F 88 [(0, .ref 193), (1, .int x1), (2, .long x2), (4, .int x4), (5, .int x5), (6, .long x6), (8, .int x8), (9, .long x9), (11, .int x11)] [] (tS s) 0 0 := by
  unfold b_X12_first_88 at h
  refine PW.iload 8 dX12_first_88 rfl ?_
  refine PW.aload_n 0 0 dX12_first_90 rfl rfl rfl ?_
  refine CW.getr dX12_first_91 fL_X12_26 LA_193 (Or.inr ⟨_, rfl⟩) rfl ?_
  refine PW.iload 6 dX12_first_94 rfl ?_
  by_cases c9 : inb x8 8
  rotate_left
  · have h := ifn h c9; cases h
  replace h := ifp h c9
  refine CW.iald dX12_first_96 LA_199 c9 ?_
  refine PW.icmp_ge (tgt := 167) dX12_first_97 (by decide) (fun c10 => ?_) (fun c10 => ?_)
  · replace h := ifp h c10
    obtain ⟨xo, hy, hxo⟩ := oRb h
    clear h
    subst hxo
    replace hx := KLr hx
    have h := hy
    clear hy
    refine PW.lload 5 dX12_first_167 rfl ?_
    refine PW.lload 7 dX12_first_169 rfl ?_
    refine PW.lmul dX12_first_171 ?_
    refine PW.lstore dX12_first_172 (Nat.le_of_ble_eq_true rfl) rfl ?_
    exact PW.pick [1, 2, 3, 4, 5, 0, 6] rfl (ok_j_X12_first_174 h hx)
  · replace h := ifn h c10
    refine PW.aload_n 0 0 dX12_first_100 rfl rfl rfl ?_
    refine CW.getr dX12_first_101 fL_X12_99 LA_193 (Or.inr ⟨_, rfl⟩) rfl ?_
    refine PW.iconst (v := 4) dX12_first_104 (by decide) ?_
    refine PW.iload 6 dX12_first_105 rfl ?_
    refine PW.imul dX12_first_107 ?_
    refine PW.iload 8 dX12_first_108 rfl ?_
    refine PW.iadd dX12_first_110 ?_
    by_cases c11 : inb (((4 : Int32) * x8) + x11) 32
    rotate_left
    · have h := ifn h c11; cases h
    replace h := ifp h c11
    refine CW.iald dX12_first_111 LA_223 c11 ?_
    refine PW.istore dX12_first_112 (Nat.le_of_ble_eq_true rfl) rfl ?_
    refine PW.lload 8 dX12_first_114 rfl ?_
    refine PW.iload 0 dX12_first_116 rfl ?_
    refine PW.if_eq (tgt := 141) dX12_first_118 (by decide) (fun c12 => ?_) (fun c12 => ?_)
    · replace h := ifp h c12
      exact PW.pick [1, 2, 3, 4, 5, 6, 7, 9] rfl (ok_j_X12_first_141 h hx)
    · replace h := ifn h c12
      refine PW.iload 0 dX12_first_121 rfl ?_
      refine PW.iload 5 dX12_first_123 rfl ?_
      refine PW.icmp_gt (tgt := 141) dX12_first_125 (by decide) (fun c14 => ?_) (fun c14 => ?_)
      · replace h := ifp h c14
        exact PW.pick [1, 2, 3, 4, 5, 6, 7, 9] rfl (ok_j_X12_first_141 h hx)
      · replace h := ifn h c14
        refine PW.iload 0 dX12_first_128 rfl ?_
        refine PW.iload 5 dX12_first_130 rfl ?_
        refine PW.icmp_ne (tgt := 157) dX12_first_132 (by decide) (fun c15 => ?_) (fun c15 => ?_)
        · replace h := ifn h c15
          exact PW.pick [1, 2, 3, 4, 5, 6, 7, 9] rfl (ok_j_X12_first_157 h hx)
        · replace h := ifp h c15
          refine PW.iload 7 dX12_first_135 rfl ?_
          refine PW.iload_n 2 1 dX12_first_137 rfl rfl ?_
          refine PW.icmp_le (tgt := 157) dX12_first_138 (by decide) (fun c16 => ?_) (fun c16 => ?_)
          · replace h := ifp h c16
            exact PW.pick [1, 2, 3, 4, 5, 6, 7, 9] rfl (ok_j_X12_first_157 h hx)
          · replace h := ifn h c16
            exact PW.pick [1, 2, 3, 4, 5, 6, 7, 9] rfl (ok_j_X12_first_141 h hx)
def w_X12_first_88 (N : Nat) (x1 : Int32) (x2 : Int64) (x4 : Int32) (x5 : Int32) (x6 : Int64) (x8 : Int32) (x9 : Int64) (x11 : Int32) (s : cS) : Option (((Int64 × Int32) × cS) ⊕ (((Int64 × Int32) × cS) ⊕ (Int64 × cS))) := itr (fun (v : (Int64 × Int32) × cS) => b_X12_first_88 x1 x2 x4 x5 x6 x8 v.1.1 v.1.2 v.2) N ((x9, x11), s)
theorem ok_w_X12_first_88 {g : pG} {l : Launch} {F : pF} {N : Nat} {x1 : Int32} {x2 : Int64} {x4 : Int32} {x5 : Int32} {x6 : Int64} {x8 : Int32} {x9 : Int64} {x11 : Int32} {s : cS} {x : (((Int64 × Int32) × cS) ⊕ (((Int64 × Int32) × cS) ⊕ (Int64 × cS)))} (h : w_X12_first_88 N x1 x2 x4 x5 x6 x8 x9 x11 s = some x) (hx : (KL (fun (v : (Int64 × Int32) × cS) => PW g l (pRoom 1 0 0) M_X12_first F 54 [(0, .ref 193), (1, .int x1), (2, .long x2), (4, .int x4), (5, .int x5), (6, .long v.1.1), (8, .int v.1.2)] [] (tS v.2) 0 0) (KL (fun (v : (Int64 × Int32) × cS) => PW g l (pRoom 1 0 0) M_X12_first F 5 [(0, .ref 193), (1, .int x1), (2, .long v.1.1), (4, .int v.1.2)] [] (tS v.2) 0 0) (fun q => F = pE g (some (.long q.1)) (tS q.2) 0 0))) x) : PW g l (pRoom 1 0 0) M_X12_first F 88 [(0, .ref 193), (1, .int x1), (2, .long x2), (4, .int x4), (5, .int x5), (6, .long x6), (8, .int x8), (9, .long x9), (11, .int x11)] [] (tS s) 0 0 :=
  okIter (P := (fun (v : (Int64 × Int32) × cS) => PW g l (pRoom 1 0 0) M_X12_first F 88 [(0, .ref 193), (1, .int x1), (2, .long x2), (4, .int x4), (5, .int x5), (6, .long x6), (8, .int x8), (9, .long v.1.1), (11, .int v.1.2)] [] (tS v.2) 0 0)) (K := (KL (fun (v : (Int64 × Int32) × cS) => PW g l (pRoom 1 0 0) M_X12_first F 54 [(0, .ref 193), (1, .int x1), (2, .long x2), (4, .int x4), (5, .int x5), (6, .long v.1.1), (8, .int v.1.2)] [] (tS v.2) 0 0) (KL (fun (v : (Int64 × Int32) × cS) => PW g l (pRoom 1 0 0) M_X12_first F 5 [(0, .ref 193), (1, .int x1), (2, .long v.1.1), (4, .int v.1.2)] [] (tS v.2) 0 0) (fun q => F = pE g (some (.long q.1)) (tS q.2) 0 0)))) (fun v y hB hy => ok_b_X12_first_88 hB hy) N ((x9, x11), s) x h hx
def b_X12_first_54 (N : Nat) (x1 : Int32) (x2 : Int64) (x4 : Int32) (x5 : Int32) (x6 : Int64) (x8 : Int32) (s : cS) : Option (((Int64 × Int32) × cS) ⊕ (((Int64 × Int32) × cS) ⊕ (Int64 × cS))) :=
  if (iG s 193 2) ≤ x8 then
    oR (
      j_X12_first_185 x1 (x2 + x6) x4 s)
  else
    if x8 = x1 then
      j_X12_first_174 x1 x2 x4 x5 x6 x8 s
    else
      if inb x8 8 then
      if (iG s 199 x8.toNatClampNeg) = 0 then
        j_X12_first_174 x1 x2 x4 x5 x6 x8 s
      else
        w_X12_first_88 N x1 x2 x4 x5 x6 x8 (0 : Int64) (0 : Int32) s
      else none
set_option maxRecDepth 20000 in
set_option maxHeartbeats 4000000 in
theorem ok_b_X12_first_54 {g : pG} {l : Launch} {F : pF} {N : Nat} {x1 : Int32} {x2 : Int64} {x4 : Int32} {x5 : Int32} {x6 : Int64} {x8 : Int32} {s : cS} {x : (((Int64 × Int32) × cS) ⊕ (((Int64 × Int32) × cS) ⊕ (Int64 × cS)))} (h : b_X12_first_54 N x1 x2 x4 x5 x6 x8 s = some x) (hx : (KL (fun (v : (Int64 × Int32) × cS) => PW g l (pRoom 1 0 0) M_X12_first F 54 [(0, .ref 193), (1, .int x1), (2, .long x2), (4, .int x4), (5, .int x5), (6, .long v.1.1), (8, .int v.1.2)] [] (tS v.2) 0 0) (KL (fun (v : (Int64 × Int32) × cS) => PW g l (pRoom 1 0 0) M_X12_first F 5 [(0, .ref 193), (1, .int x1), (2, .long v.1.1), (4, .int v.1.2)] [] (tS v.2) 0 0) (fun q => F = pE g (some (.long q.1)) (tS q.2) 0 0))) x) : PW g l (pRoom 1 0 0) M_X12_first F 54 [(0, .ref 193), (1, .int x1), (2, .long x2), (4, .int x4), (5, .int x5), (6, .long x6), (8, .int x8)] [] (tS s) 0 0 := by
  unfold b_X12_first_54 at h
  refine PW.iload 6 dX12_first_54 rfl ?_
  refine PW.aload_n 0 0 dX12_first_56 rfl rfl rfl ?_
  refine CW.geti dX12_first_57 fL_X12_161 LA_193 (Or.inl rfl) ?_
  refine PW.icmp_ge (tgt := 180) dX12_first_60 (by decide) (fun c5 => ?_) (fun c5 => ?_)
  · replace h := ifp h c5
    obtain ⟨xo, hy, hxo⟩ := oRb h
    clear h
    subst hxo
    replace hx := KLr hx
    have h := hy
    clear hy
    refine PW.lload_n 2 2 dX12_first_180 rfl rfl ?_
    refine PW.lload 5 dX12_first_181 rfl ?_
    refine PW.ladd dX12_first_183 ?_
    refine PW.lstore_n dX12_first_184 rfl (Nat.le_of_ble_eq_true rfl) rfl ?_
    exact PW.pick [1, 2, 0, 3] rfl (ok_j_X12_first_185 h hx)
  · replace h := ifn h c5
    refine PW.iload 6 dX12_first_63 rfl ?_
    refine PW.iload_n 1 1 dX12_first_65 rfl rfl ?_
    refine PW.icmp_eq (tgt := 174) dX12_first_66 (by decide) (fun c6 => ?_) (fun c6 => ?_)
    · replace h := ifp h c6
      exact PW.pick [0, 1, 2, 3, 4, 5, 6] rfl (ok_j_X12_first_174 h hx)
    · replace h := ifn h c6
      refine PW.aload_n 0 0 dX12_first_69 rfl rfl rfl ?_
      refine CW.getr dX12_first_70 fL_X12_26 LA_193 (Or.inr ⟨_, rfl⟩) rfl ?_
      refine PW.iload 6 dX12_first_73 rfl ?_
      by_cases c7 : inb x8 8
      rotate_left
      · have h := ifn h c7; cases h
      replace h := ifp h c7
      refine CW.iald dX12_first_75 LA_199 c7 ?_
      refine PW.if_ne (tgt := 82) dX12_first_76 (by decide) (fun c8 => ?_) (fun c8 => ?_)
      · replace h := ifn h c8
        refine PW.lconst (v := 0) dX12_first_82 (by decide) ?_
        refine PW.lstore dX12_first_83 (Nat.le_of_ble_eq_true rfl) rfl ?_
        refine PW.iconst (v := 0) dX12_first_85 (by decide) ?_
        refine PW.istore dX12_first_86 (Nat.le_of_ble_eq_true rfl) rfl ?_
        exact PW.pick [2, 3, 4, 5, 6, 7, 8, 1, 0] rfl (ok_w_X12_first_88 h hx)
      · replace h := ifp h c8
        refine PW.goto (tgt := 174) dX12_first_79 (by decide) ?_
        exact PW.pick [0, 1, 2, 3, 4, 5, 6] rfl (ok_j_X12_first_174 h hx)
def w_X12_first_54 (N : Nat) (x1 : Int32) (x2 : Int64) (x4 : Int32) (x5 : Int32) (x6 : Int64) (x8 : Int32) (s : cS) : Option (((Int64 × Int32) × cS) ⊕ (Int64 × cS)) := itr (fun (v : (Int64 × Int32) × cS) => b_X12_first_54 N x1 x2 x4 x5 v.1.1 v.1.2 v.2) N ((x6, x8), s)
theorem ok_w_X12_first_54 {g : pG} {l : Launch} {F : pF} {N : Nat} {x1 : Int32} {x2 : Int64} {x4 : Int32} {x5 : Int32} {x6 : Int64} {x8 : Int32} {s : cS} {x : (((Int64 × Int32) × cS) ⊕ (Int64 × cS))} (h : w_X12_first_54 N x1 x2 x4 x5 x6 x8 s = some x) (hx : (KL (fun (v : (Int64 × Int32) × cS) => PW g l (pRoom 1 0 0) M_X12_first F 5 [(0, .ref 193), (1, .int x1), (2, .long v.1.1), (4, .int v.1.2)] [] (tS v.2) 0 0) (fun q => F = pE g (some (.long q.1)) (tS q.2) 0 0)) x) : PW g l (pRoom 1 0 0) M_X12_first F 54 [(0, .ref 193), (1, .int x1), (2, .long x2), (4, .int x4), (5, .int x5), (6, .long x6), (8, .int x8)] [] (tS s) 0 0 :=
  okIter (P := (fun (v : (Int64 × Int32) × cS) => PW g l (pRoom 1 0 0) M_X12_first F 54 [(0, .ref 193), (1, .int x1), (2, .long x2), (4, .int x4), (5, .int x5), (6, .long v.1.1), (8, .int v.1.2)] [] (tS v.2) 0 0)) (K := (KL (fun (v : (Int64 × Int32) × cS) => PW g l (pRoom 1 0 0) M_X12_first F 5 [(0, .ref 193), (1, .int x1), (2, .long v.1.1), (4, .int v.1.2)] [] (tS v.2) 0 0) (fun q => F = pE g (some (.long q.1)) (tS q.2) 0 0))) (fun v y hB hy => ok_b_X12_first_54 hB hy) N ((x6, x8), s) x h hx
def b_X12_first_5 (N : Nat) (x1 : Int32) (x2 : Int64) (x4 : Int32) (s : cS) : Option (((Int64 × Int32) × cS) ⊕ (Int64 × cS)) :=
  if inb x1 8 then
  if (iG s 199 x1.toNatClampNeg) ≤ x4 then
    oR (
      some ((x2, s)))
  else
    if inb (((4 : Int32) * x1) + x4) 32 then
    if (iG s 223 (((4 : Int32) * x1) + x4).toNatClampNeg) = 0 then
      j_X12_first_185 x1 x2 x4 s
    else
      w_X12_first_54 N x1 x2 x4 (iG s 223 (((4 : Int32) * x1) + x4).toNatClampNeg) ((iG s 201 (((4 : Int32) * x1) + x4).toNatClampNeg).toInt64) (0 : Int32) s
    else none
  else none
set_option maxRecDepth 20000 in
set_option maxHeartbeats 4000000 in
theorem ok_b_X12_first_5 {g : pG} {l : Launch} {F : pF} {N : Nat} {x1 : Int32} {x2 : Int64} {x4 : Int32} {s : cS} {x : (((Int64 × Int32) × cS) ⊕ (Int64 × cS))} (h : b_X12_first_5 N x1 x2 x4 s = some x) (hx : (KL (fun (v : (Int64 × Int32) × cS) => PW g l (pRoom 1 0 0) M_X12_first F 5 [(0, .ref 193), (1, .int x1), (2, .long v.1.1), (4, .int v.1.2)] [] (tS v.2) 0 0) (fun q => F = pE g (some (.long q.1)) (tS q.2) 0 0)) x) : PW g l (pRoom 1 0 0) M_X12_first F 5 [(0, .ref 193), (1, .int x1), (2, .long x2), (4, .int x4)] [] (tS s) 0 0 := by
  unfold b_X12_first_5 at h
  refine PW.iload 3 dX12_first_5 rfl ?_
  refine PW.aload_n 0 0 dX12_first_7 rfl rfl rfl ?_
  refine CW.getr dX12_first_8 fL_X12_26 LA_193 (Or.inr ⟨_, rfl⟩) rfl ?_
  refine PW.iload_n 1 1 dX12_first_11 rfl rfl ?_
  by_cases c1 : inb x1 8
  rotate_left
  · have h := ifn h c1; cases h
  replace h := ifp h c1
  refine CW.iald dX12_first_12 LA_199 c1 ?_
  refine PW.icmp_ge (tgt := 191) dX12_first_13 (by decide) (fun c2 => ?_) (fun c2 => ?_)
  · replace h := ifp h c2
    obtain ⟨xo, hy, hxo⟩ := oRb h
    clear h
    subst hxo
    replace hx := KLr hx
    have h := hy
    clear hy
    refine PW.lload_n 2 2 dX12_first_191 rfl rfl ?_
    cases h
    subst hx
    exact PW.lret dX12_first_192 rfl (Nat.le_refl 0) (Nat.le_refl 0)
  · replace h := ifn h c2
    refine PW.aload_n 0 0 dX12_first_16 rfl rfl rfl ?_
    refine CW.getr dX12_first_17 fL_X12_99 LA_193 (Or.inr ⟨_, rfl⟩) rfl ?_
    refine PW.iconst (v := 4) dX12_first_20 (by decide) ?_
    refine PW.iload_n 1 1 dX12_first_21 rfl rfl ?_
    refine PW.imul dX12_first_22 ?_
    refine PW.iload 3 dX12_first_23 rfl ?_
    refine PW.iadd dX12_first_25 ?_
    by_cases c3 : inb (((4 : Int32) * x1) + x4) 32
    rotate_left
    · have h := ifn h c3; cases h
    replace h := ifp h c3
    refine CW.iald dX12_first_26 LA_223 c3 ?_
    refine PW.istore dX12_first_27 (Nat.le_of_ble_eq_true rfl) rfl ?_
    refine PW.iload 0 dX12_first_29 rfl ?_
    refine PW.if_ne (tgt := 37) dX12_first_31 (by decide) (fun c4 => ?_) (fun c4 => ?_)
    · replace h := ifn h c4
      refine PW.aload_n 1 0 dX12_first_37 rfl rfl rfl ?_
      refine CW.getr dX12_first_38 fL_X12_32 LA_193 (Or.inr ⟨_, rfl⟩) rfl ?_
      refine PW.iconst (v := 4) dX12_first_41 (by decide) ?_
      refine PW.iload_n 2 1 dX12_first_42 rfl rfl ?_
      refine PW.imul dX12_first_43 ?_
      refine PW.iload 4 dX12_first_44 rfl ?_
      refine PW.iadd dX12_first_46 ?_
      refine CW.iald dX12_first_47 LA_201 c3 ?_
      refine PW.i2l dX12_first_48 ?_
      refine PW.lstore dX12_first_49 (Nat.le_of_ble_eq_true rfl) rfl ?_
      refine PW.iconst (v := 0) dX12_first_51 (by decide) ?_
      refine PW.istore dX12_first_52 (Nat.le_of_ble_eq_true rfl) rfl ?_
      exact PW.pick [3, 4, 5, 6, 2, 1, 0] rfl (ok_w_X12_first_54 h hx)
    · replace h := ifp h c4
      refine PW.goto (tgt := 185) dX12_first_34 (by decide) ?_
      exact PW.pick [1, 2, 3, 4] rfl (ok_j_X12_first_185 h hx)
def w_X12_first_5 (N : Nat) (x1 : Int32) (x2 : Int64) (x4 : Int32) (s : cS) : Option (Int64 × cS) := itr (fun (v : (Int64 × Int32) × cS) => b_X12_first_5 N x1 v.1.1 v.1.2 v.2) N ((x2, x4), s)
theorem ok_w_X12_first_5 {g : pG} {l : Launch} {F : pF} {N : Nat} {x1 : Int32} {x2 : Int64} {x4 : Int32} {s : cS} {x : (Int64 × cS)} (h : w_X12_first_5 N x1 x2 x4 s = some x) (hx : (fun q => F = pE g (some (.long q.1)) (tS q.2) 0 0) x) : PW g l (pRoom 1 0 0) M_X12_first F 5 [(0, .ref 193), (1, .int x1), (2, .long x2), (4, .int x4)] [] (tS s) 0 0 :=
  okIter (P := (fun (v : (Int64 × Int32) × cS) => PW g l (pRoom 1 0 0) M_X12_first F 5 [(0, .ref 193), (1, .int x1), (2, .long v.1.1), (4, .int v.1.2)] [] (tS v.2) 0 0)) (K := (fun q => F = pE g (some (.long q.1)) (tS q.2) 0 0)) (fun v y hB hy => ok_b_X12_first_5 hB hy) N ((x2, x4), s) x h hx
def f_X12_first (N : Nat) (a0 : Int32) (s : cS) : Option (Int64 × cS) :=
  w_X12_first_5 N a0 (0 : Int64) (0 : Int32) s
set_option maxRecDepth 20000 in
set_option maxHeartbeats 4000000 in
theorem p_X12_first {g : pG} {l : Launch} {N : Nat} {a0 : Int32} {s : cS} {q : Int64 × cS} (h : f_X12_first N a0 s = some q) : PM g l 1 M_X12_first [.ref 193, .int a0] (tS s) (some (.long q.1)) (tS q.2) 0 0 := by
  refine PM.of (by decide +kernel) (Nat.le_of_ble_eq_true rfl) ?_
  show PW g l (pRoom 1 0 0) M_X12_first _ 0 [(0, .ref 193), (1, .int a0)] [] (tS s) 0 0
  unfold f_X12_first at h
  generalize hF : pE g (some (.long q.1)) (tS q.2) 0 0 = F
  have hx := hF.symm
  refine PW.lconst (v := 0) dX12_first_0 (by decide) ?_
  refine PW.lstore_n dX12_first_1 rfl (Nat.le_of_ble_eq_true rfl) rfl ?_
  refine PW.iconst (v := 0) dX12_first_2 (by decide) ?_
  refine PW.istore dX12_first_3 (Nat.le_of_ble_eq_true rfl) rfl ?_
  exact PW.pick [2, 3, 1, 0] rfl (ok_w_X12_first_5 h hx)
/-! X12_canFly -/
def f_X12_canFly (a0 : Int32) (a1 : Int32) (a2 : Int32) (s : cS) : Option (Int32 × cS) :=
  if (f_X12_isProgram a0 s) = 0 then
    some (((0 : Int32), s))
  else
    if (f_X12_isPressure a1 s) = 0 then
      some (((0 : Int32), s))
    else
      if inb a0 16 then
      if (f_X12_isIn a2.toInt64 (0 : Int64) (((2000 : Int32) - (iG s 220 a0.toNatClampNeg)).toInt64) s) = 0 then
        some (((0 : Int32), s))
      else
        some (((1 : Int32), s))
      else none
set_option maxRecDepth 20000 in
set_option maxHeartbeats 4000000 in
theorem p_X12_canFly {g : pG} {l : Launch} {a0 : Int32} {a1 : Int32} {a2 : Int32} {s : cS} {q : Int32 × cS} (h : f_X12_canFly a0 a1 a2 s = some q) : PM g l 3 M_X12_canFly [.ref 193, .int a0, .int a1, .int a2] (tS s) (some (.int q.1)) (tS q.2) 0 0 := by
  refine PM.of (by decide +kernel) (Nat.le_of_ble_eq_true rfl) ?_
  show PW g l (pRoom 3 0 0) M_X12_canFly _ 0 [(0, .ref 193), (1, .int a0), (2, .int a1), (3, .int a2)] [] (tS s) 0 0
  unfold f_X12_canFly at h
  generalize hF : pE g (some (.int q.1)) (tS q.2) 0 0 = F
  have hx := hF.symm
  refine PW.iload_n 1 1 dX12_canFly_0 rfl rfl ?_
  refine CW.callSi (st := []) [.int a0] dX12_canFly_1 (p_X12_isProgram rfl) MS_X12_isProgram mL_X12_356 rfl rfl (Nat.le_of_ble_eq_true rfl) (by first | decide | omega) ?_
  refine PW.if_eq (tgt := 38) dX12_canFly_4 (by decide) (fun c2 => ?_) (fun c2 => ?_)
  · replace h := ifp h c2
    refine PW.iconst (v := 0) dX12_canFly_38 (by decide) ?_
    cases h
    subst hx
    exact PW.iret dX12_canFly_39 rfl (narZ (Or.inl rfl)) (Nat.le_refl 0) (Nat.le_refl 0)
  · replace h := ifn h c2
    refine PW.iload_n 2 2 dX12_canFly_7 rfl rfl ?_
    refine CW.callSi (st := []) [.int a1] dX12_canFly_8 (p_X12_isPressure rfl) MS_X12_isPressure mL_X12_345 rfl rfl (Nat.le_of_ble_eq_true rfl) (by first | decide | omega) ?_
    refine PW.if_eq (tgt := 38) dX12_canFly_11 (by decide) (fun c4 => ?_) (fun c4 => ?_)
    · replace h := ifp h c4
      refine PW.iconst (v := 0) dX12_canFly_38 (by decide) ?_
      cases h
      subst hx
      exact PW.iret dX12_canFly_39 rfl (narZ (Or.inl rfl)) (Nat.le_refl 0) (Nat.le_refl 0)
    · replace h := ifn h c4
      refine PW.iload_n 3 3 dX12_canFly_14 rfl rfl ?_
      refine PW.i2l dX12_canFly_15 ?_
      refine PW.lconst (v := 0) dX12_canFly_16 (by decide) ?_
      refine PW.sipush (v := 2000) dX12_canFly_17 (by decide) ?_
      refine PW.aload_n 0 0 dX12_canFly_20 rfl rfl rfl ?_
      refine CW.getr dX12_canFly_21 fL_X12_90 LA_193 (Or.inr ⟨_, rfl⟩) rfl ?_
      refine PW.iload_n 1 1 dX12_canFly_24 rfl rfl ?_
      by_cases c5 : inb a0 16
      rotate_left
      · have h := ifn h c5; cases h
      replace h := ifp h c5
      refine CW.iald dX12_canFly_25 LA_220 c5 ?_
      refine PW.isub dX12_canFly_26 ?_
      refine PW.i2l dX12_canFly_27 ?_
      refine CW.callSi (st := []) [.long a2.toInt64, .long (0 : Int64), .long ((2000 : Int32) - (iG s 220 a0.toNatClampNeg)).toInt64] dX12_canFly_28 (p_X12_isIn rfl) MS_X12_isIn mL_X12_164 rfl rfl (Nat.le_of_ble_eq_true rfl) (by first | decide | omega) ?_
      refine PW.if_eq (tgt := 38) dX12_canFly_31 (by decide) (fun c7 => ?_) (fun c7 => ?_)
      · replace h := ifp h c7
        refine PW.iconst (v := 0) dX12_canFly_38 (by decide) ?_
        cases h
        subst hx
        exact PW.iret dX12_canFly_39 rfl (narZ (Or.inl rfl)) (Nat.le_refl 0) (Nat.le_refl 0)
      · replace h := ifn h c7
        refine PW.iconst (v := 1) dX12_canFly_34 (by decide) ?_
        refine PW.goto (tgt := 39) dX12_canFly_35 (by decide) ?_
        cases h
        subst hx
        exact PW.iret dX12_canFly_39 rfl (narZ (Or.inr rfl)) (Nat.le_refl 0) (Nat.le_refl 0)
/-! X12_odds -/
def j_X12_odds_36 (N : Nat) (x1 : Int32) (x2 : Int32) (x3 : Int32) (x4 : Int32) (s : cS) : Option (Int64 × cS) :=
  ob (f_X12_all N (f_X12_whole s) x1 x2 x3 s) fun r7 s8 =>
  if x4 = (-1 : Int32) then
    ob (f_X12_waysOf N (f_X12_whole s8) s8) fun r24 s25 =>
    some ((r24, s25))
  else
    if x4 = (8 : Int32) then
      ob (f_X12_waysOf N (f_X12_whole s8) s8) fun r16 s17 =>
      ob (f_X12_waysLeft N (f_X12_whole s17) (2000 : Int32) s17) fun r20 s21 =>
      some (((r16 - r20), s21))
    else
      ob (f_X12_first N x4 s8) fun r12 s13 =>
      some ((r12, s13))
set_option maxRecDepth 20000 in
set_option maxHeartbeats 4000000 in
theorem ok_j_X12_odds_36 {g : pG} {l : Launch} {F : pF} {N : Nat} {x1 : Int32} {x2 : Int32} {x3 : Int32} {x4 : Int32} {s : cS} {x : (Int64 × cS)} (h : j_X12_odds_36 N x1 x2 x3 x4 s = some x) (hx : (fun q => F = pE g (some (.long q.1)) (tS q.2) 0 0) x) : PW g l (pRoom 8 0 0) M_X12_odds F 36 [(0, .ref 193), (1, .int x1), (2, .int x2), (3, .int x3), (4, .int x4)] [] (tS s) 0 0 := by
  unfold j_X12_odds_36 at h
  refine PW.aload_n 0 0 dX12_odds_36 rfl rfl rfl ?_
  refine PW.aload_n 0 0 dX12_odds_37 rfl rfl rfl ?_
  refine CW.callVi (ci := 12) (st := [.ref 193]) [] dX12_odds_38 (p_X12_whole rfl) MV_X12_whole mL_X12_390 (by decide) rfl LA_193 rfl rfl (Nat.le_of_ble_eq_true rfl) (by first | decide | omega) ?_
  refine PW.iload_n 1 1 dX12_odds_41 rfl rfl ?_
  refine PW.iload_n 2 2 dX12_odds_42 rfl rfl ?_
  refine PW.iload_n 3 3 dX12_odds_43 rfl rfl ?_
  obtain ⟨r7, s8, q9, h⟩ := obnd h
  refine CW.callVv (ci := 12) (st := []) [.int (f_X12_whole s), .int x1, .int x2, .int x3] dX12_odds_44 (p_X12_all q9) MV_X12_all mL_X12_393 (by decide) rfl LA_193 rfl rfl (Nat.le_of_ble_eq_true rfl) (by first | decide | omega) ?_
  refine PW.iload 4 dX12_odds_47 rfl ?_
  refine PW.iconst (v := (-1)) dX12_odds_49 (by decide) ?_
  refine PW.icmp_ne (tgt := 64) dX12_odds_50 (by decide) (fun c10 => ?_) (fun c10 => ?_)
  · replace h := ifn h c10
    refine PW.iload 4 dX12_odds_64 rfl ?_
    refine PW.bipush (v := 8) dX12_odds_66 (by decide) ?_
    refine PW.icmp_ne (tgt := 94) dX12_odds_68 (by decide) (fun c11 => ?_) (fun c11 => ?_)
    · replace h := ifn h c11
      refine PW.aload_n 0 0 dX12_odds_94 rfl rfl rfl ?_
      refine PW.iload 4 dX12_odds_95 rfl ?_
      obtain ⟨r12, s13, q14, h⟩ := obnd h
      refine CW.callVl (ci := 12) (st := []) [.int x4] dX12_odds_97 (p_X12_first q14) MV_X12_first mL_X12_405 (by decide) rfl LA_193 rfl rfl (Nat.le_of_ble_eq_true rfl) (by first | decide | omega) ?_
      cases h
      subst hx
      exact PW.lret dX12_odds_100 rfl (Nat.le_refl 0) (Nat.le_refl 0)
    · replace h := ifp h c11
      refine PW.aload_n 0 0 dX12_odds_71 rfl rfl rfl ?_
      refine PW.aload_n 0 0 dX12_odds_72 rfl rfl rfl ?_
      refine CW.callVi (ci := 12) (st := [.ref 193]) [] dX12_odds_73 (p_X12_whole rfl) MV_X12_whole mL_X12_390 (by decide) rfl LA_193 rfl rfl (Nat.le_of_ble_eq_true rfl) (by first | decide | omega) ?_
      obtain ⟨r16, s17, q18, h⟩ := obnd h
      refine CW.callVl (ci := 12) (st := []) [.int (f_X12_whole s8)] dX12_odds_76 (p_X12_waysOf q18) MV_X12_waysOf mL_X12_397 (by decide) rfl LA_193 rfl rfl (Nat.le_of_ble_eq_true rfl) (by first | decide | omega) ?_
      refine PW.aload_n 0 0 dX12_odds_79 rfl rfl rfl ?_
      refine PW.aload_n 0 0 dX12_odds_80 rfl rfl rfl ?_
      refine CW.callVi (ci := 12) (st := [.ref 193, .long r16]) [] dX12_odds_81 (p_X12_whole rfl) MV_X12_whole mL_X12_390 (by decide) rfl LA_193 rfl rfl (Nat.le_of_ble_eq_true rfl) (by first | decide | omega) ?_
      refine PW.sipush (v := 2000) dX12_odds_84 (by decide) ?_
      obtain ⟨r20, s21, q22, h⟩ := obnd h
      refine CW.callVl (ci := 12) (st := [.long r16]) [.int (f_X12_whole s17), .int (2000 : Int32)] dX12_odds_87 (p_X12_waysLeft q22) MV_X12_waysLeft mL_X12_401 (by decide) rfl LA_193 rfl rfl (Nat.le_of_ble_eq_true rfl) (by first | decide | omega) ?_
      refine PW.lsub dX12_odds_90 ?_
      refine PW.goto (tgt := 100) dX12_odds_91 (by decide) ?_
      cases h
      subst hx
      exact PW.lret dX12_odds_100 rfl (Nat.le_refl 0) (Nat.le_refl 0)
  · replace h := ifp h c10
    refine PW.aload_n 0 0 dX12_odds_53 rfl rfl rfl ?_
    refine PW.aload_n 0 0 dX12_odds_54 rfl rfl rfl ?_
    refine CW.callVi (ci := 12) (st := [.ref 193]) [] dX12_odds_55 (p_X12_whole rfl) MV_X12_whole mL_X12_390 (by decide) rfl LA_193 rfl rfl (Nat.le_of_ble_eq_true rfl) (by first | decide | omega) ?_
    obtain ⟨r24, s25, q26, h⟩ := obnd h
    refine CW.callVl (ci := 12) (st := []) [.int (f_X12_whole s8)] dX12_odds_58 (p_X12_waysOf q26) MV_X12_waysOf mL_X12_397 (by decide) rfl LA_193 rfl rfl (Nat.le_of_ble_eq_true rfl) (by first | decide | omega) ?_
    refine PW.goto (tgt := 100) dX12_odds_61 (by decide) ?_
    cases h
    subst hx
    exact PW.lret dX12_odds_100 rfl (Nat.le_refl 0) (Nat.le_refl 0)
def f_X12_odds (N : Nat) (a0 : Int32) (a1 : Int32) (a2 : Int32) (a3 : Int32) (s : cS) : Option (Int64 × cS) :=
  ob (f_X12_canFly a0 a1 a2 s) fun r1 s2 =>
  if r1 = 0 then
    some (((-1 : Int64), s2))
  else
    if a3 = (-1 : Int32) then
      j_X12_odds_36 N a0 a1 a2 a3 s2
    else
      if a3 = (8 : Int32) then
        j_X12_odds_36 N a0 a1 a2 a3 s2
      else
        if (f_X12_isCorner a3 s2) = 0 then
          some (((-1 : Int64), s2))
        else
          j_X12_odds_36 N a0 a1 a2 a3 s2
set_option maxRecDepth 20000 in
set_option maxHeartbeats 4000000 in
theorem p_X12_odds {g : pG} {l : Launch} {N : Nat} {a0 : Int32} {a1 : Int32} {a2 : Int32} {a3 : Int32} {s : cS} {q : Int64 × cS} (h : f_X12_odds N a0 a1 a2 a3 s = some q) : PM g l 8 M_X12_odds [.ref 193, .int a0, .int a1, .int a2, .int a3] (tS s) (some (.long q.1)) (tS q.2) 0 0 := by
  refine PM.of (by decide +kernel) (Nat.le_of_ble_eq_true rfl) ?_
  show PW g l (pRoom 8 0 0) M_X12_odds _ 0 [(0, .ref 193), (1, .int a0), (2, .int a1), (3, .int a2), (4, .int a3)] [] (tS s) 0 0
  unfold f_X12_odds at h
  generalize hF : pE g (some (.long q.1)) (tS q.2) 0 0 = F
  have hx := hF.symm
  refine PW.aload_n 0 0 dX12_odds_0 rfl rfl rfl ?_
  refine PW.iload_n 1 1 dX12_odds_1 rfl rfl ?_
  refine PW.iload_n 2 2 dX12_odds_2 rfl rfl ?_
  refine PW.iload_n 3 3 dX12_odds_3 rfl rfl ?_
  obtain ⟨r1, s2, q3, h⟩ := obnd h
  refine CW.callVi (ci := 12) (st := []) [.int a0, .int a1, .int a2] dX12_odds_4 (p_X12_canFly q3) MV_X12_canFly mL_X12_384 (by decide) rfl LA_193 rfl rfl (Nat.le_of_ble_eq_true rfl) (by first | decide | omega) ?_
  refine PW.if_eq (tgt := 32) dX12_odds_7 (by decide) (fun c4 => ?_) (fun c4 => ?_)
  · replace h := ifp h c4
    refine PW.ldc2_w dX12_odds_32 kL_X12_388 ?_
    cases h
    subst hx
    exact PW.lret dX12_odds_35 rfl (Nat.le_refl 0) (Nat.le_refl 0)
  · replace h := ifn h c4
    refine PW.iload 4 dX12_odds_10 rfl ?_
    refine PW.iconst (v := (-1)) dX12_odds_12 (by decide) ?_
    refine PW.icmp_eq (tgt := 36) dX12_odds_13 (by decide) (fun c5 => ?_) (fun c5 => ?_)
    · replace h := ifp h c5
      exact PW.pick [0, 1, 2, 3, 4] rfl (ok_j_X12_odds_36 h hx)
    · replace h := ifn h c5
      refine PW.iload 4 dX12_odds_16 rfl ?_
      refine PW.bipush (v := 8) dX12_odds_18 (by decide) ?_
      refine PW.icmp_eq (tgt := 36) dX12_odds_20 (by decide) (fun c27 => ?_) (fun c27 => ?_)
      · replace h := ifp h c27
        exact PW.pick [0, 1, 2, 3, 4] rfl (ok_j_X12_odds_36 h hx)
      · replace h := ifn h c27
        refine PW.aload_n 0 0 dX12_odds_23 rfl rfl rfl ?_
        refine PW.iload 4 dX12_odds_24 rfl ?_
        refine CW.callVi (ci := 12) (st := []) [.int a3] dX12_odds_26 (p_X12_isCorner rfl) MV_X12_isCorner mL_X12_177 (by decide) rfl LA_193 rfl rfl (Nat.le_of_ble_eq_true rfl) (by first | decide | omega) ?_
        refine PW.if_ne (tgt := 36) dX12_odds_29 (by decide) (fun c29 => ?_) (fun c29 => ?_)
        · replace h := ifn h c29
          exact PW.pick [0, 1, 2, 3, 4] rfl (ok_j_X12_odds_36 h hx)
        · replace h := ifp h c29
          refine PW.ldc2_w dX12_odds_32 kL_X12_388 ?_
          cases h
          subst hx
          exact PW.lret dX12_odds_35 rfl (Nat.le_refl 0) (Nat.le_refl 0)
/-! X12_divisor -/
def b_X12_divisor_6 (x4 : Int64) (x6 : Int64) (s : cS) : Option (((Int64 × Int64) × cS) ⊕ (Int64 × cS)) :=
  if (lg_cmp x6 (0 : Int64)) = 0 then
    oR (
      some ((x4, s)))
  else
    if x6 = 0 then none else
    some (.inl ((x6, (x4 - x4 / x6 * x6)), s))
set_option maxRecDepth 20000 in
set_option maxHeartbeats 4000000 in
theorem ok_b_X12_divisor_6 {g : pG} {l : Launch} {F : pF} {x4 : Int64} {x6 : Int64} {s : cS} {x : (((Int64 × Int64) × cS) ⊕ (Int64 × cS))} (h : b_X12_divisor_6 x4 x6 s = some x) (hx : (KL (fun (v : (Int64 × Int64) × cS) => PW g l (pRoom 1 0 0) M_X12_divisor F 6 [(4, .long v.1.1), (6, .long v.1.2)] [] (tS v.2) 0 0) (fun q => F = pE g (some (.long q.1)) (tS q.2) 0 0)) x) : PW g l (pRoom 1 0 0) M_X12_divisor F 6 [(4, .long x4), (6, .long x6)] [] (tS s) 0 0 := by
  unfold b_X12_divisor_6 at h
  refine PW.lload 1 dX12_divisor_6 rfl ?_
  refine PW.lconst (v := 0) dX12_divisor_8 (by decide) ?_
  refine PW.lcmp dX12_divisor_9 ?_
  refine PW.if_eq (tgt := 31) dX12_divisor_10 (by decide) (fun c1 => ?_) (fun c1 => ?_)
  · replace h := ifp h c1
    obtain ⟨xo, hy, hxo⟩ := oRb h
    clear h
    subst hxo
    replace hx := KLr hx
    have h := hy
    clear hy
    refine PW.lload 0 dX12_divisor_31 rfl ?_
    cases h
    subst hx
    exact PW.lret dX12_divisor_33 rfl (Nat.le_refl 0) (Nat.le_refl 0)
  · replace h := ifn h c1
    refine PW.lload 0 dX12_divisor_13 rfl ?_
    refine PW.lload 1 dX12_divisor_15 rfl ?_
    by_cases c2 : x6 = 0
    · have h := ifp h c2; cases h
    replace h := ifn h c2
    refine PW.lrem dX12_divisor_17 c2 ?_
    refine PW.lstore dX12_divisor_18 (Nat.le_of_ble_eq_true rfl) rfl ?_
    refine PW.lload 2 dX12_divisor_20 rfl ?_
    refine PW.lstore dX12_divisor_22 (Nat.le_of_ble_eq_true rfl) rfl ?_
    refine PW.lload 1 dX12_divisor_24 rfl ?_
    refine PW.lstore dX12_divisor_26 (Nat.le_of_ble_eq_true rfl) rfl ?_
    refine PW.goto (tgt := 6) dX12_divisor_28 (by decide) ?_
    cases h
    exact PW.pick [1, 0] rfl hx
def w_X12_divisor_6 (N : Nat) (x4 : Int64) (x6 : Int64) (s : cS) : Option (Int64 × cS) := itr (fun (v : (Int64 × Int64) × cS) => b_X12_divisor_6 v.1.1 v.1.2 v.2) N ((x4, x6), s)
theorem ok_w_X12_divisor_6 {g : pG} {l : Launch} {F : pF} {N : Nat} {x4 : Int64} {x6 : Int64} {s : cS} {x : (Int64 × cS)} (h : w_X12_divisor_6 N x4 x6 s = some x) (hx : (fun q => F = pE g (some (.long q.1)) (tS q.2) 0 0) x) : PW g l (pRoom 1 0 0) M_X12_divisor F 6 [(4, .long x4), (6, .long x6)] [] (tS s) 0 0 :=
  okIter (P := (fun (v : (Int64 × Int64) × cS) => PW g l (pRoom 1 0 0) M_X12_divisor F 6 [(4, .long v.1.1), (6, .long v.1.2)] [] (tS v.2) 0 0)) (K := (fun q => F = pE g (some (.long q.1)) (tS q.2) 0 0)) (fun v y hB hy => ok_b_X12_divisor_6 hB hy) N ((x4, x6), s) x h hx
def f_X12_divisor (N : Nat) (a0 : Int64) (a1 : Int64) (s : cS) : Option (Int64 × cS) :=
  w_X12_divisor_6 N a0 a1 s
set_option maxRecDepth 20000 in
set_option maxHeartbeats 4000000 in
theorem p_X12_divisor {g : pG} {l : Launch} {N : Nat} {a0 : Int64} {a1 : Int64} {s : cS} {q : Int64 × cS} (h : f_X12_divisor N a0 a1 s = some q) : PM g l 1 M_X12_divisor [.long a0, .long a1] (tS s) (some (.long q.1)) (tS q.2) 0 0 := by
  refine PM.of (by decide +kernel) (Nat.le_of_ble_eq_true rfl) ?_
  show PW g l (pRoom 1 0 0) M_X12_divisor _ 0 [(0, .long a0), (2, .long a1)] [] (tS s) 0 0
  unfold f_X12_divisor at h
  generalize hF : pE g (some (.long q.1)) (tS q.2) 0 0 = F
  have hx := hF.symm
  refine PW.lload_n 0 0 dX12_divisor_0 rfl rfl ?_
  refine PW.lstore dX12_divisor_1 (Nat.le_of_ble_eq_true rfl) rfl ?_
  refine PW.lload_n 2 2 dX12_divisor_3 rfl rfl ?_
  refine PW.lstore dX12_divisor_4 (Nat.le_of_ble_eq_true rfl) rfl ?_
  exact PW.pick [1, 0] rfl (ok_w_X12_divisor_6 h hx)
/-! X12_left -/
def f_X12_left (N : Nat) (a0 : Int32) (a1 : Int32) (a2 : Int32) (a3 : Int32) (s : cS) : Option (Int64 × cS) :=
  ob (f_X12_canFly a0 a1 a2 s) fun r1 s2 =>
  if r1 = 0 then
    some (((-1 : Int64), s2))
  else
    if (f_X12_isIn a3.toInt64 (0 : Int64) (1 : Int64) s2) = 0 then
      some (((-1 : Int64), s2))
    else
      ob (f_X12_all N (f_X12_whole s2) a0 a1 a2 s2) fun r8 s9 =>
      if inb a0 16 then
      ob (f_X12_waysLeft N (f_X12_whole s9) (iG s9 220 a0.toNatClampNeg) s9) fun r13 s14 =>
      if (lg_cmp r13 (0 : Int64)) = 0 then
        some (((-2 : Int64), s14))
      else
        ob (f_X12_waysLeft N (f_X12_whole s14) (2000 : Int32) s14) fun r18 s19 =>
        ob (f_X12_divisor N (r13 - r18) r13 s19) fun r21 s22 =>
        if a3 = 0 then
          if r21 = 0 then none else
          some ((((r13 - r18) / r21), s22))
        else
          if r21 = 0 then none else
          some (((r13 / r21), s22))
      else none
set_option maxRecDepth 20000 in
set_option maxHeartbeats 4000000 in
theorem p_X12_left {g : pG} {l : Launch} {N : Nat} {a0 : Int32} {a1 : Int32} {a2 : Int32} {a3 : Int32} {s : cS} {q : Int64 × cS} (h : f_X12_left N a0 a1 a2 a3 s = some q) : PM g l 8 M_X12_left [.ref 193, .int a0, .int a1, .int a2, .int a3] (tS s) (some (.long q.1)) (tS q.2) 0 0 := by
  refine PM.of (by decide +kernel) (Nat.le_of_ble_eq_true rfl) ?_
  show PW g l (pRoom 8 0 0) M_X12_left _ 0 [(0, .ref 193), (1, .int a0), (2, .int a1), (3, .int a2), (4, .int a3)] [] (tS s) 0 0
  unfold f_X12_left at h
  generalize hF : pE g (some (.long q.1)) (tS q.2) 0 0 = F
  have hx := hF.symm
  refine PW.aload_n 0 0 dX12_left_0 rfl rfl rfl ?_
  refine PW.iload_n 1 1 dX12_left_1 rfl rfl ?_
  refine PW.iload_n 2 2 dX12_left_2 rfl rfl ?_
  refine PW.iload_n 3 3 dX12_left_3 rfl rfl ?_
  obtain ⟨r1, s2, q3, h⟩ := obnd h
  refine CW.callVi (ci := 12) (st := []) [.int a0, .int a1, .int a2] dX12_left_4 (p_X12_canFly q3) MV_X12_canFly mL_X12_384 (by decide) rfl LA_193 rfl rfl (Nat.le_of_ble_eq_true rfl) (by first | decide | omega) ?_
  refine PW.if_eq (tgt := 21) dX12_left_7 (by decide) (fun c4 => ?_) (fun c4 => ?_)
  · replace h := ifp h c4
    refine PW.ldc2_w dX12_left_21 kL_X12_388 ?_
    cases h
    subst hx
    exact PW.lret dX12_left_24 rfl (Nat.le_refl 0) (Nat.le_refl 0)
  · replace h := ifn h c4
    refine PW.iload 4 dX12_left_10 rfl ?_
    refine PW.i2l dX12_left_12 ?_
    refine PW.lconst (v := 0) dX12_left_13 (by decide) ?_
    refine PW.lconst (v := 1) dX12_left_14 (by decide) ?_
    refine CW.callSi (st := []) [.long a3.toInt64, .long (0 : Int64), .long (1 : Int64)] dX12_left_15 (p_X12_isIn rfl) MS_X12_isIn mL_X12_164 rfl rfl (Nat.le_of_ble_eq_true rfl) (by first | decide | omega) ?_
    refine PW.if_ne (tgt := 25) dX12_left_18 (by decide) (fun c6 => ?_) (fun c6 => ?_)
    · replace h := ifn h c6
      refine PW.aload_n 0 0 dX12_left_25 rfl rfl rfl ?_
      refine PW.aload_n 0 0 dX12_left_26 rfl rfl rfl ?_
      refine CW.callVi (ci := 12) (st := [.ref 193]) [] dX12_left_27 (p_X12_whole rfl) MV_X12_whole mL_X12_390 (by decide) rfl LA_193 rfl rfl (Nat.le_of_ble_eq_true rfl) (by first | decide | omega) ?_
      refine PW.iload_n 1 1 dX12_left_30 rfl rfl ?_
      refine PW.iload_n 2 2 dX12_left_31 rfl rfl ?_
      refine PW.iload_n 3 3 dX12_left_32 rfl rfl ?_
      obtain ⟨r8, s9, q10, h⟩ := obnd h
      refine CW.callVv (ci := 12) (st := []) [.int (f_X12_whole s2), .int a0, .int a1, .int a2] dX12_left_33 (p_X12_all q10) MV_X12_all mL_X12_393 (by decide) rfl LA_193 rfl rfl (Nat.le_of_ble_eq_true rfl) (by first | decide | omega) ?_
      refine PW.aload_n 0 0 dX12_left_36 rfl rfl rfl ?_
      refine PW.aload_n 0 0 dX12_left_37 rfl rfl rfl ?_
      refine CW.callVi (ci := 12) (st := [.ref 193]) [] dX12_left_38 (p_X12_whole rfl) MV_X12_whole mL_X12_390 (by decide) rfl LA_193 rfl rfl (Nat.le_of_ble_eq_true rfl) (by first | decide | omega) ?_
      refine PW.aload_n 0 0 dX12_left_41 rfl rfl rfl ?_
      refine CW.getr dX12_left_42 fL_X12_90 LA_193 (Or.inr ⟨_, rfl⟩) rfl ?_
      refine PW.iload_n 1 1 dX12_left_45 rfl rfl ?_
      by_cases c12 : inb a0 16
      rotate_left
      · have h := ifn h c12; cases h
      replace h := ifp h c12
      refine CW.iald dX12_left_46 LA_220 c12 ?_
      obtain ⟨r13, s14, q15, h⟩ := obnd h
      refine CW.callVl (ci := 12) (st := []) [.int (f_X12_whole s9), .int (iG s9 220 a0.toNatClampNeg)] dX12_left_47 (p_X12_waysLeft q15) MV_X12_waysLeft mL_X12_401 (by decide) rfl LA_193 rfl rfl (Nat.le_of_ble_eq_true rfl) (by first | decide | omega) ?_
      refine PW.lstore dX12_left_50 (Nat.le_of_ble_eq_true rfl) rfl ?_
      refine PW.lload 0 dX12_left_52 rfl ?_
      refine PW.lconst (v := 0) dX12_left_54 (by decide) ?_
      refine PW.lcmp dX12_left_55 ?_
      refine PW.if_ne (tgt := 63) dX12_left_56 (by decide) (fun c16 => ?_) (fun c16 => ?_)
      · replace h := ifn h c16
        refine PW.lload 0 dX12_left_63 rfl ?_
        refine PW.aload_n 1 0 dX12_left_65 rfl rfl rfl ?_
        refine PW.aload_n 1 0 dX12_left_66 rfl rfl rfl ?_
        refine CW.callVi (ci := 12) (st := [.ref 193, .long r13]) [] dX12_left_67 (p_X12_whole rfl) MV_X12_whole mL_X12_390 (by decide) rfl LA_193 rfl rfl (Nat.le_of_ble_eq_true rfl) (by first | decide | omega) ?_
        refine PW.sipush (v := 2000) dX12_left_70 (by decide) ?_
        obtain ⟨r18, s19, q20, h⟩ := obnd h
        refine CW.callVl (ci := 12) (st := [.long r13]) [.int (f_X12_whole s14), .int (2000 : Int32)] dX12_left_73 (p_X12_waysLeft q20) MV_X12_waysLeft mL_X12_401 (by decide) rfl LA_193 rfl rfl (Nat.le_of_ble_eq_true rfl) (by first | decide | omega) ?_
        refine PW.lsub dX12_left_76 ?_
        refine PW.lstore dX12_left_77 (Nat.le_of_ble_eq_true rfl) rfl ?_
        refine PW.lload 0 dX12_left_79 rfl ?_
        refine PW.lload 1 dX12_left_81 rfl ?_
        obtain ⟨r21, s22, q23, h⟩ := obnd h
        refine CW.callSl (st := []) [.long (r13 - r18), .long r13] dX12_left_83 (p_X12_divisor q23) MS_X12_divisor mL_X12_410 rfl rfl (Nat.le_of_ble_eq_true rfl) (by first | decide | omega) ?_
        refine PW.lstore dX12_left_86 (Nat.le_of_ble_eq_true rfl) rfl ?_
        refine PW.iload 7 dX12_left_88 rfl ?_
        refine PW.if_ne (tgt := 101) dX12_left_90 (by decide) (fun c24 => ?_) (fun c24 => ?_)
        · replace h := ifn h c24
          refine PW.lload 2 dX12_left_101 rfl ?_
          refine PW.lload 0 dX12_left_103 rfl ?_
          by_cases c25 : r21 = 0
          · have h := ifp h c25; cases h
          replace h := ifn h c25
          refine PW.ldiv dX12_left_105 c25 ?_
          cases h
          subst hx
          exact PW.lret dX12_left_106 rfl (Nat.le_refl 0) (Nat.le_refl 0)
        · replace h := ifp h c24
          refine PW.lload 1 dX12_left_93 rfl ?_
          refine PW.lload 0 dX12_left_95 rfl ?_
          by_cases c26 : r21 = 0
          · have h := ifp h c26; cases h
          replace h := ifn h c26
          refine PW.ldiv dX12_left_97 c26 ?_
          refine PW.goto (tgt := 106) dX12_left_98 (by decide) ?_
          cases h
          subst hx
          exact PW.lret dX12_left_106 rfl (Nat.le_refl 0) (Nat.le_refl 0)
      · replace h := ifp h c16
        refine PW.ldc2_w dX12_left_59 kL_X12_408 ?_
        cases h
        subst hx
        exact PW.lret dX12_left_62 rfl (Nat.le_refl 0) (Nat.le_refl 0)
    · replace h := ifp h c6
      refine PW.ldc2_w dX12_left_21 kL_X12_388 ?_
      cases h
      subst hx
      exact PW.lret dX12_left_24 rfl (Nat.le_refl 0) (Nat.le_refl 0)
/-! X12_isPiece -/
def f_X12_isPiece (a0 : Int32) (s : cS) : Int32 :=
  (f_X12_isIn a0.toInt64 (1 : Int64) ((f_X12_whole s).toInt64) s)
set_option maxRecDepth 20000 in
set_option maxHeartbeats 4000000 in
theorem p_X12_isPiece {g : pG} {l : Launch} {a0 : Int32} {s : cS} {q : Int32} (h : f_X12_isPiece a0 s = q) : PM g l 2 M_X12_isPiece [.ref 193, .int a0] (tS s) (some (.int q)) (tS s) 0 0 := by
  refine PM.of (by decide +kernel) (Nat.le_of_ble_eq_true rfl) ?_
  show PW g l (pRoom 2 0 0) M_X12_isPiece _ 0 [(0, .ref 193), (1, .int a0)] [] (tS s) 0 0
  unfold f_X12_isPiece at h
  generalize hF : pE g (some (.int q)) (tS s) 0 0 = F
  have hx := hF.symm
  refine PW.iload_n 1 1 dX12_isPiece_0 rfl rfl ?_
  refine PW.i2l dX12_isPiece_1 ?_
  refine PW.lconst (v := 1) dX12_isPiece_2 (by decide) ?_
  refine PW.aload_n 0 0 dX12_isPiece_3 rfl rfl rfl ?_
  refine CW.callVi (ci := 12) (st := [.long (1 : Int64), .long a0.toInt64]) [] dX12_isPiece_4 (p_X12_whole rfl) MV_X12_whole mL_X12_390 (by decide) rfl LA_193 rfl rfl (Nat.le_of_ble_eq_true rfl) (by first | decide | omega) ?_
  refine PW.i2l dX12_isPiece_7 ?_
  refine CW.callSi (st := []) [.long a0.toInt64, .long (1 : Int64), .long (f_X12_whole s).toInt64] dX12_isPiece_8 (p_X12_isIn rfl) MS_X12_isIn mL_X12_164 rfl rfl (Nat.le_of_ble_eq_true rfl) (by first | decide | omega) ?_
  cases h
  subst hx
  exact PW.iret dX12_isPiece_11 rfl (narZ (f_X12_isIn_bool)) (Nat.le_refl 0) (Nat.le_refl 0)
theorem f_X12_isPiece_bool {a0 : Int32} {s : cS} : f_X12_isPiece a0 s = 0 ∨ f_X12_isPiece a0 s = 1 := by
  unfold f_X12_isPiece
  repeat' split
  all_goals first | exact Or.inl rfl | exact Or.inr rfl | exact wB_bool _ _ _ | exact digB_bool | exact f_X11_within_bool | exact f_X9_hasRoomFor_bool | exact f_X9_atEnd_bool | exact f_X9_sound_bool | exact f_X9_onDigit_bool | exact f_X0_has_bool | exact f_X3_uses_bool | exact f_X1_has_bool | exact f_X1_hasLife_bool | exact f_X1_hasPiece_bool | exact f_X2_has_bool | exact f_X5_isIn_bool | exact f_X5_isKnown_bool | exact f_X10_has_bool | exact f_X7_has_bool | exact f_X7_hasFind_bool | exact f_J0_isLatin1_aae02_bool | exact f_J1_canEncode_9a6ad_bool | exact f_X12_isIn_bool | exact f_X12_has_bool | exact f_X12_isCorner_bool | exact f_X12_isGood_bool | exact f_X12_isTimes_bool | exact f_X12_isPlus_bool | exact f_X12_isSign_bool | exact f_X12_isValue_bool | exact f_X12_isPressure_bool | exact f_X12_isProgram_bool
/-! X12_likelyOf -/
def b_X12_likelyOf_42 (N : Nat) (x1 : Int32) (x4 : Int32) (x5 : Int32) (x6 : Int64) (x8 : Int32) (s : cS) : Option ((Int32 × cS) ⊕ (Int32 × cS)) :=
  if ((2000 : Int32) - x5) < x8 then
    oR (
      some (((-2 : Int32), s)))
  else
    ob (f_X12_waysLeft N x1 (x5 + x8) s) fun r12 s13 =>
    if (lg_cmp ((x6 - r12) * (1000 : Int64)) (x4.toInt64 * x6)) < 0 then
      some (.inl ((x8 + (1 : Int32)), s13))
    else
      oR (
        some ((x8, s13)))
set_option maxRecDepth 20000 in
set_option maxHeartbeats 4000000 in
theorem ok_b_X12_likelyOf_42 {g : pG} {l : Launch} {F : pF} {N : Nat} {x1 : Int32} {x4 : Int32} {x5 : Int32} {x6 : Int64} {x8 : Int32} {s : cS} {x : ((Int32 × cS) ⊕ (Int32 × cS))} (h : b_X12_likelyOf_42 N x1 x4 x5 x6 x8 s = some x) (hx : (KL (fun (v : Int32 × cS) => PW g l (pRoom 8 0 0) M_X12_likelyOf F 42 [(0, .ref 193), (1, .int x1), (4, .int x4), (5, .int x5), (6, .long x6), (8, .int v.1)] [] (tS v.2) 0 0) (fun q => F = pE g (some (.int q.1)) (tS q.2) 0 0)) x) : PW g l (pRoom 8 0 0) M_X12_likelyOf F 42 [(0, .ref 193), (1, .int x1), (4, .int x4), (5, .int x5), (6, .long x6), (8, .int x8)] [] (tS s) 0 0 := by
  unfold b_X12_likelyOf_42 at h
  refine PW.iload 5 dX12_likelyOf_42 rfl ?_
  refine PW.sipush (v := 2000) dX12_likelyOf_44 (by decide) ?_
  refine PW.iload 3 dX12_likelyOf_47 rfl ?_
  refine PW.isub dX12_likelyOf_49 ?_
  refine PW.icmp_gt (tgt := 89) dX12_likelyOf_50 (by decide) (fun c11 => ?_) (fun c11 => ?_)
  · replace h := ifp h c11
    obtain ⟨xo, hy, hxo⟩ := oRb h
    clear h
    subst hxo
    replace hx := KLr hx
    have h := hy
    clear hy
    refine PW.bipush (v := (-2)) dX12_likelyOf_89 (by decide) ?_
    cases h
    subst hx
    exact PW.iret dX12_likelyOf_91 rfl rfl (Nat.le_refl 0) (Nat.le_refl 0)
  · replace h := ifn h c11
    refine PW.lload 4 dX12_likelyOf_53 rfl ?_
    refine PW.aload_n 0 0 dX12_likelyOf_55 rfl rfl rfl ?_
    refine PW.iload_n 1 1 dX12_likelyOf_56 rfl rfl ?_
    refine PW.iload 3 dX12_likelyOf_57 rfl ?_
    refine PW.iload 5 dX12_likelyOf_59 rfl ?_
    refine PW.iadd dX12_likelyOf_61 ?_
    obtain ⟨r12, s13, q14, h⟩ := obnd h
    refine CW.callVl (ci := 12) (st := [.long x6]) [.int x1, .int (x5 + x8)] dX12_likelyOf_62 (p_X12_waysLeft q14) MV_X12_waysLeft mL_X12_401 (by decide) rfl LA_193 rfl rfl (Nat.le_of_ble_eq_true rfl) (by first | decide | omega) ?_
    refine PW.lsub dX12_likelyOf_65 ?_
    refine PW.ldc2_w dX12_likelyOf_66 kL_X12_417 ?_
    refine PW.lmul dX12_likelyOf_69 ?_
    refine PW.iload 2 dX12_likelyOf_70 rfl ?_
    refine PW.i2l dX12_likelyOf_72 ?_
    refine PW.lload 4 dX12_likelyOf_73 rfl ?_
    refine PW.lmul dX12_likelyOf_75 ?_
    refine PW.lcmp dX12_likelyOf_76 ?_
    refine PW.if_lt (tgt := 83) dX12_likelyOf_77 (by decide) (fun c15 => ?_) (fun c15 => ?_)
    · replace h := ifp h c15
      refine PW.iinc (v := (x8 + (1 : Int32))) 5 dX12_likelyOf_83 rfl (by first | rfl | decide) (Nat.le_of_ble_eq_true rfl) rfl ?_
      refine PW.goto (tgt := 42) dX12_likelyOf_86 (by decide) ?_
      cases h
      exact PW.pick [1, 2, 3, 4, 5, 0] rfl hx
    · replace h := ifn h c15
      obtain ⟨xo, hy, hxo⟩ := oRb h
      clear h
      subst hxo
      replace hx := KLr hx
      have h := hy
      clear hy
      refine PW.iload 5 dX12_likelyOf_80 rfl ?_
      cases h
      subst hx
      exact PW.iret dX12_likelyOf_82 rfl rfl (Nat.le_refl 0) (Nat.le_refl 0)
def w_X12_likelyOf_42 (N : Nat) (x1 : Int32) (x4 : Int32) (x5 : Int32) (x6 : Int64) (x8 : Int32) (s : cS) : Option (Int32 × cS) := itr (fun (v : Int32 × cS) => b_X12_likelyOf_42 N x1 x4 x5 x6 v.1 v.2) N (x8, s)
theorem ok_w_X12_likelyOf_42 {g : pG} {l : Launch} {F : pF} {N : Nat} {x1 : Int32} {x4 : Int32} {x5 : Int32} {x6 : Int64} {x8 : Int32} {s : cS} {x : (Int32 × cS)} (h : w_X12_likelyOf_42 N x1 x4 x5 x6 x8 s = some x) (hx : (fun q => F = pE g (some (.int q.1)) (tS q.2) 0 0) x) : PW g l (pRoom 8 0 0) M_X12_likelyOf F 42 [(0, .ref 193), (1, .int x1), (4, .int x4), (5, .int x5), (6, .long x6), (8, .int x8)] [] (tS s) 0 0 :=
  okIter (P := (fun (v : Int32 × cS) => PW g l (pRoom 8 0 0) M_X12_likelyOf F 42 [(0, .ref 193), (1, .int x1), (4, .int x4), (5, .int x5), (6, .long x6), (8, .int v.1)] [] (tS v.2) 0 0)) (K := (fun q => F = pE g (some (.int q.1)) (tS q.2) 0 0)) (fun v y hB hy => ok_b_X12_likelyOf_42 hB hy) N (x8, s) x h hx
def f_X12_likelyOf (N : Nat) (a0 : Int32) (a1 : Int32) (a2 : Int32) (a3 : Int32) (s : cS) : Option (Int32 × cS) :=
  ob (f_X12_pullsIn a1 s) fun r1 s2 =>
  ob (f_X12_all N a0 a1 a2 ((2000 : Int32) - r1) s2) fun r4 s5 =>
  ob (f_X12_waysLeft N a0 r1 s5) fun r7 s8 =>
  if (lg_cmp r7 (0 : Int64)) = 0 then
    some (((-2 : Int32), s8))
  else
    w_X12_likelyOf_42 N a0 a3 r1 r7 (0 : Int32) s8
set_option maxRecDepth 20000 in
set_option maxHeartbeats 4000000 in
theorem p_X12_likelyOf {g : pG} {l : Launch} {N : Nat} {a0 : Int32} {a1 : Int32} {a2 : Int32} {a3 : Int32} {s : cS} {q : Int32 × cS} (h : f_X12_likelyOf N a0 a1 a2 a3 s = some q) : PM g l 8 M_X12_likelyOf [.ref 193, .int a0, .int a1, .int a2, .int a3] (tS s) (some (.int q.1)) (tS q.2) 0 0 := by
  refine PM.of (by decide +kernel) (Nat.le_of_ble_eq_true rfl) ?_
  show PW g l (pRoom 8 0 0) M_X12_likelyOf _ 0 [(0, .ref 193), (1, .int a0), (2, .int a1), (3, .int a2), (4, .int a3)] [] (tS s) 0 0
  unfold f_X12_likelyOf at h
  generalize hF : pE g (some (.int q.1)) (tS q.2) 0 0 = F
  have hx := hF.symm
  refine PW.aload_n 0 0 dX12_likelyOf_0 rfl rfl rfl ?_
  refine PW.iload_n 2 2 dX12_likelyOf_1 rfl rfl ?_
  obtain ⟨r1, s2, q3, h⟩ := obnd h
  refine CW.callVi (ci := 12) (st := []) [.int a1] dX12_likelyOf_2 (p_X12_pullsIn q3) MV_X12_pullsIn mL_X12_414 (by decide) rfl LA_193 rfl rfl (Nat.le_of_ble_eq_true rfl) (by first | decide | omega) ?_
  refine PW.istore dX12_likelyOf_5 (Nat.le_of_ble_eq_true rfl) rfl ?_
  refine PW.aload_n 1 0 dX12_likelyOf_7 rfl rfl rfl ?_
  refine PW.iload_n 2 1 dX12_likelyOf_8 rfl rfl ?_
  refine PW.iload_n 3 2 dX12_likelyOf_9 rfl rfl ?_
  refine PW.iload_n 4 3 dX12_likelyOf_10 rfl rfl ?_
  refine PW.sipush (v := 2000) dX12_likelyOf_11 (by decide) ?_
  refine PW.iload 0 dX12_likelyOf_14 rfl ?_
  refine PW.isub dX12_likelyOf_16 ?_
  obtain ⟨r4, s5, q6, h⟩ := obnd h
  refine CW.callVv (ci := 12) (st := []) [.int a0, .int a1, .int a2, .int ((2000 : Int32) - r1)] dX12_likelyOf_17 (p_X12_all q6) MV_X12_all mL_X12_393 (by decide) rfl LA_193 rfl rfl (Nat.le_of_ble_eq_true rfl) (by first | decide | omega) ?_
  refine PW.aload_n 1 0 dX12_likelyOf_20 rfl rfl rfl ?_
  refine PW.iload_n 2 1 dX12_likelyOf_21 rfl rfl ?_
  refine PW.iload 0 dX12_likelyOf_22 rfl ?_
  obtain ⟨r7, s8, q9, h⟩ := obnd h
  refine CW.callVl (ci := 12) (st := []) [.int a0, .int r1] dX12_likelyOf_24 (p_X12_waysLeft q9) MV_X12_waysLeft mL_X12_401 (by decide) rfl LA_193 rfl rfl (Nat.le_of_ble_eq_true rfl) (by first | decide | omega) ?_
  refine PW.lstore dX12_likelyOf_27 (Nat.le_of_ble_eq_true rfl) rfl ?_
  refine PW.lload 0 dX12_likelyOf_29 rfl ?_
  refine PW.lconst (v := 0) dX12_likelyOf_31 (by decide) ?_
  refine PW.lcmp dX12_likelyOf_32 ?_
  refine PW.if_ne (tgt := 39) dX12_likelyOf_33 (by decide) (fun c10 => ?_) (fun c10 => ?_)
  · replace h := ifn h c10
    refine PW.iconst (v := 0) dX12_likelyOf_39 (by decide) ?_
    refine PW.istore dX12_likelyOf_40 (Nat.le_of_ble_eq_true rfl) rfl ?_
    exact PW.pick [3, 4, 7, 2, 1, 0] rfl (ok_w_X12_likelyOf_42 h hx)
  · replace h := ifp h c10
    refine PW.bipush (v := (-2)) dX12_likelyOf_36 (by decide) ?_
    cases h
    subst hx
    exact PW.iret dX12_likelyOf_38 rfl rfl (Nat.le_refl 0) (Nat.le_refl 0)
/-! X12_likely -/
def f_X12_likely (N : Nat) (a0 : Int32) (a1 : Int32) (a2 : Int32) (a3 : Int32) (s : cS) : Option (Int32 × cS) :=
  if (f_X12_isPiece a0 s) = 0 then
    some (((-1 : Int32), s))
  else
    if (f_X12_isProgram a1 s) = 0 then
      some (((-1 : Int32), s))
    else
      if (f_X12_isPressure a2 s) = 0 then
        some (((-1 : Int32), s))
      else
        if (f_X12_isIn a3.toInt64 (1 : Int64) (1000 : Int64) s) = 0 then
          some (((-1 : Int32), s))
        else
          ob (f_X12_likelyOf N a0 a1 a2 a3 s) fun r9 s10 =>
          some ((r9, s10))
set_option maxRecDepth 20000 in
set_option maxHeartbeats 4000000 in
theorem p_X12_likely {g : pG} {l : Launch} {N : Nat} {a0 : Int32} {a1 : Int32} {a2 : Int32} {a3 : Int32} {s : cS} {q : Int32 × cS} (h : f_X12_likely N a0 a1 a2 a3 s = some q) : PM g l 9 M_X12_likely [.ref 193, .int a0, .int a1, .int a2, .int a3] (tS s) (some (.int q.1)) (tS q.2) 0 0 := by
  refine PM.of (by decide +kernel) (Nat.le_of_ble_eq_true rfl) ?_
  show PW g l (pRoom 9 0 0) M_X12_likely _ 0 [(0, .ref 193), (1, .int a0), (2, .int a1), (3, .int a2), (4, .int a3)] [] (tS s) 0 0
  unfold f_X12_likely at h
  generalize hF : pE g (some (.int q.1)) (tS q.2) 0 0 = F
  have hx := hF.symm
  refine PW.aload_n 0 0 dX12_likely_0 rfl rfl rfl ?_
  refine PW.iload_n 1 1 dX12_likely_1 rfl rfl ?_
  refine CW.callVi (ci := 12) (st := []) [.int a0] dX12_likely_2 (p_X12_isPiece rfl) MV_X12_isPiece mL_X12_419 (by decide) rfl LA_193 rfl rfl (Nat.le_of_ble_eq_true rfl) (by first | decide | omega) ?_
  refine PW.if_eq (tgt := 35) dX12_likely_5 (by decide) (fun c2 => ?_) (fun c2 => ?_)
  · replace h := ifp h c2
    refine PW.iconst (v := (-1)) dX12_likely_35 (by decide) ?_
    cases h
    subst hx
    exact PW.iret dX12_likely_36 rfl rfl (Nat.le_refl 0) (Nat.le_refl 0)
  · replace h := ifn h c2
    refine PW.iload_n 2 2 dX12_likely_8 rfl rfl ?_
    refine CW.callSi (st := []) [.int a1] dX12_likely_9 (p_X12_isProgram rfl) MS_X12_isProgram mL_X12_356 rfl rfl (Nat.le_of_ble_eq_true rfl) (by first | decide | omega) ?_
    refine PW.if_eq (tgt := 35) dX12_likely_12 (by decide) (fun c4 => ?_) (fun c4 => ?_)
    · replace h := ifp h c4
      refine PW.iconst (v := (-1)) dX12_likely_35 (by decide) ?_
      cases h
      subst hx
      exact PW.iret dX12_likely_36 rfl rfl (Nat.le_refl 0) (Nat.le_refl 0)
    · replace h := ifn h c4
      refine PW.iload_n 3 3 dX12_likely_15 rfl rfl ?_
      refine CW.callSi (st := []) [.int a2] dX12_likely_16 (p_X12_isPressure rfl) MS_X12_isPressure mL_X12_345 rfl rfl (Nat.le_of_ble_eq_true rfl) (by first | decide | omega) ?_
      refine PW.if_eq (tgt := 35) dX12_likely_19 (by decide) (fun c6 => ?_) (fun c6 => ?_)
      · replace h := ifp h c6
        refine PW.iconst (v := (-1)) dX12_likely_35 (by decide) ?_
        cases h
        subst hx
        exact PW.iret dX12_likely_36 rfl rfl (Nat.le_refl 0) (Nat.le_refl 0)
      · replace h := ifn h c6
        refine PW.iload 4 dX12_likely_22 rfl ?_
        refine PW.i2l dX12_likely_24 ?_
        refine PW.lconst (v := 1) dX12_likely_25 (by decide) ?_
        refine PW.ldc2_w dX12_likely_26 kL_X12_417 ?_
        refine CW.callSi (st := []) [.long a3.toInt64, .long (1 : Int64), .long (1000 : Int64)] dX12_likely_29 (p_X12_isIn rfl) MS_X12_isIn mL_X12_164 rfl rfl (Nat.le_of_ble_eq_true rfl) (by first | decide | omega) ?_
        refine PW.if_ne (tgt := 37) dX12_likely_32 (by decide) (fun c8 => ?_) (fun c8 => ?_)
        · replace h := ifn h c8
          refine PW.aload_n 0 0 dX12_likely_37 rfl rfl rfl ?_
          refine PW.iload_n 1 1 dX12_likely_38 rfl rfl ?_
          refine PW.iload_n 2 2 dX12_likely_39 rfl rfl ?_
          refine PW.iload_n 3 3 dX12_likely_40 rfl rfl ?_
          refine PW.iload 4 dX12_likely_41 rfl ?_
          obtain ⟨r9, s10, q11, h⟩ := obnd h
          refine CW.callVi (ci := 12) (st := []) [.int a0, .int a1, .int a2, .int a3] dX12_likely_43 (p_X12_likelyOf q11) MV_X12_likelyOf mL_X12_422 (by decide) rfl LA_193 rfl rfl (Nat.le_of_ble_eq_true rfl) (by first | decide | omega) ?_
          cases h
          subst hx
          exact PW.iret dX12_likely_46 rfl rfl (Nat.le_refl 0) (Nat.le_refl 0)
        · replace h := ifp h c8
          refine PW.iconst (v := (-1)) dX12_likely_35 (by decide) ?_
          cases h
          subst hx
          exact PW.iret dX12_likely_36 rfl rfl (Nat.le_refl 0) (Nat.le_refl 0)
