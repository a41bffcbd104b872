/-! X9_onDigit -/
def f_X9_onDigit (s : cS) : Int32 :=
  if (sgn s) < (48 : Int32) then
    (0 : Int32)
  else
    if (57 : Int32) < (sgn s) then
      (0 : Int32)
    else
      (1 : Int32)
set_option maxRecDepth 20000 in
set_option maxHeartbeats 4000000 in
theorem p_X9_onDigit {g : pG} {l : Launch} {s : cS} {q : Int32} (h : f_X9_onDigit s = q) : PM g l 2 M_X9_onDigit [.ref 1] (tS s) (some (.int q)) (tS s) 0 0 := by
  refine PM.of (by decide +kernel) (Nat.le_of_ble_eq_true rfl) ?_
  show PW g l (pRoom 2 0 0) M_X9_onDigit _ 0 [(0, .ref 1)] [] (tS s) 0 0
  unfold f_X9_onDigit at h
  generalize hF : pE g (some (.int q)) (tS s) 0 0 = F
  have hx := hF.symm
  refine PW.aload_n 0 0 dX9_onDigit_0 rfl rfl rfl ?_
  refine CW.callVi (ci := 9) (st := []) [] dX9_onDigit_1 (ps_sign rfl) MV_X9_sign mL_X9_39 (by decide) rfl LA_1 rfl rfl (Nat.le_of_ble_eq_true rfl) (by first | decide | omega) ?_
  refine PW.istore_n dX9_onDigit_4 rfl (Nat.le_of_ble_eq_true rfl) rfl ?_
  refine PW.iload_n 0 1 dX9_onDigit_5 rfl rfl ?_
  refine PW.bipush (v := 48) dX9_onDigit_6 (by decide) ?_
  refine PW.icmp_lt (tgt := 21) dX9_onDigit_8 (by decide) (fun c2 => ?_) (fun c2 => ?_)
  · replace h := ifp h c2
    refine PW.iconst (v := 0) dX9_onDigit_21 (by decide) ?_
    cases h
    subst hx
    exact PW.iret (v := (0 : Int32)) dX9_onDigit_22 rfl (narZ (Or.inl rfl)) (Nat.le_refl 0) (Nat.le_refl 0)
  · replace h := ifn h c2
    refine PW.iload_n 0 1 dX9_onDigit_11 rfl rfl ?_
    refine PW.bipush (v := 57) dX9_onDigit_12 (by decide) ?_
    refine PW.icmp_gt (tgt := 21) dX9_onDigit_14 (by decide) (fun c3 => ?_) (fun c3 => ?_)
    · replace h := ifp h c3
      refine PW.iconst (v := 0) dX9_onDigit_21 (by decide) ?_
      cases h
      subst hx
      exact PW.iret (v := (0 : Int32)) dX9_onDigit_22 rfl (narZ (Or.inl rfl)) (Nat.le_refl 0) (Nat.le_refl 0)
    · replace h := ifn h c3
      refine PW.iconst (v := 1) dX9_onDigit_17 (by decide) ?_
      refine PW.goto (tgt := 22) dX9_onDigit_18 (by decide) ?_
      cases h
      subst hx
      exact PW.iret (v := (1 : Int32)) dX9_onDigit_22 rfl (narZ (Or.inr rfl)) (Nat.le_refl 0) (Nat.le_refl 0)
theorem f_X9_onDigit_bool {s : cS} : f_X9_onDigit s = 0 ∨ f_X9_onDigit s = 1 := by
  unfold f_X9_onDigit
  repeat' split
  all_goals first | exact Or.inl rfl | exact Or.inr rfl
/-! X9_pass -/
def f_X9_pass (a0 : Int32) (s : cS) : (Unit × cS) :=
  if (sgn s) = a0 then
    sb (iS s 1 3 ((iG s 1 3) + (1 : Int32))) fun s6 =>
    ((), s6)
  else
    tb (f_X9_fail (1 : Int32) (iG s 1 3) s) fun r3 s4 =>
    ((), s4)
set_option maxRecDepth 20000 in
set_option maxHeartbeats 4000000 in
theorem p_X9_pass {g : pG} {l : Launch} {a0 : Int32} {s : cS} {q : Unit × cS} (h : f_X9_pass a0 s = q) : PM g l 2 M_X9_pass [.ref 1, .int a0] (tS s) none (tS q.2) 0 0 := by
  refine PM.of (by decide +kernel) (Nat.le_of_ble_eq_true rfl) ?_
  show PW g l (pRoom 2 0 0) M_X9_pass _ 0 [(0, .ref 1), (1, .int a0)] [] (tS s) 0 0
  unfold f_X9_pass at h
  generalize hF : pE g none (tS q.2) 0 0 = F
  have hx := hF.symm
  refine PW.aload_n 0 0 dX9_pass_0 rfl rfl rfl ?_
  refine CW.callVi (ci := 9) (st := []) [] dX9_pass_1 (ps_sign rfl) MV_X9_sign mL_X9_39 (by decide) rfl LA_1 rfl rfl (Nat.le_of_ble_eq_true rfl) (by first | decide | omega) ?_
  refine PW.iload_n 1 1 dX9_pass_4 rfl rfl ?_
  refine PW.icmp_ne (tgt := 21) dX9_pass_5 (by decide) (fun c2 => ?_) (fun c2 => ?_)
  · replace h := ifn h c2
    refine PW.aload_n 0 0 dX9_pass_21 rfl rfl rfl ?_
    refine PW.iconst (v := 1) dX9_pass_22 (by decide) ?_
    refine PW.aload_n 0 0 dX9_pass_23 rfl rfl rfl ?_
    refine CW.geti dX9_pass_24 fL_X9_30 LA_1 (Or.inl rfl) ?_
    obtain ⟨r3, s4, q5, h⟩ := tbnd h
    refine CW.callVv (ci := 9) (st := []) [.int (1 : Int32), .int (iG s 1 3)] dX9_pass_27 (p_X9_fail q5) MV_X9_fail mL_X9_43 (by decide) rfl LA_1 rfl rfl (Nat.le_of_ble_eq_true rfl) (by first | decide | omega) ?_
    cases h
    subst hx
    exact PW.vret dX9_pass_30 rfl (Nat.le_refl 0) (Nat.le_refl 0)
  · replace h := ifp h c2
    refine PW.aload_n 0 0 dX9_pass_8 rfl rfl rfl ?_
    refine PW.dup dX9_pass_9 rfl ?_
    refine CW.geti dX9_pass_10 fL_X9_30 LA_1 (Or.inl rfl) ?_
    refine PW.iconst (v := 1) dX9_pass_13 (by decide) ?_
    refine PW.iadd dX9_pass_14 ?_
    refine CW.puti dX9_pass_15 fL_X9_30 rfl LA_1 rfl ?_
    obtain ⟨s6, es6, h⟩ := sbnd h
    refine PW.sbe es6 ?_
    clear es6
    refine PW.goto (tgt := 30) dX9_pass_18 (by decide) ?_
    cases h
    subst hx
    exact PW.vret dX9_pass_30 rfl (Nat.le_refl 0) (Nat.le_refl 0)
/-! X9_number -/
def j_X9_number_72 (x1 : Int32) (x2 : Int32) (x3 : Int32) (s : cS) : Option (((Int32 × Int32) × cS) ⊕ (Int32 × cS)) :=
  some (.inl ((x2, (x3 + (1 : Int32))), s))
set_option maxRecDepth 20000 in
set_option maxHeartbeats 4000000 in
theorem ok_j_X9_number_72 {g : pG} {l : Launch} {F : pF} {x1 : Int32} {x2 : Int32} {x3 : Int32} {s : cS} {x : (((Int32 × Int32) × cS) ⊕ (Int32 × cS))} (h : j_X9_number_72 x1 x2 x3 s = some x) (hx : (KL (fun (v : (Int32 × Int32) × cS) => PW g l (pRoom 3 0 0) M_X9_number F 20 [(0, .ref 1), (1, .int x1), (2, .int v.1.1), (3, .int v.1.2)] [] (tS v.2) 0 0) (fun q => F = pE g (some (.int q.1)) (tS q.2) 0 0)) x) : PW g l (pRoom 3 0 0) M_X9_number F 72 [(0, .ref 1), (1, .int x1), (2, .int x2), (3, .int x3)] [] (tS s) 0 0 := by
  unfold j_X9_number_72 at h
  refine PW.iinc (v := (x3 + (1 : Int32))) 3 dX9_number_72 rfl (by first | rfl | decide) (Nat.le_of_ble_eq_true rfl) rfl ?_
  refine PW.goto (tgt := 20) dX9_number_75 (by decide) ?_
  cases h
  exact PW.pick [1, 2, 3, 0] rfl hx
def b_X9_number_20 (x1 : Int32) (x2 : Int32) (x3 : Int32) (s : cS) : Option (((Int32 × Int32) × cS) ⊕ (Int32 × cS)) :=
  if x1 < x3 then
    oR (
      some ((x2, s)))
  else
    if (f_X9_onDigit s) = 0 then
      oR (
        some ((x2, s)))
    else
      if x3 = x1 then
        tb (f_X9_fail (2 : Int32) (iG s 1 3) s) fun r9 s10 =>
        j_X9_number_72 x1 x2 x3 s10
      else
        sb (iS s 1 3 ((iG s 1 3) + (1 : Int32))) fun s8 =>
        j_X9_number_72 x1 (((x2 * (10 : Int32)) + (sgn s)) - (48 : Int32)) x3 s8
set_option maxRecDepth 20000 in
set_option maxHeartbeats 4000000 in
theorem ok_b_X9_number_20 {g : pG} {l : Launch} {F : pF} {x1 : Int32} {x2 : Int32} {x3 : Int32} {s : cS} {x : (((Int32 × Int32) × cS) ⊕ (Int32 × cS))} (h : b_X9_number_20 x1 x2 x3 s = some x) (hx : (KL (fun (v : (Int32 × Int32) × cS) => PW g l (pRoom 3 0 0) M_X9_number F 20 [(0, .ref 1), (1, .int x1), (2, .int v.1.1), (3, .int v.1.2)] [] (tS v.2) 0 0) (fun q => F = pE g (some (.int q.1)) (tS q.2) 0 0)) x) : PW g l (pRoom 3 0 0) M_X9_number F 20 [(0, .ref 1), (1, .int x1), (2, .int x2), (3, .int x3)] [] (tS s) 0 0 := by
  unfold b_X9_number_20 at h
  refine PW.iload_n 3 3 dX9_number_20 rfl rfl ?_
  refine PW.iload_n 1 1 dX9_number_21 rfl rfl ?_
  refine PW.icmp_gt (tgt := 78) dX9_number_22 (by decide) (fun c3 => ?_) (fun c3 => ?_)
  · replace h := ifp h c3
    obtain ⟨xo, hy, hxo⟩ := oRb h
    clear h
    subst hxo
    replace hx := KLr hx
    have h := hy
    clear hy
    refine PW.iload_n 2 2 dX9_number_78 rfl rfl ?_
    cases h
    subst hx
    exact PW.iret (v := x2) dX9_number_79 rfl rfl (Nat.le_refl 0) (Nat.le_refl 0)
  · replace h := ifn h c3
    refine PW.aload_n 0 0 dX9_number_25 rfl rfl rfl ?_
    refine CW.callVi (ci := 9) (st := []) [] dX9_number_26 (p_X9_onDigit rfl) MV_X9_onDigit mL_X9_47 (by decide) rfl LA_1 rfl rfl (Nat.le_of_ble_eq_true rfl) (by first | decide | omega) ?_
    refine PW.if_eq (tgt := 78) dX9_number_29 (by decide) (fun c5 => ?_) (fun c5 => ?_)
    · replace h := ifp h c5
      obtain ⟨xo, hy, hxo⟩ := oRb h
      clear h
      subst hxo
      replace hx := KLr hx
      have h := hy
      clear hy
      refine PW.iload_n 2 2 dX9_number_78 rfl rfl ?_
      cases h
      subst hx
      exact PW.iret (v := x2) dX9_number_79 rfl rfl (Nat.le_refl 0) (Nat.le_refl 0)
    · replace h := ifn h c5
      refine PW.iload_n 3 3 dX9_number_32 rfl rfl ?_
      refine PW.iload_n 1 1 dX9_number_33 rfl rfl ?_
      refine PW.icmp_ne (tgt := 49) dX9_number_34 (by decide) (fun c6 => ?_) (fun c6 => ?_)
      · replace h := ifn h c6
        refine PW.iload_n 2 2 dX9_number_49 rfl rfl ?_
        refine PW.bipush (v := 10) dX9_number_50 (by decide) ?_
        refine PW.imul dX9_number_52 ?_
        refine PW.aload_n 0 0 dX9_number_53 rfl rfl rfl ?_
        refine CW.callVi (ci := 9) (st := [.int (x2 * (10 : Int32))]) [] dX9_number_54 (ps_sign rfl) MV_X9_sign mL_X9_39 (by decide) rfl LA_1 rfl rfl (Nat.le_of_ble_eq_true rfl) (by first | decide | omega) ?_
        refine PW.iadd dX9_number_57 ?_
        refine PW.bipush (v := 48) dX9_number_58 (by decide) ?_
        refine PW.isub dX9_number_60 ?_
        refine PW.istore_n dX9_number_61 rfl (Nat.le_of_ble_eq_true rfl) rfl ?_
        refine PW.aload_n 1 0 dX9_number_62 rfl rfl rfl ?_
        refine PW.dup dX9_number_63 rfl ?_
        refine CW.geti dX9_number_64 fL_X9_30 LA_1 (Or.inl rfl) ?_
        refine PW.iconst (v := 1) dX9_number_67 (by decide) ?_
        refine PW.iadd dX9_number_68 ?_
        refine CW.puti dX9_number_69 fL_X9_30 rfl LA_1 rfl ?_
        obtain ⟨s8, es8, h⟩ := sbnd h
        refine PW.sbe es8 ?_
        clear es8
        exact PW.pick [1, 2, 0, 3] rfl (ok_j_X9_number_72 h hx)
      · replace h := ifp h c6
        refine PW.aload_n 0 0 dX9_number_37 rfl rfl rfl ?_
        refine PW.iconst (v := 2) dX9_number_38 (by decide) ?_
        refine PW.aload_n 0 0 dX9_number_39 rfl rfl rfl ?_
        refine CW.geti dX9_number_40 fL_X9_30 LA_1 (Or.inl rfl) ?_
        obtain ⟨r9, s10, q11, h⟩ := tbnd h
        refine CW.callVv (ci := 9) (st := []) [.int (2 : Int32), .int (iG s 1 3)] dX9_number_43 (p_X9_fail q11) MV_X9_fail mL_X9_43 (by decide) rfl LA_1 rfl rfl (Nat.le_of_ble_eq_true rfl) (by first | decide | omega) ?_
        refine PW.goto (tgt := 72) dX9_number_46 (by decide) ?_
        exact PW.pick [0, 1, 2, 3] rfl (ok_j_X9_number_72 h hx)
def w_X9_number_20 (N : Nat) (x1 : Int32) (x2 : Int32) (x3 : Int32) (s : cS) : Option (Int32 × cS) := itr (fun (v : (Int32 × Int32) × cS) => b_X9_number_20 x1 v.1.1 v.1.2 v.2) N ((x2, x3), s)
theorem ok_w_X9_number_20 {g : pG} {l : Launch} {F : pF} {N : Nat} {x1 : Int32} {x2 : Int32} {x3 : Int32} {s : cS} {x : (Int32 × cS)} (h : w_X9_number_20 N x1 x2 x3 s = some x) (hx : (fun q => F = pE g (some (.int q.1)) (tS q.2) 0 0) x) : PW g l (pRoom 3 0 0) M_X9_number F 20 [(0, .ref 1), (1, .int x1), (2, .int x2), (3, .int x3)] [] (tS s) 0 0 :=
  okIter (P := (fun (v : (Int32 × Int32) × cS) => PW g l (pRoom 3 0 0) M_X9_number F 20 [(0, .ref 1), (1, .int x1), (2, .int v.1.1), (3, .int v.1.2)] [] (tS v.2) 0 0)) (K := (fun q => F = pE g (some (.int q.1)) (tS q.2) 0 0)) (fun v y hB hy => ok_b_X9_number_20 hB hy) N ((x2, x3), s) x h hx
def j_X9_number_16 (N : Nat) (x1 : Int32) (s : cS) : Option (Int32 × cS) :=
  w_X9_number_20 N x1 (0 : Int32) (0 : Int32) s
set_option maxRecDepth 20000 in
set_option maxHeartbeats 4000000 in
theorem ok_j_X9_number_16 {g : pG} {l : Launch} {F : pF} {N : Nat} {x1 : Int32} {s : cS} {x : (Int32 × cS)} (h : j_X9_number_16 N x1 s = some x) (hx : (fun q => F = pE g (some (.int q.1)) (tS q.2) 0 0) x) : PW g l (pRoom 3 0 0) M_X9_number F 16 [(0, .ref 1), (1, .int x1)] [] (tS s) 0 0 := by
  unfold j_X9_number_16 at h
  refine PW.iconst (v := 0) dX9_number_16 (by decide) ?_
  refine PW.istore_n dX9_number_17 rfl (Nat.le_of_ble_eq_true rfl) rfl ?_
  refine PW.iconst (v := 0) dX9_number_18 (by decide) ?_
  refine PW.istore_n dX9_number_19 rfl (Nat.le_of_ble_eq_true rfl) rfl ?_
  exact PW.pick [2, 3, 1, 0] rfl (ok_w_X9_number_20 h hx)
def f_X9_number (N : Nat) (a0 : Int32) (s : cS) : Option (Int32 × cS) :=
  if (f_X9_onDigit s) = 0 then
    tb (f_X9_fail (1 : Int32) (iG s 1 3) s) fun r12 s13 =>
    j_X9_number_16 N a0 s13
  else
    j_X9_number_16 N a0 s
set_option maxRecDepth 20000 in
set_option maxHeartbeats 4000000 in
theorem p_X9_number {g : pG} {l : Launch} {N : Nat} {a0 : Int32} {s : cS} {q : Int32 × cS} (h : f_X9_number N a0 s = some q) : PM g l 3 M_X9_number [.ref 1, .int a0] (tS s) (some (.int q.1)) (tS q.2) 0 0 := by
  refine PM.of (by decide +kernel) (Nat.le_of_ble_eq_true rfl) ?_
  show PW g l (pRoom 3 0 0) M_X9_number _ 0 [(0, .ref 1), (1, .int a0)] [] (tS s) 0 0
  unfold f_X9_number at h
  generalize hF : pE g (some (.int q.1)) (tS q.2) 0 0 = F
  have hx := hF.symm
  refine PW.aload_n 0 0 dX9_number_0 rfl rfl rfl ?_
  refine CW.callVi (ci := 9) (st := []) [] dX9_number_1 (p_X9_onDigit rfl) MV_X9_onDigit mL_X9_47 (by decide) rfl LA_1 rfl rfl (Nat.le_of_ble_eq_true rfl) (by first | decide | omega) ?_
  refine PW.if_ne (tgt := 16) dX9_number_4 (by decide) (fun c2 => ?_) (fun c2 => ?_)
  · replace h := ifn h c2
    exact PW.pick [0, 1] rfl (ok_j_X9_number_16 h hx)
  · replace h := ifp h c2
    refine PW.aload_n 0 0 dX9_number_7 rfl rfl rfl ?_
    refine PW.iconst (v := 1) dX9_number_8 (by decide) ?_
    refine PW.aload_n 0 0 dX9_number_9 rfl rfl rfl ?_
    refine CW.geti dX9_number_10 fL_X9_30 LA_1 (Or.inl rfl) ?_
    obtain ⟨r12, s13, q14, h⟩ := tbnd h
    refine CW.callVv (ci := 9) (st := []) [.int (1 : Int32), .int (iG s 1 3)] dX9_number_13 (p_X9_fail q14) MV_X9_fail mL_X9_43 (by decide) rfl LA_1 rfl rfl (Nat.le_of_ble_eq_true rfl) (by first | decide | omega) ?_
    exact PW.pick [0, 1] rfl (ok_j_X9_number_16 h hx)
