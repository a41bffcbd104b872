/-! X0_size -/
def f_X0_size (s : cS) : Int32 :=
  (iG s 162 2)
set_option maxRecDepth 20000 in
set_option maxHeartbeats 4000000 in
theorem p_X0_size {g : pG} {l : Launch} {s : cS} {q : Int32} (h : f_X0_size s = q) : PM g l 1 M_X0_size [.ref 162] (tS s) (some (.int q)) (tS s) 0 0 := by
  refine PM.of (by decide +kernel) (Nat.le_of_ble_eq_true rfl) ?_
  show PW g l (pRoom 1 0 0) M_X0_size _ 0 [(0, .ref 162)] [] (tS s) 0 0
  unfold f_X0_size at h
  generalize hF : pE g (some (.int q)) (tS s) 0 0 = F
  have hx := hF.symm
  refine PW.aload_n 0 0 dX0_size_0 rfl rfl rfl ?_
  refine CW.geti dX0_size_1 fL_X0_22 LA_162 (Or.inl rfl) ?_
  cases h
  subst hx
  exact PW.iret (v := (iG s 162 2)) dX0_size_4 rfl rfl (Nat.le_refl 0) (Nat.le_refl 0)
/-! X0_has -/
def f_X0_has (a0 : Int32) (s : cS) : Int32 :=
  if a0 < 0 then
    (0 : Int32)
  else
    if (iG s 162 2) ≤ a0 then
      (0 : Int32)
    else
      (1 : Int32)
set_option maxRecDepth 20000 in
set_option maxHeartbeats 4000000 in
theorem p_X0_has {g : pG} {l : Launch} {a0 : Int32} {s : cS} {q : Int32} (h : f_X0_has a0 s = q) : PM g l 1 M_X0_has [.ref 162, .int a0] (tS s) (some (.int q)) (tS s) 0 0 := by
  refine PM.of (by decide +kernel) (Nat.le_of_ble_eq_true rfl) ?_
  show PW g l (pRoom 1 0 0) M_X0_has _ 0 [(0, .ref 162), (1, .int a0)] [] (tS s) 0 0
  unfold f_X0_has at h
  generalize hF : pE g (some (.int q)) (tS s) 0 0 = F
  have hx := hF.symm
  refine PW.iload_n 1 1 dX0_has_0 rfl rfl ?_
  refine PW.if_lt (tgt := 16) dX0_has_1 (by decide) (fun c1 => ?_) (fun c1 => ?_)
  · replace h := ifp h c1
    refine PW.iconst (v := 0) dX0_has_16 (by decide) ?_
    cases h
    subst hx
    exact PW.iret (v := (0 : Int32)) dX0_has_17 rfl (narZ (Or.inl rfl)) (Nat.le_refl 0) (Nat.le_refl 0)
  · replace h := ifn h c1
    refine PW.iload_n 1 1 dX0_has_4 rfl rfl ?_
    refine PW.aload_n 0 0 dX0_has_5 rfl rfl rfl ?_
    refine CW.geti dX0_has_6 fL_X0_22 LA_162 (Or.inl rfl) ?_
    refine PW.icmp_ge (tgt := 16) dX0_has_9 (by decide) (fun c2 => ?_) (fun c2 => ?_)
    · replace h := ifp h c2
      refine PW.iconst (v := 0) dX0_has_16 (by decide) ?_
      cases h
      subst hx
      exact PW.iret (v := (0 : Int32)) dX0_has_17 rfl (narZ (Or.inl rfl)) (Nat.le_refl 0) (Nat.le_refl 0)
    · replace h := ifn h c2
      refine PW.iconst (v := 1) dX0_has_12 (by decide) ?_
      refine PW.goto (tgt := 17) dX0_has_13 (by decide) ?_
      cases h
      subst hx
      exact PW.iret (v := (1 : Int32)) dX0_has_17 rfl (narZ (Or.inr rfl)) (Nat.le_refl 0) (Nat.le_refl 0)
theorem f_X0_has_bool {a0 : Int32} {s : cS} : f_X0_has a0 s = 0 ∨ f_X0_has a0 s = 1 := by
  unfold f_X0_has
  repeat' split
  all_goals first | exact Or.inl rfl | exact Or.inr rfl
/-! X0_add -/
def f_X0_add (a0 : Int32) (a1 : Int32) (s : cS) : (Int32 × cS) :=
  sb (pA s 163 10 (iG s 162 2) a0) fun s2 =>
  sb (pA s2 164 10 (iG s2 162 2) a1) fun s5 =>
  sb (iS s5 162 2 ((iG s5 162 2) + (1 : Int32))) fun s7 =>
  (((iG s7 162 2) - (1 : Int32)), s7)
set_option maxRecDepth 20000 in
set_option maxHeartbeats 4000000 in
theorem p_X0_add {g : pG} {l : Launch} {a0 : Int32} {a1 : Int32} {s : cS} {q : Int32 × cS} (h : f_X0_add a0 a1 s = q) : PM g l 2 M_X0_add [.ref 162, .int a0, .int a1] (tS s) (some (.int q.1)) (tS q.2) 0 0 := by
  refine PM.of (by decide +kernel) (Nat.le_of_ble_eq_true rfl) ?_
  show PW g l (pRoom 2 0 0) M_X0_add _ 0 [(0, .ref 162), (1, .int a0), (2, .int a1)] [] (tS s) 0 0
  unfold f_X0_add at h
  generalize hF : pE g (some (.int q.1)) (tS q.2) 0 0 = F
  have hx := hF.symm
  refine PW.aload_n 0 0 dX0_add_0 rfl rfl rfl ?_
  refine CW.getr dX0_add_1 fL_X0_11 LA_162 (Or.inr ⟨_, rfl⟩) rfl ?_
  refine PW.aload_n 0 0 dX0_add_4 rfl rfl rfl ?_
  refine CW.geti dX0_add_5 fL_X0_22 LA_162 (Or.inl rfl) ?_
  refine PW.iload_n 1 1 dX0_add_8 rfl rfl ?_
  obtain ⟨s2, q3, h⟩ := sbnd h
  refine CW.callSNv (st := []) [.ref 163, .int (iG s 162 2), .int a0] dX0_add_9 (ps_put LA_163 q3) MS_X11_put mN_X0_25 rfl rfl (Nat.le_of_ble_eq_true rfl) (by first | decide | omega) ?_
  refine PW.aload_n 0 0 dX0_add_12 rfl rfl rfl ?_
  refine CW.getr dX0_add_13 fL_X0_15 LA_162 (Or.inr ⟨_, rfl⟩) rfl ?_
  refine PW.aload_n 0 0 dX0_add_16 rfl rfl rfl ?_
  refine CW.geti dX0_add_17 fL_X0_22 LA_162 (Or.inl rfl) ?_
  refine PW.iload_n 2 2 dX0_add_20 rfl rfl ?_
  obtain ⟨s5, q6, h⟩ := sbnd h
  refine CW.callSNv (st := []) [.ref 164, .int (iG s2 162 2), .int a1] dX0_add_21 (ps_put LA_164 q6) MS_X11_put mN_X0_25 rfl rfl (Nat.le_of_ble_eq_true rfl) (by first | decide | omega) ?_
  refine PW.aload_n 0 0 dX0_add_24 rfl rfl rfl ?_
  refine PW.dup dX0_add_25 rfl ?_
  refine CW.geti dX0_add_26 fL_X0_22 LA_162 (Or.inl rfl) ?_
  refine PW.iconst (v := 1) dX0_add_29 (by decide) ?_
  refine PW.iadd dX0_add_30 ?_
  refine CW.puti dX0_add_31 fL_X0_22 rfl LA_162 rfl ?_
  obtain ⟨s7, es7, h⟩ := sbnd h
  refine PW.sbe es7 ?_
  clear es7
  refine PW.aload_n 0 0 dX0_add_34 rfl rfl rfl ?_
  refine CW.geti dX0_add_35 fL_X0_22 LA_162 (Or.inl rfl) ?_
  refine PW.iconst (v := 1) dX0_add_38 (by decide) ?_
  refine PW.isub dX0_add_39 ?_
  cases h
  subst hx
  exact PW.iret (v := ((iG s7 162 2) - (1 : Int32))) dX0_add_40 rfl rfl (Nat.le_refl 0) (Nat.le_refl 0)
/-! X0_blow -/
def f_X0_blow (a0 : Int32) (a1 : Int32) (a2 : Int32) (s : cS) : (Unit × cS) :=
  sb (iS s 162 3 a0) fun s1 =>
  sb (iS s1 162 4 a1) fun s2 =>
  sb (iS s2 162 5 a2) fun s3 =>
  ((), s3)
set_option maxRecDepth 20000 in
set_option maxHeartbeats 4000000 in
theorem p_X0_blow {g : pG} {l : Launch} {a0 : Int32} {a1 : Int32} {a2 : Int32} {s : cS} {q : Unit × cS} (h : f_X0_blow a0 a1 a2 s = q) : PM g l 1 M_X0_blow [.ref 162, .int a0, .int a1, .int a2] (tS s) none (tS q.2) 0 0 := by
  refine PM.of (by decide +kernel) (Nat.le_of_ble_eq_true rfl) ?_
  show PW g l (pRoom 1 0 0) M_X0_blow _ 0 [(0, .ref 162), (1, .int a0), (2, .int a1), (3, .int a2)] [] (tS s) 0 0
  unfold f_X0_blow at h
  generalize hF : pE g none (tS q.2) 0 0 = F
  have hx := hF.symm
  refine PW.aload_n 0 0 dX0_blow_0 rfl rfl rfl ?_
  refine PW.iload_n 1 1 dX0_blow_1 rfl rfl ?_
  refine CW.puti dX0_blow_2 fL_X0_18 rfl LA_162 rfl ?_
  obtain ⟨s1, es1, h⟩ := sbnd h
  refine PW.sbe es1 ?_
  clear es1
  refine PW.aload_n 0 0 dX0_blow_5 rfl rfl rfl ?_
  refine PW.iload_n 2 2 dX0_blow_6 rfl rfl ?_
  refine CW.puti dX0_blow_7 fL_X0_29 rfl LA_162 rfl ?_
  obtain ⟨s2, es2, h⟩ := sbnd h
  refine PW.sbe es2 ?_
  clear es2
  refine PW.aload_n 0 0 dX0_blow_10 rfl rfl rfl ?_
  refine PW.iload_n 3 3 dX0_blow_11 rfl rfl ?_
  refine CW.puti dX0_blow_12 fL_X0_32 rfl LA_162 rfl ?_
  obtain ⟨s3, es3, h⟩ := sbnd h
  refine PW.sbe es3 ?_
  clear es3
  cases h
  subst hx
  exact PW.vret dX0_blow_15 rfl (Nat.le_refl 0) (Nat.le_refl 0)
/-! X0_secondBy -/
def f_X0_secondBy (a0 : Int32) (a1 : Int32) (s : cS) : Option (Int32 × cS) :=
  if ((aA s 163 10 a0) - (a1 * (aA s 164 10 a0))) < 0 then
    some (((-1 : Int32), s))
  else
    if (iG s 162 3) < (1 : Int32) then
      some (((-1 : Int32), s))
    else
      if (iG s 162 3) = 0 then none else
      if (((aA s 163 10 a0) - (a1 * (aA s 164 10 a0))) - ((aA s 163 10 a0) - (a1 * (aA s 164 10 a0))) / (iG s 162 3) * (iG s 162 3)) = 0 then
        if (iG s 162 3) = 0 then none else
        if (((aA s 163 10 a0) - (a1 * (aA s 164 10 a0))) / (iG s 162 3)) ≤ (9999 : Int32) then
          if (iG s 162 3) = 0 then none else
          some (((((aA s 163 10 a0) - (a1 * (aA s 164 10 a0))) / (iG s 162 3)), s))
        else
          some (((-1 : Int32), s))
      else
        some (((-1 : Int32), s))
set_option maxRecDepth 20000 in
set_option maxHeartbeats 4000000 in
theorem p_X0_secondBy {g : pG} {l : Launch} {a0 : Int32} {a1 : Int32} {s : cS} {q : Int32 × cS} (h : f_X0_secondBy a0 a1 s = some q) : PM g l 2 M_X0_secondBy [.ref 162, .int a0, .int a1] (tS s) (some (.int q.1)) (tS q.2) 0 0 := by
  refine PM.of (by decide +kernel) (Nat.le_of_ble_eq_true rfl) ?_
  show PW g l (pRoom 2 0 0) M_X0_secondBy _ 0 [(0, .ref 162), (1, .int a0), (2, .int a1)] [] (tS s) 0 0
  unfold f_X0_secondBy at h
  generalize hF : pE g (some (.int q.1)) (tS q.2) 0 0 = F
  have hx := hF.symm
  refine PW.aload_n 0 0 dX0_secondBy_0 rfl rfl rfl ?_
  refine CW.getr dX0_secondBy_1 fL_X0_11 LA_162 (Or.inr ⟨_, rfl⟩) rfl ?_
  refine PW.iload_n 1 1 dX0_secondBy_4 rfl rfl ?_
  refine CW.callSNi (st := []) [.ref 163, .int a0] dX0_secondBy_5 (ps_at LA_163 rfl) MS_X11_at mN_X0_35 rfl rfl (Nat.le_of_ble_eq_true rfl) (by first | decide | omega) ?_
  refine PW.iload_n 2 2 dX0_secondBy_8 rfl rfl ?_
  refine PW.aload_n 0 0 dX0_secondBy_9 rfl rfl rfl ?_
  refine CW.getr dX0_secondBy_10 fL_X0_15 LA_162 (Or.inr ⟨_, rfl⟩) rfl ?_
  refine PW.iload_n 1 1 dX0_secondBy_13 rfl rfl ?_
  refine CW.callSNi (st := [.int a1, .int (aA s 163 10 a0)]) [.ref 164, .int a0] dX0_secondBy_14 (ps_at LA_164 rfl) MS_X11_at mN_X0_35 rfl rfl (Nat.le_of_ble_eq_true rfl) (by first | decide | omega) ?_
  refine PW.imul dX0_secondBy_17 ?_
  refine PW.isub dX0_secondBy_18 ?_
  refine PW.istore_n dX0_secondBy_19 rfl (Nat.le_of_ble_eq_true rfl) rfl ?_
  refine PW.iload_n 0 3 dX0_secondBy_20 rfl rfl ?_
  refine PW.if_lt (tgt := 53) dX0_secondBy_21 (by decide) (fun c3 => ?_) (fun c3 => ?_)
  · replace h := ifp h c3
    refine PW.iconst (v := (-1)) dX0_secondBy_53 (by decide) ?_
    cases h
    subst hx
    exact PW.iret (v := (-1 : Int32)) dX0_secondBy_54 rfl rfl (Nat.le_refl 0) (Nat.le_refl 0)
  · replace h := ifn h c3
    refine PW.aload_n 1 0 dX0_secondBy_24 rfl rfl rfl ?_
    refine CW.geti dX0_secondBy_25 fL_X0_18 LA_162 (Or.inl rfl) ?_
    refine PW.iconst (v := 1) dX0_secondBy_28 (by decide) ?_
    refine PW.icmp_lt (tgt := 53) dX0_secondBy_29 (by decide) (fun c4 => ?_) (fun c4 => ?_)
    · replace h := ifp h c4
      refine PW.iconst (v := (-1)) dX0_secondBy_53 (by decide) ?_
      cases h
      subst hx
      exact PW.iret (v := (-1 : Int32)) dX0_secondBy_54 rfl rfl (Nat.le_refl 0) (Nat.le_refl 0)
    · replace h := ifn h c4
      refine PW.iload_n 0 3 dX0_secondBy_32 rfl rfl ?_
      refine PW.aload_n 1 0 dX0_secondBy_33 rfl rfl rfl ?_
      refine CW.geti dX0_secondBy_34 fL_X0_18 LA_162 (Or.inl rfl) ?_
      by_cases c5 : (iG s 162 3) = 0
      · have h := ifp h c5; cases h
      replace h := ifn h c5
      refine PW.irem dX0_secondBy_37 c5 ?_
      refine PW.if_ne (tgt := 53) dX0_secondBy_38 (by decide) (fun c6 => ?_) (fun c6 => ?_)
      · replace h := ifn h c6
        refine PW.iconst (v := (-1)) dX0_secondBy_53 (by decide) ?_
        cases h
        subst hx
        exact PW.iret (v := (-1 : Int32)) dX0_secondBy_54 rfl rfl (Nat.le_refl 0) (Nat.le_refl 0)
      · replace h := ifp h c6
        refine PW.iload_n 0 3 dX0_secondBy_41 rfl rfl ?_
        refine PW.aload_n 1 0 dX0_secondBy_42 rfl rfl rfl ?_
        refine CW.geti dX0_secondBy_43 fL_X0_18 LA_162 (Or.inl rfl) ?_
        by_cases c7 : (iG s 162 3) = 0
        · have h := ifp h c7; cases h
        replace h := ifn h c7
        refine PW.idiv dX0_secondBy_46 c7 ?_
        refine PW.sipush (v := 9999) dX0_secondBy_47 (by decide) ?_
        refine PW.icmp_le (tgt := 55) dX0_secondBy_50 (by decide) (fun c8 => ?_) (fun c8 => ?_)
        · replace h := ifp h c8
          refine PW.iload_n 0 3 dX0_secondBy_55 rfl rfl ?_
          refine PW.aload_n 1 0 dX0_secondBy_56 rfl rfl rfl ?_
          refine CW.geti dX0_secondBy_57 fL_X0_18 LA_162 (Or.inl rfl) ?_
          by_cases c9 : (iG s 162 3) = 0
          · have h := ifp h c9; cases h
          replace h := ifn h c9
          refine PW.idiv dX0_secondBy_60 c9 ?_
          cases h
          subst hx
          exact PW.iret (v := (((aA s 163 10 a0) - (a1 * (aA s 164 10 a0))) / (iG s 162 3))) dX0_secondBy_61 rfl rfl (Nat.le_refl 0) (Nat.le_refl 0)
        · replace h := ifn h c8
          refine PW.iconst (v := (-1)) dX0_secondBy_53 (by decide) ?_
          cases h
          subst hx
          exact PW.iret (v := (-1 : Int32)) dX0_secondBy_54 rfl rfl (Nat.le_refl 0) (Nat.le_refl 0)
/-! X0_earliest -/
def j_X0_earliest_42 (x1 : Int32) (x2 : Int32) (x3 : Int32) (s : cS) : Option (((Int32 × Int32) × cS) ⊕ (Int32 × cS)) :=
  some (.inl ((x2, (x3 + (1 : Int32))), s))
set_option maxRecDepth 20000 in
set_option maxHeartbeats 4000000 in
theorem ok_j_X0_earliest_42 {g : pG} {l : Launch} {F : pF} {x1 : Int32} {x2 : Int32} {x3 : Int32} {s : cS} {x : (((Int32 × Int32) × cS) ⊕ (Int32 × cS))} (h : j_X0_earliest_42 x1 x2 x3 s = some x) (hx : (KL (fun (v : (Int32 × Int32) × cS) => PW g l (pRoom 3 0 0) M_X0_earliest F 8 [(0, .ref 162), (1, .int x1), (2, .int v.1.1), (3, .int v.1.2)] [] (tS v.2) 0 0) (fun q => F = pE g (some (.int q.1)) (tS q.2) 0 0)) x) : PW g l (pRoom 3 0 0) M_X0_earliest F 42 [(0, .ref 162), (1, .int x1), (2, .int x2), (3, .int x3)] [] (tS s) 0 0 := by
  unfold j_X0_earliest_42 at h
  refine PW.iinc (v := (x3 + (1 : Int32))) 3 dX0_earliest_42 rfl (by first | rfl | decide) (Nat.le_of_ble_eq_true rfl) rfl ?_
  refine PW.goto (tgt := 8) dX0_earliest_45 (by decide) ?_
  cases h
  exact PW.pick [1, 2, 3, 0] rfl hx
def j_X0_earliest_39 (x1 : Int32) (x3 : Int32) (x4 : Int32) (s : cS) : Option (((Int32 × Int32) × cS) ⊕ (Int32 × cS)) :=
  j_X0_earliest_42 x1 x4 x3 s
set_option maxRecDepth 20000 in
set_option maxHeartbeats 4000000 in
theorem ok_j_X0_earliest_39 {g : pG} {l : Launch} {F : pF} {x1 : Int32} {x3 : Int32} {x4 : Int32} {s : cS} {x : (((Int32 × Int32) × cS) ⊕ (Int32 × cS))} (h : j_X0_earliest_39 x1 x3 x4 s = some x) (hx : (KL (fun (v : (Int32 × Int32) × cS) => PW g l (pRoom 3 0 0) M_X0_earliest F 8 [(0, .ref 162), (1, .int x1), (2, .int v.1.1), (3, .int v.1.2)] [] (tS v.2) 0 0) (fun q => F = pE g (some (.int q.1)) (tS q.2) 0 0)) x) : PW g l (pRoom 3 0 0) M_X0_earliest F 39 [(0, .ref 162), (1, .int x1), (3, .int x3), (4, .int x4)] [] (tS s) 0 0 := by
  unfold j_X0_earliest_39 at h
  refine PW.iload 3 dX0_earliest_39 rfl ?_
  refine PW.istore_n dX0_earliest_41 rfl (Nat.le_of_ble_eq_true rfl) rfl ?_
  exact PW.pick [1, 2, 0, 3] rfl (ok_j_X0_earliest_42 h hx)
def b_X0_earliest_8 (x1 : Int32) (x2 : Int32) (x3 : Int32) (s : cS) : Option (((Int32 × Int32) × cS) ⊕ (Int32 × cS)) :=
  if (iG s 162 5) < x3 then
    oR (
      some ((x2, s)))
  else
    ob (f_X0_secondBy x1 x3 s) fun r2 s3 =>
    if r2 < 0 then
      j_X0_earliest_42 x1 x2 x3 s3
    else
      if x2 < 0 then
        j_X0_earliest_39 x1 x3 r2 s3
      else
        if x2 ≤ r2 then
          j_X0_earliest_42 x1 x2 x3 s3
        else
          j_X0_earliest_39 x1 x3 r2 s3
set_option maxRecDepth 20000 in
set_option maxHeartbeats 4000000 in
theorem ok_b_X0_earliest_8 {g : pG} {l : Launch} {F : pF} {x1 : Int32} {x2 : Int32} {x3 : Int32} {s : cS} {x : (((Int32 × Int32) × cS) ⊕ (Int32 × cS))} (h : b_X0_earliest_8 x1 x2 x3 s = some x) (hx : (KL (fun (v : (Int32 × Int32) × cS) => PW g l (pRoom 3 0 0) M_X0_earliest F 8 [(0, .ref 162), (1, .int x1), (2, .int v.1.1), (3, .int v.1.2)] [] (tS v.2) 0 0) (fun q => F = pE g (some (.int q.1)) (tS q.2) 0 0)) x) : PW g l (pRoom 3 0 0) M_X0_earliest F 8 [(0, .ref 162), (1, .int x1), (2, .int x2), (3, .int x3)] [] (tS s) 0 0 := by
  unfold b_X0_earliest_8 at h
  refine PW.iload_n 3 3 dX0_earliest_8 rfl rfl ?_
  refine PW.aload_n 0 0 dX0_earliest_9 rfl rfl rfl ?_
  refine CW.geti dX0_earliest_10 fL_X0_32 LA_162 (Or.inl rfl) ?_
  refine PW.icmp_gt (tgt := 48) dX0_earliest_13 (by decide) (fun c1 => ?_) (fun c1 => ?_)
  · replace h := ifp h c1
    obtain ⟨xo, hy, hxo⟩ := oRb h
    clear h
    subst hxo
    replace hx := KLr hx
    have h := hy
    clear hy
    refine PW.iload_n 2 2 dX0_earliest_48 rfl rfl ?_
    cases h
    subst hx
    exact PW.iret (v := x2) dX0_earliest_49 rfl rfl (Nat.le_refl 0) (Nat.le_refl 0)
  · replace h := ifn h c1
    refine PW.aload_n 0 0 dX0_earliest_16 rfl rfl rfl ?_
    refine PW.iload_n 1 1 dX0_earliest_17 rfl rfl ?_
    refine PW.iload_n 3 3 dX0_earliest_18 rfl rfl ?_
    obtain ⟨r2, s3, q4, h⟩ := obnd h
    refine CW.callVi (ci := 0) (st := []) [.int x1, .int x3] dX0_earliest_19 (p_X0_secondBy q4) MV_X0_secondBy mL_X0_39 (by decide) rfl LA_162 rfl rfl (Nat.le_of_ble_eq_true rfl) (by first | decide | omega) ?_
    refine PW.istore dX0_earliest_22 (Nat.le_of_ble_eq_true rfl) rfl ?_
    refine PW.iload 0 dX0_earliest_24 rfl ?_
    refine PW.if_lt (tgt := 42) dX0_earliest_26 (by decide) (fun c5 => ?_) (fun c5 => ?_)
    · replace h := ifp h c5
      exact PW.pick [1, 2, 3, 4] rfl (ok_j_X0_earliest_42 h hx)
    · replace h := ifn h c5
      refine PW.iload_n 3 2 dX0_earliest_29 rfl rfl ?_
      refine PW.if_lt (tgt := 39) dX0_earliest_30 (by decide) (fun c6 => ?_) (fun c6 => ?_)
      · replace h := ifp h c6
        exact PW.pick [1, 2, 4, 0] rfl (ok_j_X0_earliest_39 h hx)
      · replace h := ifn h c6
        refine PW.iload 0 dX0_earliest_33 rfl ?_
        refine PW.iload_n 3 2 dX0_earliest_35 rfl rfl ?_
        refine PW.icmp_ge (tgt := 42) dX0_earliest_36 (by decide) (fun c7 => ?_) (fun c7 => ?_)
        · replace h := ifp h c7
          exact PW.pick [1, 2, 3, 4] rfl (ok_j_X0_earliest_42 h hx)
        · replace h := ifn h c7
          exact PW.pick [1, 2, 4, 0] rfl (ok_j_X0_earliest_39 h hx)
def w_X0_earliest_8 (N : Nat) (x1 : Int32) (x2 : Int32) (x3 : Int32) (s : cS) : Option (Int32 × cS) := itr (fun (v : (Int32 × Int32) × cS) => b_X0_earliest_8 x1 v.1.1 v.1.2 v.2) N ((x2, x3), s)
theorem ok_w_X0_earliest_8 {g : pG} {l : Launch} {F : pF} {N : Nat} {x1 : Int32} {x2 : Int32} {x3 : Int32} {s : cS} {x : (Int32 × cS)} (h : w_X0_earliest_8 N x1 x2 x3 s = some x) (hx : (fun q => F = pE g (some (.int q.1)) (tS q.2) 0 0) x) : PW g l (pRoom 3 0 0) M_X0_earliest F 8 [(0, .ref 162), (1, .int x1), (2, .int x2), (3, .int x3)] [] (tS s) 0 0 :=
  okIter (P := (fun (v : (Int32 × Int32) × cS) => PW g l (pRoom 3 0 0) M_X0_earliest F 8 [(0, .ref 162), (1, .int x1), (2, .int v.1.1), (3, .int v.1.2)] [] (tS v.2) 0 0)) (K := (fun q => F = pE g (some (.int q.1)) (tS q.2) 0 0)) (fun v y hB hy => ok_b_X0_earliest_8 hB hy) N ((x2, x3), s) x h hx
def f_X0_earliest (N : Nat) (a0 : Int32) (s : cS) : Option (Int32 × cS) :=
  w_X0_earliest_8 N a0 (-2 : Int32) (iG s 162 4) s
set_option maxRecDepth 20000 in
set_option maxHeartbeats 4000000 in
theorem p_X0_earliest {g : pG} {l : Launch} {N : Nat} {a0 : Int32} {s : cS} {q : Int32 × cS} (h : f_X0_earliest N a0 s = some q) : PM g l 3 M_X0_earliest [.ref 162, .int a0] (tS s) (some (.int q.1)) (tS q.2) 0 0 := by
  refine PM.of (by decide +kernel) (Nat.le_of_ble_eq_true rfl) ?_
  show PW g l (pRoom 3 0 0) M_X0_earliest _ 0 [(0, .ref 162), (1, .int a0)] [] (tS s) 0 0
  unfold f_X0_earliest at h
  generalize hF : pE g (some (.int q.1)) (tS q.2) 0 0 = F
  have hx := hF.symm
  refine PW.bipush (v := (-2)) dX0_earliest_0 (by decide) ?_
  refine PW.istore_n dX0_earliest_2 rfl (Nat.le_of_ble_eq_true rfl) rfl ?_
  refine PW.aload_n 1 0 dX0_earliest_3 rfl rfl rfl ?_
  refine CW.geti dX0_earliest_4 fL_X0_29 LA_162 (Or.inl rfl) ?_
  refine PW.istore_n dX0_earliest_7 rfl (Nat.le_of_ble_eq_true rfl) rfl ?_
  exact PW.pick [2, 3, 1, 0] rfl (ok_w_X0_earliest_8 h hx)
/-! X0_latest -/
def j_X0_latest_38 (x1 : Int32) (x2 : Int32) (x3 : Int32) (s : cS) : Option (((Int32 × Int32) × cS) ⊕ (Int32 × cS)) :=
  some (.inl ((x2, (x3 + (1 : Int32))), s))
set_option maxRecDepth 20000 in
set_option maxHeartbeats 4000000 in
theorem ok_j_X0_latest_38 {g : pG} {l : Launch} {F : pF} {x1 : Int32} {x2 : Int32} {x3 : Int32} {s : cS} {x : (((Int32 × Int32) × cS) ⊕ (Int32 × cS))} (h : j_X0_latest_38 x1 x2 x3 s = some x) (hx : (KL (fun (v : (Int32 × Int32) × cS) => PW g l (pRoom 3 0 0) M_X0_latest F 8 [(0, .ref 162), (1, .int x1), (2, .int v.1.1), (3, .int v.1.2)] [] (tS v.2) 0 0) (fun q => F = pE g (some (.int q.1)) (tS q.2) 0 0)) x) : PW g l (pRoom 3 0 0) M_X0_latest F 38 [(0, .ref 162), (1, .int x1), (2, .int x2), (3, .int x3)] [] (tS s) 0 0 := by
  unfold j_X0_latest_38 at h
  refine PW.iinc (v := (x3 + (1 : Int32))) 3 dX0_latest_38 rfl (by first | rfl | decide) (Nat.le_of_ble_eq_true rfl) rfl ?_
  refine PW.goto (tgt := 8) dX0_latest_41 (by decide) ?_
  cases h
  exact PW.pick [1, 2, 3, 0] rfl hx
def b_X0_latest_8 (x1 : Int32) (x2 : Int32) (x3 : Int32) (s : cS) : Option (((Int32 × Int32) × cS) ⊕ (Int32 × cS)) :=
  if (iG s 162 5) < x3 then
    oR (
      some ((x2, s)))
  else
    ob (f_X0_secondBy x1 x3 s) fun r2 s3 =>
    if r2 < 0 then
      j_X0_latest_38 x1 x2 x3 s3
    else
      if r2 ≤ x2 then
        j_X0_latest_38 x1 x2 x3 s3
      else
        j_X0_latest_38 x1 r2 x3 s3
set_option maxRecDepth 20000 in
set_option maxHeartbeats 4000000 in
theorem ok_b_X0_latest_8 {g : pG} {l : Launch} {F : pF} {x1 : Int32} {x2 : Int32} {x3 : Int32} {s : cS} {x : (((Int32 × Int32) × cS) ⊕ (Int32 × cS))} (h : b_X0_latest_8 x1 x2 x3 s = some x) (hx : (KL (fun (v : (Int32 × Int32) × cS) => PW g l (pRoom 3 0 0) M_X0_latest F 8 [(0, .ref 162), (1, .int x1), (2, .int v.1.1), (3, .int v.1.2)] [] (tS v.2) 0 0) (fun q => F = pE g (some (.int q.1)) (tS q.2) 0 0)) x) : PW g l (pRoom 3 0 0) M_X0_latest F 8 [(0, .ref 162), (1, .int x1), (2, .int x2), (3, .int x3)] [] (tS s) 0 0 := by
  unfold b_X0_latest_8 at h
  refine PW.iload_n 3 3 dX0_latest_8 rfl rfl ?_
  refine PW.aload_n 0 0 dX0_latest_9 rfl rfl rfl ?_
  refine CW.geti dX0_latest_10 fL_X0_32 LA_162 (Or.inl rfl) ?_
  refine PW.icmp_gt (tgt := 44) dX0_latest_13 (by decide) (fun c1 => ?_) (fun c1 => ?_)
  · replace h := ifp h c1
    obtain ⟨xo, hy, hxo⟩ := oRb h
    clear h
    subst hxo
    replace hx := KLr hx
    have h := hy
    clear hy
    refine PW.iload_n 2 2 dX0_latest_44 rfl rfl ?_
    cases h
    subst hx
    exact PW.iret (v := x2) dX0_latest_45 rfl rfl (Nat.le_refl 0) (Nat.le_refl 0)
  · replace h := ifn h c1
    refine PW.aload_n 0 0 dX0_latest_16 rfl rfl rfl ?_
    refine PW.iload_n 1 1 dX0_latest_17 rfl rfl ?_
    refine PW.iload_n 3 3 dX0_latest_18 rfl rfl ?_
    obtain ⟨r2, s3, q4, h⟩ := obnd h
    refine CW.callVi (ci := 0) (st := []) [.int x1, .int x3] dX0_latest_19 (p_X0_secondBy q4) MV_X0_secondBy mL_X0_39 (by decide) rfl LA_162 rfl rfl (Nat.le_of_ble_eq_true rfl) (by first | decide | omega) ?_
    refine PW.istore dX0_latest_22 (Nat.le_of_ble_eq_true rfl) rfl ?_
    refine PW.iload 0 dX0_latest_24 rfl ?_
    refine PW.if_lt (tgt := 38) dX0_latest_26 (by decide) (fun c5 => ?_) (fun c5 => ?_)
    · replace h := ifp h c5
      exact PW.pick [1, 2, 3, 4] rfl (ok_j_X0_latest_38 h hx)
    · replace h := ifn h c5
      refine PW.iload 0 dX0_latest_29 rfl ?_
      refine PW.iload_n 3 2 dX0_latest_31 rfl rfl ?_
      refine PW.icmp_le (tgt := 38) dX0_latest_32 (by decide) (fun c6 => ?_) (fun c6 => ?_)
      · replace h := ifp h c6
        exact PW.pick [1, 2, 3, 4] rfl (ok_j_X0_latest_38 h hx)
      · replace h := ifn h c6
        refine PW.iload 0 dX0_latest_35 rfl ?_
        refine PW.istore_n dX0_latest_37 rfl (Nat.le_of_ble_eq_true rfl) rfl ?_
        exact PW.pick [2, 3, 0, 4] rfl (ok_j_X0_latest_38 h hx)
def w_X0_latest_8 (N : Nat) (x1 : Int32) (x2 : Int32) (x3 : Int32) (s : cS) : Option (Int32 × cS) := itr (fun (v : (Int32 × Int32) × cS) => b_X0_latest_8 x1 v.1.1 v.1.2 v.2) N ((x2, x3), s)
theorem ok_w_X0_latest_8 {g : pG} {l : Launch} {F : pF} {N : Nat} {x1 : Int32} {x2 : Int32} {x3 : Int32} {s : cS} {x : (Int32 × cS)} (h : w_X0_latest_8 N x1 x2 x3 s = some x) (hx : (fun q => F = pE g (some (.int q.1)) (tS q.2) 0 0) x) : PW g l (pRoom 3 0 0) M_X0_latest F 8 [(0, .ref 162), (1, .int x1), (2, .int x2), (3, .int x3)] [] (tS s) 0 0 :=
  okIter (P := (fun (v : (Int32 × Int32) × cS) => PW g l (pRoom 3 0 0) M_X0_latest F 8 [(0, .ref 162), (1, .int x1), (2, .int v.1.1), (3, .int v.1.2)] [] (tS v.2) 0 0)) (K := (fun q => F = pE g (some (.int q.1)) (tS q.2) 0 0)) (fun v y hB hy => ok_b_X0_latest_8 hB hy) N ((x2, x3), s) x h hx
def f_X0_latest (N : Nat) (a0 : Int32) (s : cS) : Option (Int32 × cS) :=
  w_X0_latest_8 N a0 (-2 : Int32) (iG s 162 4) s
set_option maxRecDepth 20000 in
set_option maxHeartbeats 4000000 in
theorem p_X0_latest {g : pG} {l : Launch} {N : Nat} {a0 : Int32} {s : cS} {q : Int32 × cS} (h : f_X0_latest N a0 s = some q) : PM g l 3 M_X0_latest [.ref 162, .int a0] (tS s) (some (.int q.1)) (tS q.2) 0 0 := by
  refine PM.of (by decide +kernel) (Nat.le_of_ble_eq_true rfl) ?_
  show PW g l (pRoom 3 0 0) M_X0_latest _ 0 [(0, .ref 162), (1, .int a0)] [] (tS s) 0 0
  unfold f_X0_latest at h
  generalize hF : pE g (some (.int q.1)) (tS q.2) 0 0 = F
  have hx := hF.symm
  refine PW.bipush (v := (-2)) dX0_latest_0 (by decide) ?_
  refine PW.istore_n dX0_latest_2 rfl (Nat.le_of_ble_eq_true rfl) rfl ?_
  refine PW.aload_n 1 0 dX0_latest_3 rfl rfl rfl ?_
  refine CW.geti dX0_latest_4 fL_X0_29 LA_162 (Or.inl rfl) ?_
  refine PW.istore_n dX0_latest_7 rfl (Nat.le_of_ble_eq_true rfl) rfl ?_
  exact PW.pick [2, 3, 1, 0] rfl (ok_w_X0_latest_8 h hx)
/-! X0_compare -/
def j_X0_compare_88 (x1 : Int32) (x2 : Int32) (x3 : Int32) (x4 : Int32) (s : cS) : Option (((Int32 × Int32) × cS) ⊕ (Int32 × cS)) :=
  some (.inl ((x3, (x4 + (1 : Int32))), s))
set_option maxRecDepth 20000 in
set_option maxHeartbeats 4000000 in
theorem ok_j_X0_compare_88 {g : pG} {l : Launch} {F : pF} {x1 : Int32} {x2 : Int32} {x3 : Int32} {x4 : Int32} {s : cS} {x : (((Int32 × Int32) × cS) ⊕ (Int32 × cS))} (h : j_X0_compare_88 x1 x2 x3 x4 s = some x) (hx : (KL (fun (v : (Int32 × Int32) × cS) => PW g l (pRoom 3 0 0) M_X0_compare F 8 [(0, .ref 162), (1, .int x1), (2, .int x2), (3, .int v.1.1), (4, .int v.1.2)] [] (tS v.2) 0 0) (fun q => F = pE g (some (.int q.1)) (tS q.2) 0 0)) x) : PW g l (pRoom 3 0 0) M_X0_compare F 88 [(0, .ref 162), (1, .int x1), (2, .int x2), (3, .int x3), (4, .int x4)] [] (tS s) 0 0 := by
  unfold j_X0_compare_88 at h
  refine PW.iinc (v := (x4 + (1 : Int32))) 4 dX0_compare_88 rfl (by first | rfl | decide) (Nat.le_of_ble_eq_true rfl) rfl ?_
  refine PW.goto (tgt := 8) dX0_compare_91 (by decide) ?_
  cases h
  exact PW.pick [1, 2, 3, 4, 0] rfl hx
def j_X0_compare_87 (x1 : Int32) (x2 : Int32) (x4 : Int32) (y0 : Int32) (s : cS) : Option (((Int32 × Int32) × cS) ⊕ (Int32 × cS)) :=
  j_X0_compare_88 x1 x2 y0 x4 s
set_option maxRecDepth 20000 in
set_option maxHeartbeats 4000000 in
theorem ok_j_X0_compare_87 {g : pG} {l : Launch} {F : pF} {x1 : Int32} {x2 : Int32} {x4 : Int32} {y0 : Int32} {s : cS} {x : (((Int32 × Int32) × cS) ⊕ (Int32 × cS))} (h : j_X0_compare_87 x1 x2 x4 y0 s = some x) (hx : (KL (fun (v : (Int32 × Int32) × cS) => PW g l (pRoom 3 0 0) M_X0_compare F 8 [(0, .ref 162), (1, .int x1), (2, .int x2), (3, .int v.1.1), (4, .int v.1.2)] [] (tS v.2) 0 0) (fun q => F = pE g (some (.int q.1)) (tS q.2) 0 0)) x) : PW g l (pRoom 3 0 0) M_X0_compare F 87 [(0, .ref 162), (1, .int x1), (2, .int x2), (4, .int x4)] [.int y0] (tS s) 0 0 := by
  unfold j_X0_compare_87 at h
  refine PW.istore_n dX0_compare_87 rfl (Nat.le_of_ble_eq_true rfl) rfl ?_
  exact PW.pick [1, 2, 3, 0, 4] rfl (ok_j_X0_compare_88 h hx)
def j_X0_compare_81 (x1 : Int32) (x2 : Int32) (x4 : Int32) (x7 : Int32) (s : cS) : Option (((Int32 × Int32) × cS) ⊕ (Int32 × cS)) :=
  j_X0_compare_87 x1 x2 x4 x7 s
set_option maxRecDepth 20000 in
set_option maxHeartbeats 4000000 in
theorem ok_j_X0_compare_81 {g : pG} {l : Launch} {F : pF} {x1 : Int32} {x2 : Int32} {x4 : Int32} {x7 : Int32} {s : cS} {x : (((Int32 × Int32) × cS) ⊕ (Int32 × cS))} (h : j_X0_compare_81 x1 x2 x4 x7 s = some x) (hx : (KL (fun (v : (Int32 × Int32) × cS) => PW g l (pRoom 3 0 0) M_X0_compare F 8 [(0, .ref 162), (1, .int x1), (2, .int x2), (3, .int v.1.1), (4, .int v.1.2)] [] (tS v.2) 0 0) (fun q => F = pE g (some (.int q.1)) (tS q.2) 0 0)) x) : PW g l (pRoom 3 0 0) M_X0_compare F 81 [(0, .ref 162), (1, .int x1), (2, .int x2), (4, .int x4), (7, .int x7)] [] (tS s) 0 0 := by
  unfold j_X0_compare_81 at h
  refine PW.iload 4 dX0_compare_81 rfl ?_
  refine PW.goto (tgt := 87) dX0_compare_83 (by decide) ?_
  exact PW.pick [0, 1, 2, 3] rfl (ok_j_X0_compare_87 h hx)
def j_X0_compare_68 (x1 : Int32) (x2 : Int32) (x3 : Int32) (x4 : Int32) (y0 : Int32) (s : cS) : Option (((Int32 × Int32) × cS) ⊕ (Int32 × cS)) :=
  if x3 = (4 : Int32) then
    j_X0_compare_81 x1 x2 x4 y0 s
  else
    if x3 = y0 then
      j_X0_compare_81 x1 x2 x4 y0 s
    else
      j_X0_compare_87 x1 x2 x4 (3 : Int32) s
set_option maxRecDepth 20000 in
set_option maxHeartbeats 4000000 in
theorem ok_j_X0_compare_68 {g : pG} {l : Launch} {F : pF} {x1 : Int32} {x2 : Int32} {x3 : Int32} {x4 : Int32} {y0 : Int32} {s : cS} {x : (((Int32 × Int32) × cS) ⊕ (Int32 × cS))} (h : j_X0_compare_68 x1 x2 x3 x4 y0 s = some x) (hx : (KL (fun (v : (Int32 × Int32) × cS) => PW g l (pRoom 3 0 0) M_X0_compare F 8 [(0, .ref 162), (1, .int x1), (2, .int x2), (3, .int v.1.1), (4, .int v.1.2)] [] (tS v.2) 0 0) (fun q => F = pE g (some (.int q.1)) (tS q.2) 0 0)) x) : PW g l (pRoom 3 0 0) M_X0_compare F 68 [(0, .ref 162), (1, .int x1), (2, .int x2), (3, .int x3), (4, .int x4)] [.int y0] (tS s) 0 0 := by
  unfold j_X0_compare_68 at h
  refine PW.istore dX0_compare_68 (Nat.le_of_ble_eq_true rfl) rfl ?_
  refine PW.iload_n 4 3 dX0_compare_70 rfl rfl ?_
  refine PW.iconst (v := 4) dX0_compare_71 (by decide) ?_
  refine PW.icmp_eq (tgt := 81) dX0_compare_72 (by decide) (fun c12 => ?_) (fun c12 => ?_)
  · replace h := ifp h c12
    exact PW.pick [1, 2, 3, 5, 0] rfl (ok_j_X0_compare_81 h hx)
  · replace h := ifn h c12
    refine PW.iload_n 4 3 dX0_compare_75 rfl rfl ?_
    refine PW.iload 0 dX0_compare_76 rfl ?_
    refine PW.icmp_ne (tgt := 86) dX0_compare_78 (by decide) (fun c13 => ?_) (fun c13 => ?_)
    · replace h := ifn h c13
      refine PW.iconst (v := 3) dX0_compare_86 (by decide) ?_
      exact PW.pick [1, 2, 3, 5] rfl (ok_j_X0_compare_87 h hx)
    · replace h := ifp h c13
      exact PW.pick [1, 2, 3, 5, 0] rfl (ok_j_X0_compare_81 h hx)
def b_X0_compare_8 (x1 : Int32) (x2 : Int32) (x3 : Int32) (x4 : Int32) (s : cS) : Option (((Int32 × Int32) × cS) ⊕ (Int32 × cS)) :=
  if (iG s 162 5) < x4 then
    oR (
      some ((x3, s)))
  else
    ob (f_X0_secondBy x1 x4 s) fun r2 s3 =>
    ob (f_X0_secondBy x2 x4 s3) fun r5 s6 =>
    if r2 < 0 then
      j_X0_compare_88 x1 x2 x3 x4 s6
    else
      if r5 < 0 then
        j_X0_compare_88 x1 x2 x3 x4 s6
      else
        if r5 ≤ r2 then
          if r2 ≤ r5 then
            j_X0_compare_68 x1 x2 x3 x4 (2 : Int32) s6
          else
            j_X0_compare_68 x1 x2 x3 x4 (1 : Int32) s6
        else
          j_X0_compare_68 x1 x2 x3 x4 (0 : Int32) s6
set_option maxRecDepth 20000 in
set_option maxHeartbeats 4000000 in
theorem ok_b_X0_compare_8 {g : pG} {l : Launch} {F : pF} {x1 : Int32} {x2 : Int32} {x3 : Int32} {x4 : Int32} {s : cS} {x : (((Int32 × Int32) × cS) ⊕ (Int32 × cS))} (h : b_X0_compare_8 x1 x2 x3 x4 s = some x) (hx : (KL (fun (v : (Int32 × Int32) × cS) => PW g l (pRoom 3 0 0) M_X0_compare F 8 [(0, .ref 162), (1, .int x1), (2, .int x2), (3, .int v.1.1), (4, .int v.1.2)] [] (tS v.2) 0 0) (fun q => F = pE g (some (.int q.1)) (tS q.2) 0 0)) x) : PW g l (pRoom 3 0 0) M_X0_compare F 8 [(0, .ref 162), (1, .int x1), (2, .int x2), (3, .int x3), (4, .int x4)] [] (tS s) 0 0 := by
  unfold b_X0_compare_8 at h
  refine PW.iload 4 dX0_compare_8 rfl ?_
  refine PW.aload_n 0 0 dX0_compare_10 rfl rfl rfl ?_
  refine CW.geti dX0_compare_11 fL_X0_32 LA_162 (Or.inl rfl) ?_
  refine PW.icmp_gt (tgt := 94) dX0_compare_14 (by decide) (fun c1 => ?_) (fun c1 => ?_)
  · replace h := ifp h c1
    obtain ⟨xo, hy, hxo⟩ := oRb h
    clear h
    subst hxo
    replace hx := KLr hx
    have h := hy
    clear hy
    refine PW.iload_n 3 3 dX0_compare_94 rfl rfl ?_
    cases h
    subst hx
    exact PW.iret (v := x3) dX0_compare_95 rfl rfl (Nat.le_refl 0) (Nat.le_refl 0)
  · replace h := ifn h c1
    refine PW.aload_n 0 0 dX0_compare_17 rfl rfl rfl ?_
    refine PW.iload_n 1 1 dX0_compare_18 rfl rfl ?_
    refine PW.iload 4 dX0_compare_19 rfl ?_
    obtain ⟨r2, s3, q4, h⟩ := obnd h
    refine CW.callVi (ci := 0) (st := []) [.int x1, .int x4] dX0_compare_21 (p_X0_secondBy q4) MV_X0_secondBy mL_X0_39 (by decide) rfl LA_162 rfl rfl (Nat.le_of_ble_eq_true rfl) (by first | decide | omega) ?_
    refine PW.istore dX0_compare_24 (Nat.le_of_ble_eq_true rfl) rfl ?_
    refine PW.aload_n 1 0 dX0_compare_26 rfl rfl rfl ?_
    refine PW.iload_n 3 2 dX0_compare_27 rfl rfl ?_
    refine PW.iload 5 dX0_compare_28 rfl ?_
    obtain ⟨r5, s6, q7, h⟩ := obnd h
    refine CW.callVi (ci := 0) (st := []) [.int x2, .int x4] dX0_compare_30 (p_X0_secondBy q7) MV_X0_secondBy mL_X0_39 (by decide) rfl LA_162 rfl rfl (Nat.le_of_ble_eq_true rfl) (by first | decide | omega) ?_
    refine PW.istore dX0_compare_33 (Nat.le_of_ble_eq_true rfl) rfl ?_
    refine PW.iload 1 dX0_compare_35 rfl ?_
    refine PW.if_lt (tgt := 88) dX0_compare_37 (by decide) (fun c8 => ?_) (fun c8 => ?_)
    · replace h := ifp h c8
      exact PW.pick [2, 3, 4, 5, 6] rfl (ok_j_X0_compare_88 h hx)
    · replace h := ifn h c8
      refine PW.iload 0 dX0_compare_40 rfl ?_
      refine PW.if_lt (tgt := 88) dX0_compare_42 (by decide) (fun c9 => ?_) (fun c9 => ?_)
      · replace h := ifp h c9
        exact PW.pick [2, 3, 4, 5, 6] rfl (ok_j_X0_compare_88 h hx)
      · replace h := ifn h c9
        refine PW.iload 1 dX0_compare_45 rfl ?_
        refine PW.iload 0 dX0_compare_47 rfl ?_
        refine PW.icmp_ge (tgt := 56) dX0_compare_49 (by decide) (fun c10 => ?_) (fun c10 => ?_)
        · replace h := ifp h c10
          refine PW.iload 1 dX0_compare_56 rfl ?_
          refine PW.iload 0 dX0_compare_58 rfl ?_
          refine PW.icmp_le (tgt := 67) dX0_compare_60 (by decide) (fun c11 => ?_) (fun c11 => ?_)
          · replace h := ifp h c11
            refine PW.iconst (v := 2) dX0_compare_67 (by decide) ?_
            exact PW.pick [2, 3, 4, 5, 6] rfl (ok_j_X0_compare_68 h hx)
          · replace h := ifn h c11
            refine PW.iconst (v := 1) dX0_compare_63 (by decide) ?_
            refine PW.goto (tgt := 68) dX0_compare_64 (by decide) ?_
            exact PW.pick [2, 3, 4, 5, 6] rfl (ok_j_X0_compare_68 h hx)
        · replace h := ifn h c10
          refine PW.iconst (v := 0) dX0_compare_52 (by decide) ?_
          refine PW.goto (tgt := 68) dX0_compare_53 (by decide) ?_
          exact PW.pick [2, 3, 4, 5, 6] rfl (ok_j_X0_compare_68 h hx)
def w_X0_compare_8 (N : Nat) (x1 : Int32) (x2 : Int32) (x3 : Int32) (x4 : Int32) (s : cS) : Option (Int32 × cS) := itr (fun (v : (Int32 × Int32) × cS) => b_X0_compare_8 x1 x2 v.1.1 v.1.2 v.2) N ((x3, x4), s)
theorem ok_w_X0_compare_8 {g : pG} {l : Launch} {F : pF} {N : Nat} {x1 : Int32} {x2 : Int32} {x3 : Int32} {x4 : Int32} {s : cS} {x : (Int32 × cS)} (h : w_X0_compare_8 N x1 x2 x3 x4 s = some x) (hx : (fun q => F = pE g (some (.int q.1)) (tS q.2) 0 0) x) : PW g l (pRoom 3 0 0) M_X0_compare F 8 [(0, .ref 162), (1, .int x1), (2, .int x2), (3, .int x3), (4, .int x4)] [] (tS s) 0 0 :=
  okIter (P := (fun (v : (Int32 × Int32) × cS) => PW g l (pRoom 3 0 0) M_X0_compare F 8 [(0, .ref 162), (1, .int x1), (2, .int x2), (3, .int v.1.1), (4, .int v.1.2)] [] (tS v.2) 0 0)) (K := (fun q => F = pE g (some (.int q.1)) (tS q.2) 0 0)) (fun v y hB hy => ok_b_X0_compare_8 hB hy) N ((x3, x4), s) x h hx
def f_X0_compare (N : Nat) (a0 : Int32) (a1 : Int32) (s : cS) : Option (Int32 × cS) :=
  w_X0_compare_8 N a0 a1 (4 : Int32) (iG s 162 4) s
set_option maxRecDepth 20000 in
set_option maxHeartbeats 4000000 in
theorem p_X0_compare {g : pG} {l : Launch} {N : Nat} {a0 : Int32} {a1 : Int32} {s : cS} {q : Int32 × cS} (h : f_X0_compare N a0 a1 s = some q) : PM g l 3 M_X0_compare [.ref 162, .int a0, .int a1] (tS s) (some (.int q.1)) (tS q.2) 0 0 := by
  refine PM.of (by decide +kernel) (Nat.le_of_ble_eq_true rfl) ?_
  show PW g l (pRoom 3 0 0) M_X0_compare _ 0 [(0, .ref 162), (1, .int a0), (2, .int a1)] [] (tS s) 0 0
  unfold f_X0_compare at h
  generalize hF : pE g (some (.int q.1)) (tS q.2) 0 0 = F
  have hx := hF.symm
  refine PW.iconst (v := 4) dX0_compare_0 (by decide) ?_
  refine PW.istore_n dX0_compare_1 rfl (Nat.le_of_ble_eq_true rfl) rfl ?_
  refine PW.aload_n 1 0 dX0_compare_2 rfl rfl rfl ?_
  refine CW.geti dX0_compare_3 fL_X0_29 LA_162 (Or.inl rfl) ?_
  refine PW.istore dX0_compare_6 (Nat.le_of_ble_eq_true rfl) rfl ?_
  exact PW.pick [2, 3, 4, 1, 0] rfl (ok_w_X0_compare_8 h hx)
