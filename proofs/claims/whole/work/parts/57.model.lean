/-! X12_wind -/
def f_X12_wind (a0 : Int32) (a1 : Int32) (a2 : Int32) (s : cS) : (Int32 × cS) :=
  if (lIn a0.toInt64 (1 : Int64) (50 : Int64)) = 0 then
    ((0 : Int32), s)
  else
    if (lIn a1.toInt64 (-20 : Int64) (20 : Int64)) = 0 then
      ((0 : Int32), s)
    else
      if (lIn a2.toInt64 a1.toInt64 (20 : Int64)) = 0 then
        ((0 : Int32), s)
      else
        sb (iS s 193 69 a0) fun s7 =>
        sb (iS s7 193 70 a1) fun s8 =>
        sb (iS s8 193 71 a2) fun s9 =>
        ((1 : Int32), s9)
set_option maxRecDepth 20000 in
set_option maxHeartbeats 4000000 in
theorem p_X12_wind {g : pG} {l : Launch} {a0 : Int32} {a1 : Int32} {a2 : Int32} {s : cS} {q : Int32 × cS} (h : f_X12_wind a0 a1 a2 s = q) : PM g l 2 M_X12_wind [.ref 193, .int a0, .int a1, .int a2] (tS s) (some (.int q.1)) (tS q.2) 0 0 := by
  refine PM.of (by decide +kernel) (Nat.le_of_ble_eq_true rfl) ?_
  show PW g l (pRoom 2 0 0) M_X12_wind _ 0 [(0, .ref 193), (1, .int a0), (2, .int a1), (3, .int a2)] [] (tS s) 0 0
  unfold f_X12_wind at h
  generalize hF : pE g (some (.int q.1)) (tS q.2) 0 0 = F
  have hx := hF.symm
  refine PW.iload_n 1 1 dX12_wind_0 rfl rfl ?_
  refine PW.i2l dX12_wind_1 ?_
  refine PW.lconst (v := 1) dX12_wind_2 (by decide) ?_
  refine PW.ldc2_w dX12_wind_3 kL_X12_173 ?_
  refine CW.callSi (st := []) [.long a0.toInt64, .long (1 : Int64), .long (50 : Int64)] dX12_wind_6 (ps_isIn rfl) MS_X12_isIn mL_X12_164 rfl rfl (Nat.le_of_ble_eq_true rfl) (by first | decide | omega) ?_
  refine PW.if_eq (tgt := 39) dX12_wind_9 (by decide) (fun c2 => ?_) (fun c2 => ?_)
  · replace h := ifp h c2
    refine PW.iconst (v := 0) dX12_wind_39 (by decide) ?_
    cases h
    subst hx
    exact PW.iret (v := (0 : Int32)) dX12_wind_40 rfl (narZ (Or.inl rfl)) (Nat.le_refl 0) (Nat.le_refl 0)
  · replace h := ifn h c2
    refine PW.iload_n 2 2 dX12_wind_12 rfl rfl ?_
    refine PW.i2l dX12_wind_13 ?_
    refine PW.ldc2_w dX12_wind_14 kL_X12_462 ?_
    refine PW.ldc2_w dX12_wind_17 kL_X12_464 ?_
    refine CW.callSi (st := []) [.long a1.toInt64, .long (-20 : Int64), .long (20 : Int64)] dX12_wind_20 (ps_isIn rfl) MS_X12_isIn mL_X12_164 rfl rfl (Nat.le_of_ble_eq_true rfl) (by first | decide | omega) ?_
    refine PW.if_eq (tgt := 39) dX12_wind_23 (by decide) (fun c4 => ?_) (fun c4 => ?_)
    · replace h := ifp h c4
      refine PW.iconst (v := 0) dX12_wind_39 (by decide) ?_
      cases h
      subst hx
      exact PW.iret (v := (0 : Int32)) dX12_wind_40 rfl (narZ (Or.inl rfl)) (Nat.le_refl 0) (Nat.le_refl 0)
    · replace h := ifn h c4
      refine PW.iload_n 3 3 dX12_wind_26 rfl rfl ?_
      refine PW.i2l dX12_wind_27 ?_
      refine PW.iload_n 2 2 dX12_wind_28 rfl rfl ?_
      refine PW.i2l dX12_wind_29 ?_
      refine PW.ldc2_w dX12_wind_30 kL_X12_464 ?_
      refine CW.callSi (st := []) [.long a2.toInt64, .long a1.toInt64, .long (20 : Int64)] dX12_wind_33 (ps_isIn rfl) MS_X12_isIn mL_X12_164 rfl rfl (Nat.le_of_ble_eq_true rfl) (by first | decide | omega) ?_
      refine PW.if_ne (tgt := 41) dX12_wind_36 (by decide) (fun c6 => ?_) (fun c6 => ?_)
      · replace h := ifn h c6
        refine PW.aload_n 0 0 dX12_wind_41 rfl rfl rfl ?_
        refine PW.iload_n 1 1 dX12_wind_42 rfl rfl ?_
        refine CW.puti dX12_wind_43 fL_X12_141 rfl LA_193 rfl ?_
        obtain ⟨s7, es7, h⟩ := sbnd h
        refine PW.sbe es7 ?_
        clear es7
        refine PW.aload_n 0 0 dX12_wind_46 rfl rfl rfl ?_
        refine PW.iload_n 2 2 dX12_wind_47 rfl rfl ?_
        refine CW.puti dX12_wind_48 fL_X12_466 rfl LA_193 rfl ?_
        obtain ⟨s8, es8, h⟩ := sbnd h
        refine PW.sbe es8 ?_
        clear es8
        refine PW.aload_n 0 0 dX12_wind_51 rfl rfl rfl ?_
        refine PW.iload_n 3 3 dX12_wind_52 rfl rfl ?_
        refine CW.puti dX12_wind_53 fL_X12_469 rfl LA_193 rfl ?_
        obtain ⟨s9, es9, h⟩ := sbnd h
        refine PW.sbe es9 ?_
        clear es9
        refine PW.iconst (v := 1) dX12_wind_56 (by decide) ?_
        cases h
        subst hx
        exact PW.iret (v := (1 : Int32)) dX12_wind_57 rfl (narZ (Or.inr rfl)) (Nat.le_refl 0) (Nat.le_refl 0)
      · replace h := ifp h c6
        refine PW.iconst (v := 0) dX12_wind_39 (by decide) ?_
        cases h
        subst hx
        exact PW.iret (v := (0 : Int32)) dX12_wind_40 rfl (narZ (Or.inl rfl)) (Nat.le_refl 0) (Nat.le_refl 0)
/-! X12_isOnBed -/
def f_X12_isOnBed (a0 : Int32) (s : cS) : Int32 :=
  (lIn a0.toInt64 (0 : Int64) (((iG s 193 7) - (1 : Int32)).toInt64))
set_option maxRecDepth 20000 in
set_option maxHeartbeats 4000000 in
theorem p_X12_isOnBed {g : pG} {l : Launch} {a0 : Int32} {s : cS} {q : Int32} (h : f_X12_isOnBed a0 s = q) : PM g l 2 M_X12_isOnBed [.ref 193, .int a0] (tS s) (some (.int q)) (tS s) 0 0 := by
  refine PM.of (by decide +kernel) (Nat.le_of_ble_eq_true rfl) ?_
  show PW g l (pRoom 2 0 0) M_X12_isOnBed _ 0 [(0, .ref 193), (1, .int a0)] [] (tS s) 0 0
  unfold f_X12_isOnBed at h
  generalize hF : pE g (some (.int q)) (tS s) 0 0 = F
  have hx := hF.symm
  refine PW.iload_n 1 1 dX12_isOnBed_0 rfl rfl ?_
  refine PW.i2l dX12_isOnBed_1 ?_
  refine PW.lconst (v := 0) dX12_isOnBed_2 (by decide) ?_
  refine PW.aload_n 0 0 dX12_isOnBed_3 rfl rfl rfl ?_
  refine CW.geti dX12_isOnBed_4 fL_X12_472 LA_193 (Or.inl rfl) ?_
  refine PW.iconst (v := 1) dX12_isOnBed_7 (by decide) ?_
  refine PW.isub dX12_isOnBed_8 ?_
  refine PW.i2l dX12_isOnBed_9 ?_
  refine CW.callSi (st := []) [.long a0.toInt64, .long (0 : Int64), .long ((iG s 193 7) - (1 : Int32)).toInt64] dX12_isOnBed_10 (ps_isIn rfl) MS_X12_isIn mL_X12_164 rfl rfl (Nat.le_of_ble_eq_true rfl) (by first | decide | omega) ?_
  cases h
  subst hx
  exact PW.iret (v := (lIn a0.toInt64 (0 : Int64) (((iG s 193 7) - (1 : Int32)).toInt64))) dX12_isOnBed_13 rfl (narZ (lIn_bool _ _ _)) (Nat.le_refl 0) (Nat.le_refl 0)
theorem f_X12_isOnBed_bool {a0 : Int32} {s : cS} : f_X12_isOnBed a0 s = 0 ∨ f_X12_isOnBed a0 s = 1 := by
  unfold f_X12_isOnBed
  repeat' split
  all_goals first | exact Or.inl rfl | exact Or.inr rfl | exact lIn_bool _ _ _
/-! X12_lies -/
def f_X12_lies (a0 : Int32) (a1 : Int32) (s : cS) : Option (Int32 × cS) :=
  if (iG s 193 7) = (10 : Int32) then
    some (((-1 : Int32), s))
  else
    if (lIn a0.toInt64 (0 : Int64) (100000 : Int64)) = 0 then
      some (((-1 : Int32), s))
    else
      if (lIn a1.toInt64 (0 : Int64) (1000 : Int64)) = 0 then
        some (((-1 : Int32), s))
      else
        if inb (iG s 193 7) 10 then
        sb (iS s 237 (iG s 193 7).toNatClampNeg a0) fun s7 =>
        if inb (iG s7 193 7) 10 then
        sb (iS s7 238 (iG s7 193 7).toNatClampNeg a1) fun s9 =>
        sb (iS s9 193 7 ((iG s9 193 7) + (1 : Int32))) fun s10 =>
        some ((((iG s10 193 7) - (1 : Int32)), s10))
        else none
        else none
set_option maxRecDepth 20000 in
set_option maxHeartbeats 4000000 in
theorem p_X12_lies {g : pG} {l : Launch} {a0 : Int32} {a1 : Int32} {s : cS} {q : Int32 × cS} (h : f_X12_lies a0 a1 s = some q) : PM g l 2 M_X12_lies [.ref 193, .int a0, .int a1] (tS s) (some (.int q.1)) (tS q.2) 0 0 := by
  refine PM.of (by decide +kernel) (Nat.le_of_ble_eq_true rfl) ?_
  show PW g l (pRoom 2 0 0) M_X12_lies _ 0 [(0, .ref 193), (1, .int a0), (2, .int a1)] [] (tS s) 0 0
  unfold f_X12_lies at h
  generalize hF : pE g (some (.int q.1)) (tS q.2) 0 0 = F
  have hx := hF.symm
  refine PW.aload_n 0 0 dX12_lies_0 rfl rfl rfl ?_
  refine CW.geti dX12_lies_1 fL_X12_472 LA_193 (Or.inl rfl) ?_
  refine PW.bipush (v := 10) dX12_lies_4 (by decide) ?_
  refine PW.icmp_eq (tgt := 33) dX12_lies_6 (by decide) (fun c1 => ?_) (fun c1 => ?_)
  · replace h := ifp h c1
    refine PW.iconst (v := (-1)) dX12_lies_33 (by decide) ?_
    cases h
    subst hx
    exact PW.iret (v := (-1 : Int32)) dX12_lies_34 rfl rfl (Nat.le_refl 0) (Nat.le_refl 0)
  · replace h := ifn h c1
    refine PW.iload_n 1 1 dX12_lies_9 rfl rfl ?_
    refine PW.i2l dX12_lies_10 ?_
    refine PW.lconst (v := 0) dX12_lies_11 (by decide) ?_
    refine PW.ldc2_w dX12_lies_12 kL_X12_475 ?_
    refine CW.callSi (st := []) [.long a0.toInt64, .long (0 : Int64), .long (100000 : Int64)] dX12_lies_15 (ps_isIn rfl) MS_X12_isIn mL_X12_164 rfl rfl (Nat.le_of_ble_eq_true rfl) (by first | decide | omega) ?_
    refine PW.if_eq (tgt := 33) dX12_lies_18 (by decide) (fun c3 => ?_) (fun c3 => ?_)
    · replace h := ifp h c3
      refine PW.iconst (v := (-1)) dX12_lies_33 (by decide) ?_
      cases h
      subst hx
      exact PW.iret (v := (-1 : Int32)) dX12_lies_34 rfl rfl (Nat.le_refl 0) (Nat.le_refl 0)
    · replace h := ifn h c3
      refine PW.iload_n 2 2 dX12_lies_21 rfl rfl ?_
      refine PW.i2l dX12_lies_22 ?_
      refine PW.lconst (v := 0) dX12_lies_23 (by decide) ?_
      refine PW.ldc2_w dX12_lies_24 kL_X12_417 ?_
      refine CW.callSi (st := []) [.long a1.toInt64, .long (0 : Int64), .long (1000 : Int64)] dX12_lies_27 (ps_isIn rfl) MS_X12_isIn mL_X12_164 rfl rfl (Nat.le_of_ble_eq_true rfl) (by first | decide | omega) ?_
      refine PW.if_ne (tgt := 35) dX12_lies_30 (by decide) (fun c5 => ?_) (fun c5 => ?_)
      · replace h := ifn h c5
        refine PW.aload_n 0 0 dX12_lies_35 rfl rfl rfl ?_
        refine CW.getr dX12_lies_36 fL_X12_145 LA_193 (Or.inr ⟨_, rfl⟩) rfl ?_
        refine PW.aload_n 0 0 dX12_lies_39 rfl rfl rfl ?_
        refine CW.geti dX12_lies_40 fL_X12_472 LA_193 (Or.inl rfl) ?_
        refine PW.iload_n 1 1 dX12_lies_43 rfl rfl ?_
        by_cases c6 : inb (iG s 193 7) 10
        rotate_left
        · have h := ifn h c6; cases h
        replace h := ifp h c6
        refine CW.iast dX12_lies_44 LA_237 c6 ?_
        obtain ⟨s7, es7, h⟩ := sbnd h
        refine PW.sbe es7 ?_
        clear es7
        refine PW.aload_n 0 0 dX12_lies_45 rfl rfl rfl ?_
        refine CW.getr dX12_lies_46 fL_X12_148 LA_193 (Or.inr ⟨_, rfl⟩) rfl ?_
        refine PW.aload_n 0 0 dX12_lies_49 rfl rfl rfl ?_
        refine CW.geti dX12_lies_50 fL_X12_472 LA_193 (Or.inl rfl) ?_
        refine PW.iload_n 2 2 dX12_lies_53 rfl rfl ?_
        by_cases c8 : inb (iG s7 193 7) 10
        rotate_left
        · have h := ifn h c8; cases h
        replace h := ifp h c8
        refine CW.iast dX12_lies_54 LA_238 c8 ?_
        obtain ⟨s9, es9, h⟩ := sbnd h
        refine PW.sbe es9 ?_
        clear es9
        refine PW.aload_n 0 0 dX12_lies_55 rfl rfl rfl ?_
        refine PW.dup dX12_lies_56 rfl ?_
        refine CW.geti dX12_lies_57 fL_X12_472 LA_193 (Or.inl rfl) ?_
        refine PW.iconst (v := 1) dX12_lies_60 (by decide) ?_
        refine PW.iadd dX12_lies_61 ?_
        refine CW.puti dX12_lies_62 fL_X12_472 rfl LA_193 rfl ?_
        obtain ⟨s10, es10, h⟩ := sbnd h
        refine PW.sbe es10 ?_
        clear es10
        refine PW.aload_n 0 0 dX12_lies_65 rfl rfl rfl ?_
        refine CW.geti dX12_lies_66 fL_X12_472 LA_193 (Or.inl rfl) ?_
        refine PW.iconst (v := 1) dX12_lies_69 (by decide) ?_
        refine PW.isub dX12_lies_70 ?_
        cases h
        subst hx
        exact PW.iret (v := ((iG s10 193 7) - (1 : Int32))) dX12_lies_71 rfl rfl (Nat.le_refl 0) (Nat.le_refl 0)
      · replace h := ifp h c5
        refine PW.iconst (v := (-1)) dX12_lies_33 (by decide) ?_
        cases h
        subst hx
        exact PW.iret (v := (-1 : Int32)) dX12_lies_34 rfl rfl (Nat.le_refl 0) (Nat.le_refl 0)
/-! X12_secondOf -/
def f_X12_secondOf (a0 : Int32) (a1 : Int32) (s : cS) : Option (Int32 × cS) :=
  if inb a0 10 then
  if ((iG s 237 a0.toNatClampNeg) - (a1 * (iG s 238 a0.toNatClampNeg))) < 0 then
    some (((-1 : Int32), s))
  else
    if (iG s 193 69) = 0 then none else
    if (((iG s 237 a0.toNatClampNeg) - (a1 * (iG s 238 a0.toNatClampNeg))) - ((iG s 237 a0.toNatClampNeg) - (a1 * (iG s 238 a0.toNatClampNeg))) / (iG s 193 69) * (iG s 193 69)) = 0 then
      if (iG s 193 69) = 0 then none else
      if (((iG s 237 a0.toNatClampNeg) - (a1 * (iG s 238 a0.toNatClampNeg))) / (iG s 193 69)) < (10000 : Int32) then
        if (iG s 193 69) = 0 then none else
        some (((((iG s 237 a0.toNatClampNeg) - (a1 * (iG s 238 a0.toNatClampNeg))) / (iG s 193 69)), s))
      else
        some (((-1 : Int32), s))
    else
      some (((-1 : Int32), s))
  else none
set_option maxRecDepth 20000 in
set_option maxHeartbeats 4000000 in
theorem p_X12_secondOf {g : pG} {l : Launch} {a0 : Int32} {a1 : Int32} {s : cS} {q : Int32 × cS} (h : f_X12_secondOf a0 a1 s = some q) : PM g l 1 M_X12_secondOf [.ref 193, .int a0, .int a1] (tS s) (some (.int q.1)) (tS q.2) 0 0 := by
  refine PM.of (by decide +kernel) (Nat.le_of_ble_eq_true rfl) ?_
  show PW g l (pRoom 1 0 0) M_X12_secondOf _ 0 [(0, .ref 193), (1, .int a0), (2, .int a1)] [] (tS s) 0 0
  unfold f_X12_secondOf at h
  generalize hF : pE g (some (.int q.1)) (tS q.2) 0 0 = F
  have hx := hF.symm
  refine PW.aload_n 0 0 dX12_secondOf_0 rfl rfl rfl ?_
  refine CW.getr dX12_secondOf_1 fL_X12_145 LA_193 (Or.inr ⟨_, rfl⟩) rfl ?_
  refine PW.iload_n 1 1 dX12_secondOf_4 rfl rfl ?_
  by_cases c1 : inb a0 10
  rotate_left
  · have h := ifn h c1; cases h
  replace h := ifp h c1
  refine CW.iald dX12_secondOf_5 LA_237 c1 ?_
  refine PW.iload_n 2 2 dX12_secondOf_6 rfl rfl ?_
  refine PW.aload_n 0 0 dX12_secondOf_7 rfl rfl rfl ?_
  refine CW.getr dX12_secondOf_8 fL_X12_148 LA_193 (Or.inr ⟨_, rfl⟩) rfl ?_
  refine PW.iload_n 1 1 dX12_secondOf_11 rfl rfl ?_
  refine CW.iald dX12_secondOf_12 LA_238 c1 ?_
  refine PW.imul dX12_secondOf_13 ?_
  refine PW.isub dX12_secondOf_14 ?_
  refine PW.istore_n dX12_secondOf_15 rfl (Nat.le_of_ble_eq_true rfl) rfl ?_
  refine PW.iload_n 0 3 dX12_secondOf_16 rfl rfl ?_
  refine PW.if_lt (tgt := 41) dX12_secondOf_17 (by decide) (fun c2 => ?_) (fun c2 => ?_)
  · replace h := ifp h c2
    refine PW.iconst (v := (-1)) dX12_secondOf_41 (by decide) ?_
    refine PW.goto (tgt := 51) dX12_secondOf_42 (by decide) ?_
    cases h
    subst hx
    exact PW.iret (v := (-1 : Int32)) dX12_secondOf_51 rfl rfl (Nat.le_refl 0) (Nat.le_refl 0)
  · replace h := ifn h c2
    refine PW.iload_n 0 3 dX12_secondOf_20 rfl rfl ?_
    refine PW.aload_n 1 0 dX12_secondOf_21 rfl rfl rfl ?_
    refine CW.geti dX12_secondOf_22 fL_X12_141 LA_193 (Or.inl rfl) ?_
    by_cases c3 : (iG s 193 69) = 0
    · have h := ifp h c3; cases h
    replace h := ifn h c3
    refine PW.irem dX12_secondOf_25 c3 ?_
    refine PW.if_ne (tgt := 41) dX12_secondOf_26 (by decide) (fun c4 => ?_) (fun c4 => ?_)
    · replace h := ifn h c4
      refine PW.iconst (v := (-1)) dX12_secondOf_41 (by decide) ?_
      refine PW.goto (tgt := 51) dX12_secondOf_42 (by decide) ?_
      cases h
      subst hx
      exact PW.iret (v := (-1 : Int32)) dX12_secondOf_51 rfl rfl (Nat.le_refl 0) (Nat.le_refl 0)
    · replace h := ifp h c4
      refine PW.iload_n 0 3 dX12_secondOf_29 rfl rfl ?_
      refine PW.aload_n 1 0 dX12_secondOf_30 rfl rfl rfl ?_
      refine CW.geti dX12_secondOf_31 fL_X12_141 LA_193 (Or.inl rfl) ?_
      by_cases c5 : (iG s 193 69) = 0
      · have h := ifp h c5; cases h
      replace h := ifn h c5
      refine PW.idiv dX12_secondOf_34 c5 ?_
      refine PW.sipush (v := 10000) dX12_secondOf_35 (by decide) ?_
      refine PW.icmp_lt (tgt := 45) dX12_secondOf_38 (by decide) (fun c6 => ?_) (fun c6 => ?_)
      · replace h := ifp h c6
        refine PW.iload_n 0 3 dX12_secondOf_45 rfl rfl ?_
        refine PW.aload_n 1 0 dX12_secondOf_46 rfl rfl rfl ?_
        refine CW.geti dX12_secondOf_47 fL_X12_141 LA_193 (Or.inl rfl) ?_
        by_cases c7 : (iG s 193 69) = 0
        · have h := ifp h c7; cases h
        replace h := ifn h c7
        refine PW.idiv dX12_secondOf_50 c7 ?_
        cases h
        subst hx
        exact PW.iret (v := (((iG s 237 a0.toNatClampNeg) - (a1 * (iG s 238 a0.toNatClampNeg))) / (iG s 193 69))) dX12_secondOf_51 rfl rfl (Nat.le_refl 0) (Nat.le_refl 0)
      · replace h := ifn h c6
        refine PW.iconst (v := (-1)) dX12_secondOf_41 (by decide) ?_
        refine PW.goto (tgt := 51) dX12_secondOf_42 (by decide) ?_
        cases h
        subst hx
        exact PW.iret (v := (-1 : Int32)) dX12_secondOf_51 rfl rfl (Nat.le_refl 0) (Nat.le_refl 0)
/-! X12_span -/
def j_X12_span_93 (x1 : Int32) (x2 : Int32) (x3 : Int32) (x4 : Int32) (x5 : Int32) (s : cS) : Option (((Int32 × Int32 × Int32) × cS) ⊕ (Int32 × cS)) :=
  some (.inl ((x3, x4, (x5 + (1 : Int32))), s))
set_option maxRecDepth 20000 in
set_option maxHeartbeats 4000000 in
theorem ok_j_X12_span_93 {g : pG} {l : Launch} {F : pF} {x1 : Int32} {x2 : Int32} {x3 : Int32} {x4 : Int32} {x5 : Int32} {s : cS} {x : (((Int32 × Int32 × Int32) × cS) ⊕ (Int32 × cS))} (h : j_X12_span_93 x1 x2 x3 x4 x5 s = some x) (hx : (KL (fun (v : (Int32 × Int32 × Int32) × cS) => PW g l (pRoom 3 0 0) M_X12_span F 33 [(0, .ref 193), (1, .int x1), (2, .int x2), (3, .int v.1.1), (4, .int v.1.2.1), (5, .int v.1.2.2)] [] (tS v.2) 0 0) (fun q => F = pE g (some (.int q.1)) (tS q.2) 0 0)) x) : PW g l (pRoom 3 0 0) M_X12_span F 93 [(0, .ref 193), (1, .int x1), (2, .int x2), (3, .int x3), (4, .int x4), (5, .int x5)] [] (tS s) 0 0 := by
  unfold j_X12_span_93 at h
  refine PW.iinc (v := (x5 + (1 : Int32))) 5 dX12_span_93 rfl (by first | rfl | decide) (Nat.le_of_ble_eq_true rfl) rfl ?_
  refine PW.goto (tgt := 33) dX12_span_96 (by decide) ?_
  cases h
  exact PW.pick [1, 2, 3, 4, 5, 0] rfl hx
def j_X12_span_91 (x1 : Int32) (x2 : Int32) (x3 : Int32) (x5 : Int32) (y0 : Int32) (s : cS) : Option (((Int32 × Int32 × Int32) × cS) ⊕ (Int32 × cS)) :=
  j_X12_span_93 x1 x2 x3 y0 x5 s
set_option maxRecDepth 20000 in
set_option maxHeartbeats 4000000 in
theorem ok_j_X12_span_91 {g : pG} {l : Launch} {F : pF} {x1 : Int32} {x2 : Int32} {x3 : Int32} {x5 : Int32} {y0 : Int32} {s : cS} {x : (((Int32 × Int32 × Int32) × cS) ⊕ (Int32 × cS))} (h : j_X12_span_91 x1 x2 x3 x5 y0 s = some x) (hx : (KL (fun (v : (Int32 × Int32 × Int32) × cS) => PW g l (pRoom 3 0 0) M_X12_span F 33 [(0, .ref 193), (1, .int x1), (2, .int x2), (3, .int v.1.1), (4, .int v.1.2.1), (5, .int v.1.2.2)] [] (tS v.2) 0 0) (fun q => F = pE g (some (.int q.1)) (tS q.2) 0 0)) x) : PW g l (pRoom 3 0 0) M_X12_span F 91 [(0, .ref 193), (1, .int x1), (2, .int x2), (3, .int x3), (5, .int x5)] [.int y0] (tS s) 0 0 := by
  unfold j_X12_span_91 at h
  refine PW.istore dX12_span_91 (Nat.le_of_ble_eq_true rfl) rfl ?_
  exact PW.pick [1, 2, 3, 4, 0, 5] rfl (ok_j_X12_span_93 h hx)
def j_X12_span_76 (x1 : Int32) (x2 : Int32) (x4 : Int32) (x5 : Int32) (x6 : Int32) (y0 : Int32) (s : cS) : Option (((Int32 × Int32 × Int32) × cS) ⊕ (Int32 × cS)) :=
  if x6 ≤ x4 then
    j_X12_span_91 x1 x2 y0 x5 x4 s
  else
    j_X12_span_91 x1 x2 y0 x5 x6 s
set_option maxRecDepth 20000 in
set_option maxHeartbeats 4000000 in
theorem ok_j_X12_span_76 {g : pG} {l : Launch} {F : pF} {x1 : Int32} {x2 : Int32} {x4 : Int32} {x5 : Int32} {x6 : Int32} {y0 : Int32} {s : cS} {x : (((Int32 × Int32 × Int32) × cS) ⊕ (Int32 × cS))} (h : j_X12_span_76 x1 x2 x4 x5 x6 y0 s = some x) (hx : (KL (fun (v : (Int32 × Int32 × Int32) × cS) => PW g l (pRoom 3 0 0) M_X12_span F 33 [(0, .ref 193), (1, .int x1), (2, .int x2), (3, .int v.1.1), (4, .int v.1.2.1), (5, .int v.1.2.2)] [] (tS v.2) 0 0) (fun q => F = pE g (some (.int q.1)) (tS q.2) 0 0)) x) : PW g l (pRoom 3 0 0) M_X12_span F 76 [(0, .ref 193), (1, .int x1), (2, .int x2), (4, .int x4), (5, .int x5), (6, .int x6)] [.int y0] (tS s) 0 0 := by
  unfold j_X12_span_76 at h
  refine PW.istore_n dX12_span_76 rfl (Nat.le_of_ble_eq_true rfl) rfl ?_
  refine PW.iload 6 dX12_span_77 rfl ?_
  refine PW.iload 4 dX12_span_79 rfl ?_
  refine PW.icmp_le (tgt := 89) dX12_span_81 (by decide) (fun c12 => ?_) (fun c12 => ?_)
  · replace h := ifp h c12
    refine PW.iload 4 dX12_span_89 rfl ?_
    exact PW.pick [1, 2, 3, 0, 5] rfl (ok_j_X12_span_91 h hx)
  · replace h := ifn h c12
    refine PW.iload 6 dX12_span_84 rfl ?_
    refine PW.goto (tgt := 91) dX12_span_86 (by decide) ?_
    exact PW.pick [1, 2, 3, 0, 5] rfl (ok_j_X12_span_91 h hx)
def j_X12_span_70 (x1 : Int32) (x2 : Int32) (x4 : Int32) (x5 : Int32) (x6 : Int32) (s : cS) : Option (((Int32 × Int32 × Int32) × cS) ⊕ (Int32 × cS)) :=
  j_X12_span_76 x1 x2 x4 x5 x6 x6 s
set_option maxRecDepth 20000 in
set_option maxHeartbeats 4000000 in
theorem ok_j_X12_span_70 {g : pG} {l : Launch} {F : pF} {x1 : Int32} {x2 : Int32} {x4 : Int32} {x5 : Int32} {x6 : Int32} {s : cS} {x : (((Int32 × Int32 × Int32) × cS) ⊕ (Int32 × cS))} (h : j_X12_span_70 x1 x2 x4 x5 x6 s = some x) (hx : (KL (fun (v : (Int32 × Int32 × Int32) × cS) => PW g l (pRoom 3 0 0) M_X12_span F 33 [(0, .ref 193), (1, .int x1), (2, .int x2), (3, .int v.1.1), (4, .int v.1.2.1), (5, .int v.1.2.2)] [] (tS v.2) 0 0) (fun q => F = pE g (some (.int q.1)) (tS q.2) 0 0)) x) : PW g l (pRoom 3 0 0) M_X12_span F 70 [(0, .ref 193), (1, .int x1), (2, .int x2), (4, .int x4), (5, .int x5), (6, .int x6)] [] (tS s) 0 0 := by
  unfold j_X12_span_70 at h
  refine PW.iload 5 dX12_span_70 rfl ?_
  refine PW.goto (tgt := 76) dX12_span_72 (by decide) ?_
  exact PW.pick [0, 1, 2, 3, 4, 5] rfl (ok_j_X12_span_76 h hx)
def b_X12_span_33 (x1 : Int32) (x2 : Int32) (x3 : Int32) (x4 : Int32) (x5 : Int32) (s : cS) : Option (((Int32 × Int32 × Int32) × cS) ⊕ (Int32 × cS)) :=
  if (iG s 193 71) < x5 then
    oR (
      if x2 = 0 then
        some ((x3, s))
      else
        some ((x4, s)))
  else
    ob (f_X12_secondOf x1 x5 s) fun r7 s8 =>
    if r7 = (-1 : Int32) then
      j_X12_span_93 x1 x2 x3 x4 x5 s8
    else
      if x3 < 0 then
        j_X12_span_70 x1 x2 x4 x5 r7 s8
      else
        if x3 ≤ r7 then
          j_X12_span_76 x1 x2 x4 x5 r7 x3 s8
        else
          j_X12_span_70 x1 x2 x4 x5 r7 s8
set_option maxRecDepth 20000 in
set_option maxHeartbeats 4000000 in
theorem ok_b_X12_span_33 {g : pG} {l : Launch} {F : pF} {x1 : Int32} {x2 : Int32} {x3 : Int32} {x4 : Int32} {x5 : Int32} {s : cS} {x : (((Int32 × Int32 × Int32) × cS) ⊕ (Int32 × cS))} (h : b_X12_span_33 x1 x2 x3 x4 x5 s = some x) (hx : (KL (fun (v : (Int32 × Int32 × Int32) × cS) => PW g l (pRoom 3 0 0) M_X12_span F 33 [(0, .ref 193), (1, .int x1), (2, .int x2), (3, .int v.1.1), (4, .int v.1.2.1), (5, .int v.1.2.2)] [] (tS v.2) 0 0) (fun q => F = pE g (some (.int q.1)) (tS q.2) 0 0)) x) : PW g l (pRoom 3 0 0) M_X12_span F 33 [(0, .ref 193), (1, .int x1), (2, .int x2), (3, .int x3), (4, .int x4), (5, .int x5)] [] (tS s) 0 0 := by
  unfold b_X12_span_33 at h
  refine PW.iload 5 dX12_span_33 rfl ?_
  refine PW.aload_n 0 0 dX12_span_35 rfl rfl rfl ?_
  refine CW.geti dX12_span_36 fL_X12_469 LA_193 (Or.inl rfl) ?_
  refine PW.icmp_gt (tgt := 99) dX12_span_39 (by decide) (fun c5 => ?_) (fun c5 => ?_)
  · replace h := ifp h c5
    obtain ⟨xo, hy, hxo⟩ := oRb h
    clear h
    subst hxo
    replace hx := KLr hx
    have h := hy
    clear hy
    refine PW.iload_n 2 2 dX12_span_99 rfl rfl ?_
    refine PW.if_ne (tgt := 107) dX12_span_100 (by decide) (fun c6 => ?_) (fun c6 => ?_)
    · replace h := ifn h c6
      refine PW.iload 4 dX12_span_107 rfl ?_
      cases h
      subst hx
      exact PW.iret (v := x4) dX12_span_109 rfl rfl (Nat.le_refl 0) (Nat.le_refl 0)
    · replace h := ifp h c6
      refine PW.iload_n 3 3 dX12_span_103 rfl rfl ?_
      refine PW.goto (tgt := 109) dX12_span_104 (by decide) ?_
      cases h
      subst hx
      exact PW.iret (v := x3) dX12_span_109 rfl rfl (Nat.le_refl 0) (Nat.le_refl 0)
  · replace h := ifn h c5
    refine PW.aload_n 0 0 dX12_span_42 rfl rfl rfl ?_
    refine PW.iload_n 1 1 dX12_span_43 rfl rfl ?_
    refine PW.iload 5 dX12_span_44 rfl ?_
    obtain ⟨r7, s8, q9, h⟩ := obnd h
    refine CW.callVi (ci := 12) (st := []) [.int x1, .int x5] dX12_span_46 (p_X12_secondOf q9) MV_X12_secondOf mL_X12_480 (by decide) rfl LA_193 rfl rfl (Nat.le_of_ble_eq_true rfl) (by first | decide | omega) ?_
    refine PW.istore dX12_span_49 (Nat.le_of_ble_eq_true rfl) rfl ?_
    refine PW.iload 0 dX12_span_51 rfl ?_
    refine PW.iconst (v := (-1)) dX12_span_53 (by decide) ?_
    refine PW.icmp_ne (tgt := 60) dX12_span_54 (by decide) (fun c10 => ?_) (fun c10 => ?_)
    · replace h := ifn h c10
      refine PW.iload_n 4 3 dX12_span_60 rfl rfl ?_
      refine PW.if_lt (tgt := 70) dX12_span_61 (by decide) (fun c11 => ?_) (fun c11 => ?_)
      · replace h := ifp h c11
        exact PW.pick [1, 2, 3, 5, 6, 0] rfl (ok_j_X12_span_70 h hx)
      · replace h := ifn h c11
        refine PW.iload 0 dX12_span_64 rfl ?_
        refine PW.iload_n 4 3 dX12_span_66 rfl rfl ?_
        refine PW.icmp_ge (tgt := 75) dX12_span_67 (by decide) (fun c13 => ?_) (fun c13 => ?_)
        · replace h := ifp h c13
          refine PW.iload_n 4 3 dX12_span_75 rfl rfl ?_
          exact PW.pick [1, 2, 3, 5, 6, 0] rfl (ok_j_X12_span_76 h hx)
        · replace h := ifn h c13
          exact PW.pick [1, 2, 3, 5, 6, 0] rfl (ok_j_X12_span_70 h hx)
    · replace h := ifp h c10
      refine PW.goto (tgt := 93) dX12_span_57 (by decide) ?_
      exact PW.pick [1, 2, 3, 4, 5, 6] rfl (ok_j_X12_span_93 h hx)
def w_X12_span_33 (N : Nat) (x1 : Int32) (x2 : Int32) (x3 : Int32) (x4 : Int32) (x5 : Int32) (s : cS) : Option (Int32 × cS) := itr (fun (v : (Int32 × Int32 × Int32) × cS) => b_X12_span_33 x1 x2 v.1.1 v.1.2.1 v.1.2.2 v.2) N ((x3, x4, x5), s)
theorem ok_w_X12_span_33 {g : pG} {l : Launch} {F : pF} {N : Nat} {x1 : Int32} {x2 : Int32} {x3 : Int32} {x4 : Int32} {x5 : Int32} {s : cS} {x : (Int32 × cS)} (h : w_X12_span_33 N x1 x2 x3 x4 x5 s = some x) (hx : (fun q => F = pE g (some (.int q.1)) (tS q.2) 0 0) x) : PW g l (pRoom 3 0 0) M_X12_span F 33 [(0, .ref 193), (1, .int x1), (2, .int x2), (3, .int x3), (4, .int x4), (5, .int x5)] [] (tS s) 0 0 :=
  okIter (P := (fun (v : (Int32 × Int32 × Int32) × cS) => PW g l (pRoom 3 0 0) M_X12_span F 33 [(0, .ref 193), (1, .int x1), (2, .int x2), (3, .int v.1.1), (4, .int v.1.2.1), (5, .int v.1.2.2)] [] (tS v.2) 0 0)) (K := (fun q => F = pE g (some (.int q.1)) (tS q.2) 0 0)) (fun v y hB hy => ok_b_X12_span_33 hB hy) N ((x3, x4, x5), s) x h hx
def f_X12_span (N : Nat) (a0 : Int32) (a1 : Int32) (s : cS) : Option (Int32 × cS) :=
  if (f_X12_isOnBed a0 s) = 0 then
    some (((-1 : Int32), s))
  else
    if (lIn a1.toInt64 (0 : Int64) (1 : Int64)) = 0 then
      some (((-1 : Int32), s))
    else
      w_X12_span_33 N a0 a1 (-2 : Int32) (-2 : Int32) (iG s 193 70) s
set_option maxRecDepth 20000 in
set_option maxHeartbeats 4000000 in
theorem p_X12_span {g : pG} {l : Launch} {N : Nat} {a0 : Int32} {a1 : Int32} {s : cS} {q : Int32 × cS} (h : f_X12_span N a0 a1 s = some q) : PM g l 3 M_X12_span [.ref 193, .int a0, .int a1] (tS s) (some (.int q.1)) (tS q.2) 0 0 := by
  refine PM.of (by decide +kernel) (Nat.le_of_ble_eq_true rfl) ?_
  show PW g l (pRoom 3 0 0) M_X12_span _ 0 [(0, .ref 193), (1, .int a0), (2, .int a1)] [] (tS s) 0 0
  unfold f_X12_span at h
  generalize hF : pE g (some (.int q.1)) (tS q.2) 0 0 = F
  have hx := hF.symm
  refine PW.aload_n 0 0 dX12_span_0 rfl rfl rfl ?_
  refine PW.iload_n 1 1 dX12_span_1 rfl rfl ?_
  refine CW.callVi (ci := 12) (st := []) [.int a0] dX12_span_2 (p_X12_isOnBed rfl) MV_X12_isOnBed mL_X12_477 (by decide) rfl LA_193 rfl rfl (Nat.le_of_ble_eq_true rfl) (by first | decide | omega) ?_
  refine PW.if_eq (tgt := 18) dX12_span_5 (by decide) (fun c2 => ?_) (fun c2 => ?_)
  · replace h := ifp h c2
    refine PW.iconst (v := (-1)) dX12_span_18 (by decide) ?_
    cases h
    subst hx
    exact PW.iret (v := (-1 : Int32)) dX12_span_19 rfl rfl (Nat.le_refl 0) (Nat.le_refl 0)
  · replace h := ifn h c2
    refine PW.iload_n 2 2 dX12_span_8 rfl rfl ?_
    refine PW.i2l dX12_span_9 ?_
    refine PW.lconst (v := 0) dX12_span_10 (by decide) ?_
    refine PW.lconst (v := 1) dX12_span_11 (by decide) ?_
    refine CW.callSi (st := []) [.long a1.toInt64, .long (0 : Int64), .long (1 : Int64)] dX12_span_12 (ps_isIn rfl) MS_X12_isIn mL_X12_164 rfl rfl (Nat.le_of_ble_eq_true rfl) (by first | decide | omega) ?_
    refine PW.if_ne (tgt := 20) dX12_span_15 (by decide) (fun c4 => ?_) (fun c4 => ?_)
    · replace h := ifn h c4
      refine PW.bipush (v := (-2)) dX12_span_20 (by decide) ?_
      refine PW.istore_n dX12_span_22 rfl (Nat.le_of_ble_eq_true rfl) rfl ?_
      refine PW.bipush (v := (-2)) dX12_span_23 (by decide) ?_
      refine PW.istore dX12_span_25 (Nat.le_of_ble_eq_true rfl) rfl ?_
      refine PW.aload_n 2 0 dX12_span_27 rfl rfl rfl ?_
      refine CW.geti dX12_span_28 fL_X12_466 LA_193 (Or.inl rfl) ?_
      refine PW.istore dX12_span_31 (Nat.le_of_ble_eq_true rfl) rfl ?_
      exact PW.pick [3, 4, 5, 2, 1, 0] rfl (ok_w_X12_span_33 h hx)
    · replace h := ifp h c4
      refine PW.iconst (v := (-1)) dX12_span_18 (by decide) ?_
      cases h
      subst hx
      exact PW.iret (v := (-1 : Int32)) dX12_span_19 rfl rfl (Nat.le_refl 0) (Nat.le_refl 0)
/-! X12_order -/
def j_X12_order_94 (x1 : Int32) (x2 : Int32) (x3 : Int32) (x4 : Int32) (s : cS) : Option (((Int32 × Int32) × cS) ⊕ (Int32 × cS)) :=
  some (.inl ((x3, (x4 + (1 : Int32))), s))
set_option maxRecDepth 20000 in
set_option maxHeartbeats 4000000 in
theorem ok_j_X12_order_94 {g : pG} {l : Launch} {F : pF} {x1 : Int32} {x2 : Int32} {x3 : Int32} {x4 : Int32} {s : cS} {x : (((Int32 × Int32) × cS) ⊕ (Int32 × cS))} (h : j_X12_order_94 x1 x2 x3 x4 s = some x) (hx : (KL (fun (v : (Int32 × Int32) × cS) => PW g l (pRoom 3 0 0) M_X12_order F 26 [(0, .ref 193), (1, .int x1), (2, .int x2), (3, .int v.1.1), (4, .int v.1.2)] [] (tS v.2) 0 0) (fun q => F = pE g (some (.int q.1)) (tS q.2) 0 0)) x) : PW g l (pRoom 3 0 0) M_X12_order F 94 [(0, .ref 193), (1, .int x1), (2, .int x2), (3, .int x3), (4, .int x4)] [] (tS s) 0 0 := by
  unfold j_X12_order_94 at h
  refine PW.iinc (v := (x4 + (1 : Int32))) 4 dX12_order_94 rfl (by first | rfl | decide) (Nat.le_of_ble_eq_true rfl) rfl ?_
  refine PW.goto (tgt := 26) dX12_order_97 (by decide) ?_
  cases h
  exact PW.pick [1, 2, 3, 4, 0] rfl hx
def j_X12_order_92 (x1 : Int32) (x2 : Int32) (x4 : Int32) (y0 : Int32) (y1 : Int32) (s : cS) : Option (((Int32 × Int32) × cS) ⊕ (Int32 × cS)) :=
  j_X12_order_94 x1 x2 (y0 ||| y1) x4 s
set_option maxRecDepth 20000 in
set_option maxHeartbeats 4000000 in
theorem ok_j_X12_order_92 {g : pG} {l : Launch} {F : pF} {x1 : Int32} {x2 : Int32} {x4 : Int32} {y0 : Int32} {y1 : Int32} {s : cS} {x : (((Int32 × Int32) × cS) ⊕ (Int32 × cS))} (h : j_X12_order_92 x1 x2 x4 y0 y1 s = some x) (hx : (KL (fun (v : (Int32 × Int32) × cS) => PW g l (pRoom 3 0 0) M_X12_order F 26 [(0, .ref 193), (1, .int x1), (2, .int x2), (3, .int v.1.1), (4, .int v.1.2)] [] (tS v.2) 0 0) (fun q => F = pE g (some (.int q.1)) (tS q.2) 0 0)) x) : PW g l (pRoom 3 0 0) M_X12_order F 92 [(0, .ref 193), (1, .int x1), (2, .int x2), (4, .int x4)] [.int y1, .int y0] (tS s) 0 0 := by
  unfold j_X12_order_92 at h
  refine PW.ior dX12_order_92 ?_
  refine PW.istore_n dX12_order_93 rfl (Nat.le_of_ble_eq_true rfl) rfl ?_
  exact PW.pick [1, 2, 3, 0, 4] rfl (ok_j_X12_order_94 h hx)
def b_X12_order_26 (x1 : Int32) (x2 : Int32) (x3 : Int32) (x4 : Int32) (s : cS) : Option (((Int32 × Int32) × cS) ⊕ (Int32 × cS)) :=
  if (iG s 193 71) < x4 then
    oR (
      if x3 = 0 then
        some (((4 : Int32), s))
      else
        if x3 = (1 : Int32) then
          some (((0 : Int32), s))
        else
          if x3 = (2 : Int32) then
            some (((1 : Int32), s))
          else
            if x3 = (4 : Int32) then
              some (((2 : Int32), s))
            else
              some (((3 : Int32), s)))
  else
    ob (f_X12_secondOf x1 x4 s) fun r10 s11 =>
    ob (f_X12_secondOf x2 x4 s11) fun r13 s14 =>
    if r10 = (-1 : Int32) then
      j_X12_order_94 x1 x2 x3 x4 s14
    else
      if r13 = (-1 : Int32) then
        j_X12_order_94 x1 x2 x3 x4 s14
      else
        if r13 ≤ r10 then
          if r10 ≤ r13 then
            j_X12_order_92 x1 x2 x4 x3 (4 : Int32) s14
          else
            j_X12_order_92 x1 x2 x4 x3 (2 : Int32) s14
        else
          j_X12_order_92 x1 x2 x4 x3 (1 : Int32) s14
set_option maxRecDepth 20000 in
set_option maxHeartbeats 4000000 in
theorem ok_b_X12_order_26 {g : pG} {l : Launch} {F : pF} {x1 : Int32} {x2 : Int32} {x3 : Int32} {x4 : Int32} {s : cS} {x : (((Int32 × Int32) × cS) ⊕ (Int32 × cS))} (h : b_X12_order_26 x1 x2 x3 x4 s = some x) (hx : (KL (fun (v : (Int32 × Int32) × cS) => PW g l (pRoom 3 0 0) M_X12_order F 26 [(0, .ref 193), (1, .int x1), (2, .int x2), (3, .int v.1.1), (4, .int v.1.2)] [] (tS v.2) 0 0) (fun q => F = pE g (some (.int q.1)) (tS q.2) 0 0)) x) : PW g l (pRoom 3 0 0) M_X12_order F 26 [(0, .ref 193), (1, .int x1), (2, .int x2), (3, .int x3), (4, .int x4)] [] (tS s) 0 0 := by
  unfold b_X12_order_26 at h
  refine PW.iload 4 dX12_order_26 rfl ?_
  refine PW.aload_n 0 0 dX12_order_28 rfl rfl rfl ?_
  refine CW.geti dX12_order_29 fL_X12_469 LA_193 (Or.inl rfl) ?_
  refine PW.icmp_gt (tgt := 100) dX12_order_32 (by decide) (fun c5 => ?_) (fun c5 => ?_)
  · replace h := ifp h c5
    obtain ⟨xo, hy, hxo⟩ := oRb h
    clear h
    subst hxo
    replace hx := KLr hx
    have h := hy
    clear hy
    refine PW.iload_n 3 3 dX12_order_100 rfl rfl ?_
    refine PW.if_ne (tgt := 108) dX12_order_101 (by decide) (fun c6 => ?_) (fun c6 => ?_)
    · replace h := ifn h c6
      refine PW.iload_n 3 3 dX12_order_108 rfl rfl ?_
      refine PW.iconst (v := 1) dX12_order_109 (by decide) ?_
      refine PW.icmp_ne (tgt := 117) dX12_order_110 (by decide) (fun c7 => ?_) (fun c7 => ?_)
      · replace h := ifn h c7
        refine PW.iload_n 3 3 dX12_order_117 rfl rfl ?_
        refine PW.iconst (v := 2) dX12_order_118 (by decide) ?_
        refine PW.icmp_ne (tgt := 126) dX12_order_119 (by decide) (fun c8 => ?_) (fun c8 => ?_)
        · replace h := ifn h c8
          refine PW.iload_n 3 3 dX12_order_126 rfl rfl ?_
          refine PW.iconst (v := 4) dX12_order_127 (by decide) ?_
          refine PW.icmp_ne (tgt := 135) dX12_order_128 (by decide) (fun c9 => ?_) (fun c9 => ?_)
          · replace h := ifn h c9
            refine PW.iconst (v := 3) dX12_order_135 (by decide) ?_
            cases h
            subst hx
            exact PW.iret (v := (3 : Int32)) dX12_order_136 rfl rfl (Nat.le_refl 0) (Nat.le_refl 0)
          · replace h := ifp h c9
            refine PW.iconst (v := 2) dX12_order_131 (by decide) ?_
            refine PW.goto (tgt := 136) dX12_order_132 (by decide) ?_
            cases h
            subst hx
            exact PW.iret (v := (2 : Int32)) dX12_order_136 rfl rfl (Nat.le_refl 0) (Nat.le_refl 0)
        · replace h := ifp h c8
          refine PW.iconst (v := 1) dX12_order_122 (by decide) ?_
          refine PW.goto (tgt := 136) dX12_order_123 (by decide) ?_
          cases h
          subst hx
          exact PW.iret (v := (1 : Int32)) dX12_order_136 rfl rfl (Nat.le_refl 0) (Nat.le_refl 0)
      · replace h := ifp h c7
        refine PW.iconst (v := 0) dX12_order_113 (by decide) ?_
        refine PW.goto (tgt := 136) dX12_order_114 (by decide) ?_
        cases h
        subst hx
        exact PW.iret (v := (0 : Int32)) dX12_order_136 rfl rfl (Nat.le_refl 0) (Nat.le_refl 0)
    · replace h := ifp h c6
      refine PW.iconst (v := 4) dX12_order_104 (by decide) ?_
      refine PW.goto (tgt := 136) dX12_order_105 (by decide) ?_
      cases h
      subst hx
      exact PW.iret (v := (4 : Int32)) dX12_order_136 rfl rfl (Nat.le_refl 0) (Nat.le_refl 0)
  · replace h := ifn h c5
    refine PW.aload_n 0 0 dX12_order_35 rfl rfl rfl ?_
    refine PW.iload_n 1 1 dX12_order_36 rfl rfl ?_
    refine PW.iload 4 dX12_order_37 rfl ?_
    obtain ⟨r10, s11, q12, h⟩ := obnd h
    refine CW.callVi (ci := 12) (st := []) [.int x1, .int x4] dX12_order_39 (p_X12_secondOf q12) MV_X12_secondOf mL_X12_480 (by decide) rfl LA_193 rfl rfl (Nat.le_of_ble_eq_true rfl) (by first | decide | omega) ?_
    refine PW.istore dX12_order_42 (Nat.le_of_ble_eq_true rfl) rfl ?_
    refine PW.aload_n 1 0 dX12_order_44 rfl rfl rfl ?_
    refine PW.iload_n 3 2 dX12_order_45 rfl rfl ?_
    refine PW.iload 5 dX12_order_46 rfl ?_
    obtain ⟨r13, s14, q15, h⟩ := obnd h
    refine CW.callVi (ci := 12) (st := []) [.int x2, .int x4] dX12_order_48 (p_X12_secondOf q15) MV_X12_secondOf mL_X12_480 (by decide) rfl LA_193 rfl rfl (Nat.le_of_ble_eq_true rfl) (by first | decide | omega) ?_
    refine PW.istore dX12_order_51 (Nat.le_of_ble_eq_true rfl) rfl ?_
    refine PW.iload 1 dX12_order_53 rfl ?_
    refine PW.iconst (v := (-1)) dX12_order_55 (by decide) ?_
    refine PW.icmp_eq (tgt := 94) dX12_order_56 (by decide) (fun c16 => ?_) (fun c16 => ?_)
    · replace h := ifp h c16
      exact PW.pick [2, 3, 4, 5, 6] rfl (ok_j_X12_order_94 h hx)
    · replace h := ifn h c16
      refine PW.iload 0 dX12_order_59 rfl ?_
      refine PW.iconst (v := (-1)) dX12_order_61 (by decide) ?_
      refine PW.icmp_ne (tgt := 68) dX12_order_62 (by decide) (fun c17 => ?_) (fun c17 => ?_)
      · replace h := ifn h c17
        refine PW.iload_n 5 3 dX12_order_68 rfl rfl ?_
        refine PW.iload 1 dX12_order_69 rfl ?_
        refine PW.iload 0 dX12_order_71 rfl ?_
        refine PW.icmp_ge (tgt := 80) dX12_order_73 (by decide) (fun c18 => ?_) (fun c18 => ?_)
        · replace h := ifp h c18
          refine PW.iload 1 dX12_order_80 rfl ?_
          refine PW.iload 0 dX12_order_82 rfl ?_
          refine PW.icmp_le (tgt := 91) dX12_order_84 (by decide) (fun c19 => ?_) (fun c19 => ?_)
          · replace h := ifp h c19
            refine PW.iconst (v := 4) dX12_order_91 (by decide) ?_
            exact PW.pick [2, 3, 4, 6] rfl (ok_j_X12_order_92 h hx)
          · replace h := ifn h c19
            refine PW.iconst (v := 2) dX12_order_87 (by decide) ?_
            refine PW.goto (tgt := 92) dX12_order_88 (by decide) ?_
            exact PW.pick [2, 3, 4, 6] rfl (ok_j_X12_order_92 h hx)
        · replace h := ifn h c18
          refine PW.iconst (v := 1) dX12_order_76 (by decide) ?_
          refine PW.goto (tgt := 92) dX12_order_77 (by decide) ?_
          exact PW.pick [2, 3, 4, 6] rfl (ok_j_X12_order_92 h hx)
      · replace h := ifp h c17
        refine PW.goto (tgt := 94) dX12_order_65 (by decide) ?_
        exact PW.pick [2, 3, 4, 5, 6] rfl (ok_j_X12_order_94 h hx)
def w_X12_order_26 (N : Nat) (x1 : Int32) (x2 : Int32) (x3 : Int32) (x4 : Int32) (s : cS) : Option (Int32 × cS) := itr (fun (v : (Int32 × Int32) × cS) => b_X12_order_26 x1 x2 v.1.1 v.1.2 v.2) N ((x3, x4), s)
theorem ok_w_X12_order_26 {g : pG} {l : Launch} {F : pF} {N : Nat} {x1 : Int32} {x2 : Int32} {x3 : Int32} {x4 : Int32} {s : cS} {x : (Int32 × cS)} (h : w_X12_order_26 N x1 x2 x3 x4 s = some x) (hx : (fun q => F = pE g (some (.int q.1)) (tS q.2) 0 0) x) : PW g l (pRoom 3 0 0) M_X12_order F 26 [(0, .ref 193), (1, .int x1), (2, .int x2), (3, .int x3), (4, .int x4)] [] (tS s) 0 0 :=
  okIter (P := (fun (v : (Int32 × Int32) × cS) => PW g l (pRoom 3 0 0) M_X12_order F 26 [(0, .ref 193), (1, .int x1), (2, .int x2), (3, .int v.1.1), (4, .int v.1.2)] [] (tS v.2) 0 0)) (K := (fun q => F = pE g (some (.int q.1)) (tS q.2) 0 0)) (fun v y hB hy => ok_b_X12_order_26 hB hy) N ((x3, x4), s) x h hx
def f_X12_order (N : Nat) (a0 : Int32) (a1 : Int32) (s : cS) : Option (Int32 × cS) :=
  if (f_X12_isOnBed a0 s) = 0 then
    some (((-1 : Int32), s))
  else
    if (f_X12_isOnBed a1 s) = 0 then
      some (((-1 : Int32), s))
    else
      w_X12_order_26 N a0 a1 (0 : Int32) (iG s 193 70) s
set_option maxRecDepth 20000 in
set_option maxHeartbeats 4000000 in
theorem p_X12_order {g : pG} {l : Launch} {N : Nat} {a0 : Int32} {a1 : Int32} {s : cS} {q : Int32 × cS} (h : f_X12_order N a0 a1 s = some q) : PM g l 3 M_X12_order [.ref 193, .int a0, .int a1] (tS s) (some (.int q.1)) (tS q.2) 0 0 := by
  refine PM.of (by decide +kernel) (Nat.le_of_ble_eq_true rfl) ?_
  show PW g l (pRoom 3 0 0) M_X12_order _ 0 [(0, .ref 193), (1, .int a0), (2, .int a1)] [] (tS s) 0 0
  unfold f_X12_order at h
  generalize hF : pE g (some (.int q.1)) (tS q.2) 0 0 = F
  have hx := hF.symm
  refine PW.aload_n 0 0 dX12_order_0 rfl rfl rfl ?_
  refine PW.iload_n 1 1 dX12_order_1 rfl rfl ?_
  refine CW.callVi (ci := 12) (st := []) [.int a0] dX12_order_2 (p_X12_isOnBed rfl) MV_X12_isOnBed mL_X12_477 (by decide) rfl LA_193 rfl rfl (Nat.le_of_ble_eq_true rfl) (by first | decide | omega) ?_
  refine PW.if_eq (tgt := 16) dX12_order_5 (by decide) (fun c2 => ?_) (fun c2 => ?_)
  · replace h := ifp h c2
    refine PW.iconst (v := (-1)) dX12_order_16 (by decide) ?_
    cases h
    subst hx
    exact PW.iret (v := (-1 : Int32)) dX12_order_17 rfl rfl (Nat.le_refl 0) (Nat.le_refl 0)
  · replace h := ifn h c2
    refine PW.aload_n 0 0 dX12_order_8 rfl rfl rfl ?_
    refine PW.iload_n 2 2 dX12_order_9 rfl rfl ?_
    refine CW.callVi (ci := 12) (st := []) [.int a1] dX12_order_10 (p_X12_isOnBed rfl) MV_X12_isOnBed mL_X12_477 (by decide) rfl LA_193 rfl rfl (Nat.le_of_ble_eq_true rfl) (by first | decide | omega) ?_
    refine PW.if_ne (tgt := 18) dX12_order_13 (by decide) (fun c4 => ?_) (fun c4 => ?_)
    · replace h := ifn h c4
      refine PW.iconst (v := 0) dX12_order_18 (by decide) ?_
      refine PW.istore_n dX12_order_19 rfl (Nat.le_of_ble_eq_true rfl) rfl ?_
      refine PW.aload_n 1 0 dX12_order_20 rfl rfl rfl ?_
      refine CW.geti dX12_order_21 fL_X12_466 LA_193 (Or.inl rfl) ?_
      refine PW.istore dX12_order_24 (Nat.le_of_ble_eq_true rfl) rfl ?_
      exact PW.pick [2, 3, 4, 1, 0] rfl (ok_w_X12_order_26 h hx)
    · replace h := ifp h c4
      refine PW.iconst (v := (-1)) dX12_order_16 (by decide) ?_
      cases h
      subst hx
      exact PW.iret (v := (-1 : Int32)) dX12_order_17 rfl rfl (Nat.le_refl 0) (Nat.le_refl 0)
/-! X12_cell -/
def f_X12_cell (a0 : Int32) (a1 : Int32) (a2 : Int32) (s : cS) : Option (Int32 × cS) :=
  if (f_X12_isStory a0 s) = 0 then
    some (((0 : Int32), s))
  else
    if (lIn a1.toInt64 (0 : Int64) (39 : Int64)) = 0 then
      some (((0 : Int32), s))
    else
      if (lIn a2.toInt64 (0 : Int64) (100 : Int64)) = 0 then
        some (((0 : Int32), s))
      else
        if inb (((40 : Int32) * a0) + a1) 240 then
        sb (iS s 239 (((40 : Int32) * a0) + a1).toNatClampNeg a2) fun s8 =>
        some (((1 : Int32), s8))
        else none
set_option maxRecDepth 20000 in
set_option maxHeartbeats 4000000 in
theorem p_X12_cell {g : pG} {l : Launch} {a0 : Int32} {a1 : Int32} {a2 : Int32} {s : cS} {q : Int32 × cS} (h : f_X12_cell a0 a1 a2 s = some q) : PM g l 3 M_X12_cell [.ref 193, .int a0, .int a1, .int a2] (tS s) (some (.int q.1)) (tS q.2) 0 0 := by
  refine PM.of (by decide +kernel) (Nat.le_of_ble_eq_true rfl) ?_
  show PW g l (pRoom 3 0 0) M_X12_cell _ 0 [(0, .ref 193), (1, .int a0), (2, .int a1), (3, .int a2)] [] (tS s) 0 0
  unfold f_X12_cell at h
  generalize hF : pE g (some (.int q.1)) (tS q.2) 0 0 = F
  have hx := hF.symm
  refine PW.aload_n 0 0 dX12_cell_0 rfl rfl rfl ?_
  refine PW.iload_n 1 1 dX12_cell_1 rfl rfl ?_
  refine CW.callVi (ci := 12) (st := []) [.int a0] dX12_cell_2 (p_X12_isStory rfl) MV_X12_isStory mL_X12_454 (by decide) rfl LA_193 rfl rfl (Nat.le_of_ble_eq_true rfl) (by first | decide | omega) ?_
  refine PW.if_eq (tgt := 32) dX12_cell_5 (by decide) (fun c2 => ?_) (fun c2 => ?_)
  · replace h := ifp h c2
    refine PW.iconst (v := 0) dX12_cell_32 (by decide) ?_
    cases h
    subst hx
    exact PW.iret (v := (0 : Int32)) dX12_cell_33 rfl (narZ (Or.inl rfl)) (Nat.le_refl 0) (Nat.le_refl 0)
  · replace h := ifn h c2
    refine PW.iload_n 2 2 dX12_cell_8 rfl rfl ?_
    refine PW.i2l dX12_cell_9 ?_
    refine PW.lconst (v := 0) dX12_cell_10 (by decide) ?_
    refine PW.ldc2_w dX12_cell_11 kL_X12_483 ?_
    refine CW.callSi (st := []) [.long a1.toInt64, .long (0 : Int64), .long (39 : Int64)] dX12_cell_14 (ps_isIn rfl) MS_X12_isIn mL_X12_164 rfl rfl (Nat.le_of_ble_eq_true rfl) (by first | decide | omega) ?_
    refine PW.if_eq (tgt := 32) dX12_cell_17 (by decide) (fun c4 => ?_) (fun c4 => ?_)
    · replace h := ifp h c4
      refine PW.iconst (v := 0) dX12_cell_32 (by decide) ?_
      cases h
      subst hx
      exact PW.iret (v := (0 : Int32)) dX12_cell_33 rfl (narZ (Or.inl rfl)) (Nat.le_refl 0) (Nat.le_refl 0)
    · replace h := ifn h c4
      refine PW.iload_n 3 3 dX12_cell_20 rfl rfl ?_
      refine PW.i2l dX12_cell_21 ?_
      refine PW.lconst (v := 0) dX12_cell_22 (by decide) ?_
      refine PW.ldc2_w dX12_cell_23 kL_X12_449 ?_
      refine CW.callSi (st := []) [.long a2.toInt64, .long (0 : Int64), .long (100 : Int64)] dX12_cell_26 (ps_isIn rfl) MS_X12_isIn mL_X12_164 rfl rfl (Nat.le_of_ble_eq_true rfl) (by first | decide | omega) ?_
      refine PW.if_ne (tgt := 34) dX12_cell_29 (by decide) (fun c6 => ?_) (fun c6 => ?_)
      · replace h := ifn h c6
        refine PW.aload_n 0 0 dX12_cell_34 rfl rfl rfl ?_
        refine CW.getr dX12_cell_35 fL_X12_151 LA_193 (Or.inr ⟨_, rfl⟩) rfl ?_
        refine PW.bipush (v := 40) dX12_cell_38 (by decide) ?_
        refine PW.iload_n 1 1 dX12_cell_40 rfl rfl ?_
        refine PW.imul dX12_cell_41 ?_
        refine PW.iload_n 2 2 dX12_cell_42 rfl rfl ?_
        refine PW.iadd dX12_cell_43 ?_
        refine PW.iload_n 3 3 dX12_cell_44 rfl rfl ?_
        by_cases c7 : inb (((40 : Int32) * a0) + a1) 240
        rotate_left
        · have h := ifn h c7; cases h
        replace h := ifp h c7
        refine CW.iast dX12_cell_45 LA_239 c7 ?_
        obtain ⟨s8, es8, h⟩ := sbnd h
        refine PW.sbe es8 ?_
        clear es8
        refine PW.iconst (v := 1) dX12_cell_46 (by decide) ?_
        cases h
        subst hx
        exact PW.iret (v := (1 : Int32)) dX12_cell_47 rfl (narZ (Or.inr rfl)) (Nat.le_refl 0) (Nat.le_refl 0)
      · replace h := ifp h c6
        refine PW.iconst (v := 0) dX12_cell_32 (by decide) ?_
        cases h
        subst hx
        exact PW.iret (v := (0 : Int32)) dX12_cell_33 rfl (narZ (Or.inl rfl)) (Nat.le_refl 0) (Nat.le_refl 0)
/-! X12_worths -/
def b_X12_worths_20 (N : Nat) (x1 : Int32) (x2 : Int64) (x4 : Int32) (s : cS) : Option (((Int64 × Int32) × cS) ⊕ ((Int32 × cS) ⊕ (Unit × cS))) :=
  if (iG s 193 5) ≤ x4 then
    oR (
      if inb x1 41 then
      if inb (x1 + (1 : Int32)) 41 then
      sb (lS s 240 (x1 + (1 : Int32)).toNatClampNeg ((lG s 240 x1.toNatClampNeg) + x2)) fun s6 =>
      some (.inl ((x1 + (1 : Int32)), s6))
      else none
      else none)
  else
    ob (f_X12_weightOf N x4 s) fun r7 s8 =>
    if inb (((40 : Int32) * x4) + x1) 240 then
    some (.inl (((x2 + (r7 * (iG s8 239 (((40 : Int32) * x4) + x1).toNatClampNeg).toInt64)), (x4 + (1 : Int32))), s8))
    else none
set_option maxRecDepth 20000 in
set_option maxHeartbeats 4000000 in
theorem ok_b_X12_worths_20 {g : pG} {l : Launch} {F : pF} {N : Nat} {x1 : Int32} {x2 : Int64} {x4 : Int32} {s : cS} {x : (((Int64 × Int32) × cS) ⊕ ((Int32 × cS) ⊕ (Unit × cS)))} (h : b_X12_worths_20 N x1 x2 x4 s = some x) (hx : (KL (fun (v : (Int64 × Int32) × cS) => PW g l (pRoom 2 0 0) M_X12_worths F 20 [(0, .ref 193), (1, .int x1), (2, .long v.1.1), (4, .int v.1.2)] [] (tS v.2) 0 0) (KL (fun (v : Int32 × cS) => PW g l (pRoom 2 0 0) M_X12_worths F 9 [(0, .ref 193), (1, .int v.1)] [] (tS v.2) 0 0) (fun q => F = pE g none (tS q.2) 0 0))) x) : PW g l (pRoom 2 0 0) M_X12_worths F 20 [(0, .ref 193), (1, .int x1), (2, .long x2), (4, .int x4)] [] (tS s) 0 0 := by
  unfold b_X12_worths_20 at h
  refine PW.iload 3 dX12_worths_20 rfl ?_
  refine PW.aload_n 0 0 dX12_worths_22 rfl rfl rfl ?_
  refine CW.geti dX12_worths_23 fL_X12_443 LA_193 (Or.inl rfl) ?_
  refine PW.icmp_ge (tgt := 58) dX12_worths_26 (by decide) (fun c3 => ?_) (fun c3 => ?_)
  · replace h := ifp h c3
    obtain ⟨xo, hy, hxo⟩ := oRb h
    clear h
    subst hxo
    replace hx := KLr hx
    have h := hy
    clear hy
    refine PW.aload_n 0 0 dX12_worths_58 rfl rfl rfl ?_
    refine CW.getr dX12_worths_59 fL_X12_154 LA_193 (Or.inr ⟨_, rfl⟩) rfl ?_
    refine PW.iload_n 1 1 dX12_worths_62 rfl rfl ?_
    refine PW.iconst (v := 1) dX12_worths_63 (by decide) ?_
    refine PW.iadd dX12_worths_64 ?_
    refine PW.aload_n 0 0 dX12_worths_65 rfl rfl rfl ?_
    refine CW.getr dX12_worths_66 fL_X12_154 LA_193 (Or.inr ⟨_, rfl⟩) rfl ?_
    refine PW.iload_n 1 1 dX12_worths_69 rfl rfl ?_
    by_cases c4 : inb x1 41
    rotate_left
    · have h := ifn h c4; cases h
    replace h := ifp h c4
    refine CW.lald dX12_worths_70 LA_240 c4 ?_
    refine PW.lload_n 2 2 dX12_worths_71 rfl rfl ?_
    refine PW.ladd dX12_worths_72 ?_
    by_cases c5 : inb (x1 + (1 : Int32)) 41
    rotate_left
    · have h := ifn h c5; cases h
    replace h := ifp h c5
    refine CW.last dX12_worths_73 LA_240 c5 ?_
    obtain ⟨s6, es6, h⟩ := sbnd h
    refine PW.sbe es6 ?_
    clear es6
    refine PW.iinc (v := (x1 + (1 : Int32))) 1 dX12_worths_74 rfl (by first | rfl | decide) (Nat.le_of_ble_eq_true rfl) rfl ?_
    refine PW.goto (tgt := 9) dX12_worths_77 (by decide) ?_
    cases h
    exact PW.pick [1, 0] rfl hx
  · replace h := ifn h c3
    refine PW.lload_n 2 2 dX12_worths_29 rfl rfl ?_
    refine PW.aload_n 0 0 dX12_worths_30 rfl rfl rfl ?_
    refine PW.iload 3 dX12_worths_31 rfl ?_
    obtain ⟨r7, s8, q9, h⟩ := obnd h
    refine CW.callVl (ci := 12) (st := [.long x2]) [.int x4] dX12_worths_33 (p_X12_weightOf q9) MV_X12_weightOf mL_X12_459 (by decide) rfl LA_193 rfl rfl (Nat.le_of_ble_eq_true rfl) (by first | decide | omega) ?_
    refine PW.aload_n 0 0 dX12_worths_36 rfl rfl rfl ?_
    refine CW.getr dX12_worths_37 fL_X12_151 LA_193 (Or.inr ⟨_, rfl⟩) rfl ?_
    refine PW.bipush (v := 40) dX12_worths_40 (by decide) ?_
    refine PW.iload 3 dX12_worths_42 rfl ?_
    refine PW.imul dX12_worths_44 ?_
    refine PW.iload_n 1 1 dX12_worths_45 rfl rfl ?_
    refine PW.iadd dX12_worths_46 ?_
    by_cases c10 : inb (((40 : Int32) * x4) + x1) 240
    rotate_left
    · have h := ifn h c10; cases h
    replace h := ifp h c10
    refine CW.iald dX12_worths_47 LA_239 c10 ?_
    refine PW.i2l dX12_worths_48 ?_
    refine PW.lmul dX12_worths_49 ?_
    refine PW.ladd dX12_worths_50 ?_
    refine PW.lstore_n dX12_worths_51 rfl (Nat.le_of_ble_eq_true rfl) rfl ?_
    refine PW.iinc (v := (x4 + (1 : Int32))) 3 dX12_worths_52 rfl (by first | rfl | decide) (Nat.le_of_ble_eq_true rfl) rfl ?_
    refine PW.goto (tgt := 20) dX12_worths_55 (by decide) ?_
    cases h
    exact PW.pick [2, 3, 1, 0] rfl hx
def w_X12_worths_20 (N : Nat) (x1 : Int32) (x2 : Int64) (x4 : Int32) (s : cS) : Option ((Int32 × cS) ⊕ (Unit × cS)) := itr (fun (v : (Int64 × Int32) × cS) => b_X12_worths_20 N x1 v.1.1 v.1.2 v.2) N ((x2, x4), s)
theorem ok_w_X12_worths_20 {g : pG} {l : Launch} {F : pF} {N : Nat} {x1 : Int32} {x2 : Int64} {x4 : Int32} {s : cS} {x : ((Int32 × cS) ⊕ (Unit × cS))} (h : w_X12_worths_20 N x1 x2 x4 s = some x) (hx : (KL (fun (v : Int32 × cS) => PW g l (pRoom 2 0 0) M_X12_worths F 9 [(0, .ref 193), (1, .int v.1)] [] (tS v.2) 0 0) (fun q => F = pE g none (tS q.2) 0 0)) x) : PW g l (pRoom 2 0 0) M_X12_worths F 20 [(0, .ref 193), (1, .int x1), (2, .long x2), (4, .int x4)] [] (tS s) 0 0 :=
  okIter (P := (fun (v : (Int64 × Int32) × cS) => PW g l (pRoom 2 0 0) M_X12_worths F 20 [(0, .ref 193), (1, .int x1), (2, .long v.1.1), (4, .int v.1.2)] [] (tS v.2) 0 0)) (K := (KL (fun (v : Int32 × cS) => PW g l (pRoom 2 0 0) M_X12_worths F 9 [(0, .ref 193), (1, .int v.1)] [] (tS v.2) 0 0) (fun q => F = pE g none (tS q.2) 0 0))) (fun v y hB hy => ok_b_X12_worths_20 hB hy) N ((x2, x4), s) x h hx
def b_X12_worths_9 (N : Nat) (x1 : Int32) (s : cS) : Option ((Int32 × cS) ⊕ (Unit × cS)) :=
  if (40 : Int32) ≤ x1 then
    oR (
      some (((), s)))
  else
    w_X12_worths_20 N x1 (0 : Int64) (0 : Int32) s
set_option maxRecDepth 20000 in
set_option maxHeartbeats 4000000 in
theorem ok_b_X12_worths_9 {g : pG} {l : Launch} {F : pF} {N : Nat} {x1 : Int32} {s : cS} {x : ((Int32 × cS) ⊕ (Unit × cS))} (h : b_X12_worths_9 N x1 s = some x) (hx : (KL (fun (v : Int32 × cS) => PW g l (pRoom 2 0 0) M_X12_worths F 9 [(0, .ref 193), (1, .int v.1)] [] (tS v.2) 0 0) (fun q => F = pE g none (tS q.2) 0 0)) x) : PW g l (pRoom 2 0 0) M_X12_worths F 9 [(0, .ref 193), (1, .int x1)] [] (tS s) 0 0 := by
  unfold b_X12_worths_9 at h
  refine PW.iload_n 1 1 dX12_worths_9 rfl rfl ?_
  refine PW.bipush (v := 40) dX12_worths_10 (by decide) ?_
  refine PW.icmp_ge (tgt := 80) dX12_worths_12 (by decide) (fun c2 => ?_) (fun c2 => ?_)
  · replace h := ifp h c2
    obtain ⟨xo, hy, hxo⟩ := oRb h
    clear h
    subst hxo
    replace hx := KLr hx
    have h := hy
    clear hy
    cases h
    subst hx
    exact PW.vret dX12_worths_80 rfl (Nat.le_refl 0) (Nat.le_refl 0)
  · replace h := ifn h c2
    refine PW.lconst (v := 0) dX12_worths_15 (by decide) ?_
    refine PW.lstore_n dX12_worths_16 rfl (Nat.le_of_ble_eq_true rfl) rfl ?_
    refine PW.iconst (v := 0) dX12_worths_17 (by decide) ?_
    refine PW.istore dX12_worths_18 (Nat.le_of_ble_eq_true rfl) rfl ?_
    exact PW.pick [2, 3, 1, 0] rfl (ok_w_X12_worths_20 h hx)
def w_X12_worths_9 (N : Nat) (x1 : Int32) (s : cS) : Option (Unit × cS) := itr (fun (v : Int32 × cS) => b_X12_worths_9 N v.1 v.2) N (x1, s)
theorem ok_w_X12_worths_9 {g : pG} {l : Launch} {F : pF} {N : Nat} {x1 : Int32} {s : cS} {x : (Unit × cS)} (h : w_X12_worths_9 N x1 s = some x) (hx : (fun q => F = pE g none (tS q.2) 0 0) x) : PW g l (pRoom 2 0 0) M_X12_worths F 9 [(0, .ref 193), (1, .int x1)] [] (tS s) 0 0 :=
  okIter (P := (fun (v : Int32 × cS) => PW g l (pRoom 2 0 0) M_X12_worths F 9 [(0, .ref 193), (1, .int v.1)] [] (tS v.2) 0 0)) (K := (fun q => F = pE g none (tS q.2) 0 0)) (fun v y hB hy => ok_b_X12_worths_9 hB hy) N (x1, s) x h hx
def f_X12_worths (N : Nat) (s : cS) : Option (Unit × cS) :=
  sb (lS s 240 0 (0 : Int64)) fun s1 =>
  w_X12_worths_9 N (0 : Int32) s1
set_option maxRecDepth 20000 in
set_option maxHeartbeats 4000000 in
theorem p_X12_worths {g : pG} {l : Launch} {N : Nat} {s : cS} {q : Unit × cS} (h : f_X12_worths N s = some q) : PM g l 2 M_X12_worths [.ref 193] (tS s) none (tS q.2) 0 0 := by
  refine PM.of (by decide +kernel) (Nat.le_of_ble_eq_true rfl) ?_
  show PW g l (pRoom 2 0 0) M_X12_worths _ 0 [(0, .ref 193)] [] (tS s) 0 0
  unfold f_X12_worths at h
  generalize hF : pE g none (tS q.2) 0 0 = F
  have hx := hF.symm
  refine PW.aload_n 0 0 dX12_worths_0 rfl rfl rfl ?_
  refine CW.getr dX12_worths_1 fL_X12_154 LA_193 (Or.inr ⟨_, rfl⟩) rfl ?_
  refine PW.iconst (v := 0) dX12_worths_4 (by decide) ?_
  refine PW.lconst (v := 0) dX12_worths_5 (by decide) ?_
  refine CW.last dX12_worths_6 LA_240 (by decide) ?_
  obtain ⟨s1, es1, h⟩ := sbnd h
  refine PW.sbe es1 ?_
  clear es1
  refine PW.iconst (v := 0) dX12_worths_7 (by decide) ?_
  refine PW.istore_n dX12_worths_8 rfl (Nat.le_of_ble_eq_true rfl) rfl ?_
  exact PW.pick [1, 0] rfl (ok_w_X12_worths_9 h hx)
/-! X12_nets -/
def j_X12_nets_333 (x1 : Int32) (x2 : Int32) (x3 : Int32) (x4 : Int32) (x5 : Int32) (s : cS) : Option ((Int32 × cS) ⊕ (((Int32 × Int32) × cS) ⊕ (Int64 × cS))) :=
  some (.inl ((x4 + (1 : Int32)), s))
set_option maxRecDepth 20000 in
set_option maxHeartbeats 4000000 in
theorem ok_j_X12_nets_333 {g : pG} {l : Launch} {F : pF} {x1 : Int32} {x2 : Int32} {x3 : Int32} {x4 : Int32} {x5 : Int32} {s : cS} {x : ((Int32 × cS) ⊕ (((Int32 × Int32) × cS) ⊕ (Int64 × cS)))} (h : j_X12_nets_333 x1 x2 x3 x4 x5 s = some x) (hx : (KL (fun (v : Int32 × cS) => PW g l (pRoom 3 0 0) M_X12_nets F 259 [(0, .ref 193), (1, .int x1), (2, .int x2), (3, .int x3), (4, .int v.1), (5, .int x5)] [] (tS v.2) 0 0) (KL (fun (v : (Int32 × Int32) × cS) => PW g l (pRoom 3 0 0) M_X12_nets F 254 [(0, .ref 193), (1, .int x1), (2, .int x2), (3, .int x3), (4, .int v.1.1), (5, .int v.1.2)] [] (tS v.2) 0 0) (fun q => F = pE g (some (.long q.1)) (tS q.2) 0 0))) x) : PW g l (pRoom 3 0 0) M_X12_nets F 333 [(0, .ref 193), (1, .int x1), (2, .int x2), (3, .int x3), (4, .int x4), (5, .int x5)] [] (tS s) 0 0 := by
  unfold j_X12_nets_333 at h
  refine PW.iinc (v := (x4 + (1 : Int32))) 4 dX12_nets_333 rfl (by first | rfl | decide) (Nat.le_of_ble_eq_true rfl) rfl ?_
  refine PW.goto (tgt := 259) dX12_nets_336 (by decide) ?_
  cases h
  exact PW.pick [1, 2, 3, 4, 0, 5] rfl hx
def b_X12_nets_259 (x1 : Int32) (x2 : Int32) (x3 : Int32) (x5 : Int32) (x4 : Int32) (s : cS) : Option ((Int32 × cS) ⊕ (((Int32 × Int32) × cS) ⊕ (Int64 × cS))) :=
  if inb ((((41 : Int32) * (x5 - (1 : Int32))) + x4) + x2) 205 then
  if (lg_cmp (lG s 241 ((((41 : Int32) * (x5 - (1 : Int32))) + x4) + x2).toNatClampNeg) (0 : Int64)) < 0 then
    j_X12_nets_333 x1 x2 x3 x4 x5 s
  else
    if inb (x4 + x2) 41 then
    if inb x4 41 then
    if inb (((41 : Int32) * x5) + x4) 205 then
    if (lg_cmp (((lG s 240 (x4 + x2).toNatClampNeg) - (lG s 240 x4.toNatClampNeg)) + (lG s 241 ((((41 : Int32) * (x5 - (1 : Int32))) + x4) + x2).toNatClampNeg)) (lG s 241 (((41 : Int32) * x5) + x4).toNatClampNeg)) = 0 then
      oR (
        if (x1 - x5) = x3 then
          oR (
            some ((x4.toInt64, s)))
        else
          some (.inl (((x4 + x2), (x5 + (-1))), s)))
    else
      j_X12_nets_333 x1 x2 x3 x4 x5 s
    else none
    else none
    else none
  else none
set_option maxRecDepth 20000 in
set_option maxHeartbeats 4000000 in
theorem ok_b_X12_nets_259 {g : pG} {l : Launch} {F : pF} {x1 : Int32} {x2 : Int32} {x3 : Int32} {x5 : Int32} {x4 : Int32} {s : cS} {x : ((Int32 × cS) ⊕ (((Int32 × Int32) × cS) ⊕ (Int64 × cS)))} (h : b_X12_nets_259 x1 x2 x3 x5 x4 s = some x) (hx : (KL (fun (v : Int32 × cS) => PW g l (pRoom 3 0 0) M_X12_nets F 259 [(0, .ref 193), (1, .int x1), (2, .int x2), (3, .int x3), (4, .int v.1), (5, .int x5)] [] (tS v.2) 0 0) (KL (fun (v : (Int32 × Int32) × cS) => PW g l (pRoom 3 0 0) M_X12_nets F 254 [(0, .ref 193), (1, .int x1), (2, .int x2), (3, .int x3), (4, .int v.1.1), (5, .int v.1.2)] [] (tS v.2) 0 0) (fun q => F = pE g (some (.long q.1)) (tS q.2) 0 0))) x) : PW g l (pRoom 3 0 0) M_X12_nets F 259 [(0, .ref 193), (1, .int x1), (2, .int x2), (3, .int x3), (4, .int x4), (5, .int x5)] [] (tS s) 0 0 := by
  unfold b_X12_nets_259 at h
  refine PW.aload_n 0 0 dX12_nets_259 rfl rfl rfl ?_
  refine CW.getr dX12_nets_260 fL_X12_158 LA_193 (Or.inr ⟨_, rfl⟩) rfl ?_
  refine PW.bipush (v := 41) dX12_nets_263 (by decide) ?_
  refine PW.iload 5 dX12_nets_265 rfl ?_
  refine PW.iconst (v := 1) dX12_nets_267 (by decide) ?_
  refine PW.isub dX12_nets_268 ?_
  refine PW.imul dX12_nets_269 ?_
  refine PW.iload 4 dX12_nets_270 rfl ?_
  refine PW.iadd dX12_nets_272 ?_
  refine PW.iload_n 2 2 dX12_nets_273 rfl rfl ?_
  refine PW.iadd dX12_nets_274 ?_
  by_cases c14 : inb ((((41 : Int32) * (x5 - (1 : Int32))) + x4) + x2) 205
  rotate_left
  · have h := ifn h c14; cases h
  replace h := ifp h c14
  refine CW.lald dX12_nets_275 LA_241 c14 ?_
  refine PW.lconst (v := 0) dX12_nets_276 (by decide) ?_
  refine PW.lcmp dX12_nets_277 ?_
  refine PW.if_lt (tgt := 333) dX12_nets_278 (by decide) (fun c15 => ?_) (fun c15 => ?_)
  · replace h := ifp h c15
    exact PW.pick [0, 1, 2, 3, 4, 5] rfl (ok_j_X12_nets_333 h hx)
  · replace h := ifn h c15
    refine PW.aload_n 0 0 dX12_nets_281 rfl rfl rfl ?_
    refine CW.getr dX12_nets_282 fL_X12_154 LA_193 (Or.inr ⟨_, rfl⟩) rfl ?_
    refine PW.iload 4 dX12_nets_285 rfl ?_
    refine PW.iload_n 2 2 dX12_nets_287 rfl rfl ?_
    refine PW.iadd dX12_nets_288 ?_
    by_cases c16 : inb (x4 + x2) 41
    rotate_left
    · have h := ifn h c16; cases h
    replace h := ifp h c16
    refine CW.lald dX12_nets_289 LA_240 c16 ?_
    refine PW.aload_n 0 0 dX12_nets_290 rfl rfl rfl ?_
    refine CW.getr dX12_nets_291 fL_X12_154 LA_193 (Or.inr ⟨_, rfl⟩) rfl ?_
    refine PW.iload 4 dX12_nets_294 rfl ?_
    by_cases c17 : inb x4 41
    rotate_left
    · have h := ifn h c17; cases h
    replace h := ifp h c17
    refine CW.lald dX12_nets_296 LA_240 c17 ?_
    refine PW.lsub dX12_nets_297 ?_
    refine PW.aload_n 0 0 dX12_nets_298 rfl rfl rfl ?_
    refine CW.getr dX12_nets_299 fL_X12_158 LA_193 (Or.inr ⟨_, rfl⟩) rfl ?_
    refine PW.bipush (v := 41) dX12_nets_302 (by decide) ?_
    refine PW.iload 5 dX12_nets_304 rfl ?_
    refine PW.iconst (v := 1) dX12_nets_306 (by decide) ?_
    refine PW.isub dX12_nets_307 ?_
    refine PW.imul dX12_nets_308 ?_
    refine PW.iload 4 dX12_nets_309 rfl ?_
    refine PW.iadd dX12_nets_311 ?_
    refine PW.iload_n 2 2 dX12_nets_312 rfl rfl ?_
    refine PW.iadd dX12_nets_313 ?_
    refine CW.lald dX12_nets_314 LA_241 c14 ?_
    refine PW.ladd dX12_nets_315 ?_
    refine PW.aload_n 0 0 dX12_nets_316 rfl rfl rfl ?_
    refine CW.getr dX12_nets_317 fL_X12_158 LA_193 (Or.inr ⟨_, rfl⟩) rfl ?_
    refine PW.bipush (v := 41) dX12_nets_320 (by decide) ?_
    refine PW.iload 5 dX12_nets_322 rfl ?_
    refine PW.imul dX12_nets_324 ?_
    refine PW.iload 4 dX12_nets_325 rfl ?_
    refine PW.iadd dX12_nets_327 ?_
    by_cases c18 : inb (((41 : Int32) * x5) + x4) 205
    rotate_left
    · have h := ifn h c18; cases h
    replace h := ifp h c18
    refine CW.lald dX12_nets_328 LA_241 c18 ?_
    refine PW.lcmp dX12_nets_329 ?_
    refine PW.if_eq (tgt := 339) dX12_nets_330 (by decide) (fun c19 => ?_) (fun c19 => ?_)
    · replace h := ifp h c19
      obtain ⟨xo, hy, hxo⟩ := oRb h
      clear h
      subst hxo
      replace hx := KLr hx
      have h := hy
      clear hy
      refine PW.iload_n 1 1 dX12_nets_339 rfl rfl ?_
      refine PW.iload 5 dX12_nets_340 rfl ?_
      refine PW.isub dX12_nets_342 ?_
      refine PW.iload_n 3 3 dX12_nets_343 rfl rfl ?_
      refine PW.icmp_ne (tgt := 351) dX12_nets_344 (by decide) (fun c20 => ?_) (fun c20 => ?_)
      · replace h := ifn h c20
        refine PW.iload 4 dX12_nets_351 rfl ?_
        refine PW.iload_n 2 2 dX12_nets_353 rfl rfl ?_
        refine PW.iadd dX12_nets_354 ?_
        refine PW.istore dX12_nets_355 (Nat.le_of_ble_eq_true rfl) rfl ?_
        refine PW.iinc (v := (x5 + (-1))) 5 dX12_nets_357 rfl (by first | rfl | decide) (Nat.le_of_ble_eq_true rfl) rfl ?_
        refine PW.goto (tgt := 254) dX12_nets_360 (by decide) ?_
        cases h
        exact PW.pick [2, 3, 4, 5, 1, 0] rfl hx
      · replace h := ifp h c20
        obtain ⟨xo, hy, hxo⟩ := oRb h
        clear h
        subst hxo
        replace hx := KLr hx
        have h := hy
        clear hy
        refine PW.iload 4 dX12_nets_347 rfl ?_
        refine PW.i2l dX12_nets_349 ?_
        cases h
        subst hx
        exact PW.lret dX12_nets_350 rfl (Nat.le_refl 0) (Nat.le_refl 0)
    · replace h := ifn h c19
      exact PW.pick [0, 1, 2, 3, 4, 5] rfl (ok_j_X12_nets_333 h hx)
def w_X12_nets_259 (N : Nat) (x1 : Int32) (x2 : Int32) (x3 : Int32) (x4 : Int32) (x5 : Int32) (s : cS) : Option (((Int32 × Int32) × cS) ⊕ (Int64 × cS)) := itr (fun (v : Int32 × cS) => b_X12_nets_259 x1 x2 x3 x5 v.1 v.2) N (x4, s)
theorem ok_w_X12_nets_259 {g : pG} {l : Launch} {F : pF} {N : Nat} {x1 : Int32} {x2 : Int32} {x3 : Int32} {x4 : Int32} {x5 : Int32} {s : cS} {x : (((Int32 × Int32) × cS) ⊕ (Int64 × cS))} (h : w_X12_nets_259 N x1 x2 x3 x4 x5 s = some x) (hx : (KL (fun (v : (Int32 × Int32) × cS) => PW g l (pRoom 3 0 0) M_X12_nets F 254 [(0, .ref 193), (1, .int x1), (2, .int x2), (3, .int x3), (4, .int v.1.1), (5, .int v.1.2)] [] (tS v.2) 0 0) (fun q => F = pE g (some (.long q.1)) (tS q.2) 0 0)) x) : PW g l (pRoom 3 0 0) M_X12_nets F 259 [(0, .ref 193), (1, .int x1), (2, .int x2), (3, .int x3), (4, .int x4), (5, .int x5)] [] (tS s) 0 0 :=
  okIter (P := (fun (v : Int32 × cS) => PW g l (pRoom 3 0 0) M_X12_nets F 259 [(0, .ref 193), (1, .int x1), (2, .int x2), (3, .int x3), (4, .int v.1), (5, .int x5)] [] (tS v.2) 0 0)) (K := (KL (fun (v : (Int32 × Int32) × cS) => PW g l (pRoom 3 0 0) M_X12_nets F 254 [(0, .ref 193), (1, .int x1), (2, .int x2), (3, .int x3), (4, .int v.1.1), (5, .int v.1.2)] [] (tS v.2) 0 0) (fun q => F = pE g (some (.long q.1)) (tS q.2) 0 0))) (fun v y hB hy => ok_b_X12_nets_259 hB hy) N (x4, s) x h hx
def b_X12_nets_254 (N : Nat) (x1 : Int32) (x2 : Int32) (x3 : Int32) (x4 : Int32) (x5 : Int32) (s : cS) : Option (((Int32 × Int32) × cS) ⊕ (Int64 × cS)) :=
  if x5 ≤ 0 then
    oR (
      some (((-1 : Int64), s)))
  else
    w_X12_nets_259 N x1 x2 x3 x4 x5 s
set_option maxRecDepth 20000 in
set_option maxHeartbeats 4000000 in
theorem ok_b_X12_nets_254 {g : pG} {l : Launch} {F : pF} {N : Nat} {x1 : Int32} {x2 : Int32} {x3 : Int32} {x4 : Int32} {x5 : Int32} {s : cS} {x : (((Int32 × Int32) × cS) ⊕ (Int64 × cS))} (h : b_X12_nets_254 N x1 x2 x3 x4 x5 s = some x) (hx : (KL (fun (v : (Int32 × Int32) × cS) => PW g l (pRoom 3 0 0) M_X12_nets F 254 [(0, .ref 193), (1, .int x1), (2, .int x2), (3, .int x3), (4, .int v.1.1), (5, .int v.1.2)] [] (tS v.2) 0 0) (fun q => F = pE g (some (.long q.1)) (tS q.2) 0 0)) x) : PW g l (pRoom 3 0 0) M_X12_nets F 254 [(0, .ref 193), (1, .int x1), (2, .int x2), (3, .int x3), (4, .int x4), (5, .int x5)] [] (tS s) 0 0 := by
  unfold b_X12_nets_254 at h
  refine PW.iload 5 dX12_nets_254 rfl ?_
  refine PW.if_le (tgt := 363) dX12_nets_256 (by decide) (fun c13 => ?_) (fun c13 => ?_)
  · replace h := ifp h c13
    obtain ⟨xo, hy, hxo⟩ := oRb h
    clear h
    subst hxo
    replace hx := KLr hx
    have h := hy
    clear hy
    refine PW.ldc2_w dX12_nets_363 kL_X12_388 ?_
    cases h
    subst hx
    exact PW.lret dX12_nets_366 rfl (Nat.le_refl 0) (Nat.le_refl 0)
  · replace h := ifn h c13
    exact PW.pick [0, 1, 2, 3, 4, 5] rfl (ok_w_X12_nets_259 h hx)
def w_X12_nets_254 (N : Nat) (x1 : Int32) (x2 : Int32) (x3 : Int32) (x4 : Int32) (x5 : Int32) (s : cS) : Option (Int64 × cS) := itr (fun (v : (Int32 × Int32) × cS) => b_X12_nets_254 N x1 x2 x3 v.1.1 v.1.2 v.2) N ((x4, x5), s)
theorem ok_w_X12_nets_254 {g : pG} {l : Launch} {F : pF} {N : Nat} {x1 : Int32} {x2 : Int32} {x3 : Int32} {x4 : Int32} {x5 : Int32} {s : cS} {x : (Int64 × cS)} (h : w_X12_nets_254 N x1 x2 x3 x4 x5 s = some x) (hx : (fun q => F = pE g (some (.long q.1)) (tS q.2) 0 0) x) : PW g l (pRoom 3 0 0) M_X12_nets F 254 [(0, .ref 193), (1, .int x1), (2, .int x2), (3, .int x3), (4, .int x4), (5, .int x5)] [] (tS s) 0 0 :=
  okIter (P := (fun (v : (Int32 × Int32) × cS) => PW g l (pRoom 3 0 0) M_X12_nets F 254 [(0, .ref 193), (1, .int x1), (2, .int x2), (3, .int x3), (4, .int v.1.1), (5, .int v.1.2)] [] (tS v.2) 0 0)) (K := (fun q => F = pE g (some (.long q.1)) (tS q.2) 0 0)) (fun v y hB hy => ok_b_X12_nets_254 hB hy) N ((x4, x5), s) x h hx
def j_X12_nets_206 (x1 : Int32) (x2 : Int32) (x3 : Int32) (x4 : Int32) (x5 : Int32) (x6 : Int64) (s : cS) : Option ((Int32 × cS) ⊕ ((Int32 × cS) ⊕ (Int64 × cS))) :=
  if inb (((41 : Int32) * x4) + x5) 205 then
  sb (lS s 241 (((41 : Int32) * x4) + x5).toNatClampNeg x6) fun s27 =>
  some (.inl ((x5 + (-1)), s27))
  else none
set_option maxRecDepth 20000 in
set_option maxHeartbeats 4000000 in
theorem ok_j_X12_nets_206 {g : pG} {l : Launch} {F : pF} {x1 : Int32} {x2 : Int32} {x3 : Int32} {x4 : Int32} {x5 : Int32} {x6 : Int64} {s : cS} {x : ((Int32 × cS) ⊕ ((Int32 × cS) ⊕ (Int64 × cS)))} (h : j_X12_nets_206 x1 x2 x3 x4 x5 x6 s = some x) (hx : (KL (fun (v : Int32 × cS) => PW g l (pRoom 3 0 0) M_X12_nets F 68 [(0, .ref 193), (1, .int x1), (2, .int x2), (3, .int x3), (4, .int x4), (5, .int v.1)] [] (tS v.2) 0 0) (KL (fun (v : Int32 × cS) => PW g l (pRoom 3 0 0) M_X12_nets F 58 [(0, .ref 193), (1, .int x1), (2, .int x2), (3, .int x3), (4, .int v.1)] [] (tS v.2) 0 0) (fun q => F = pE g (some (.long q.1)) (tS q.2) 0 0))) x) : PW g l (pRoom 3 0 0) M_X12_nets F 206 [(0, .ref 193), (1, .int x1), (2, .int x2), (3, .int x3), (4, .int x4), (5, .int x5), (6, .long x6)] [] (tS s) 0 0 := by
  unfold j_X12_nets_206 at h
  refine PW.aload_n 0 0 dX12_nets_206 rfl rfl rfl ?_
  refine CW.getr dX12_nets_207 fL_X12_158 LA_193 (Or.inr ⟨_, rfl⟩) rfl ?_
  refine PW.bipush (v := 41) dX12_nets_210 (by decide) ?_
  refine PW.iload 4 dX12_nets_212 rfl ?_
  refine PW.imul dX12_nets_214 ?_
  refine PW.iload 5 dX12_nets_215 rfl ?_
  refine PW.iadd dX12_nets_217 ?_
  refine PW.lload 6 dX12_nets_218 rfl ?_
  by_cases c26 : inb (((41 : Int32) * x4) + x5) 205
  rotate_left
  · have h := ifn h c26; cases h
  replace h := ifp h c26
  refine CW.last dX12_nets_220 LA_241 c26 ?_
  obtain ⟨s27, es27, h⟩ := sbnd h
  refine PW.sbe es27 ?_
  clear es27
  refine PW.iinc (v := (x5 + (-1))) 5 dX12_nets_221 rfl (by first | rfl | decide) (Nat.le_of_ble_eq_true rfl) rfl ?_
  refine PW.goto (tgt := 68) dX12_nets_224 (by decide) ?_
  cases h
  exact PW.pick [1, 2, 3, 4, 5, 0] rfl hx
def j_X12_nets_204 (x1 : Int32) (x2 : Int32) (x3 : Int32) (x4 : Int32) (x5 : Int32) (y0 : Int64) (s : cS) : Option ((Int32 × cS) ⊕ ((Int32 × cS) ⊕ (Int64 × cS))) :=
  j_X12_nets_206 x1 x2 x3 x4 x5 y0 s
set_option maxRecDepth 20000 in
set_option maxHeartbeats 4000000 in
theorem ok_j_X12_nets_204 {g : pG} {l : Launch} {F : pF} {x1 : Int32} {x2 : Int32} {x3 : Int32} {x4 : Int32} {x5 : Int32} {y0 : Int64} {s : cS} {x : ((Int32 × cS) ⊕ ((Int32 × cS) ⊕ (Int64 × cS)))} (h : j_X12_nets_204 x1 x2 x3 x4 x5 y0 s = some x) (hx : (KL (fun (v : Int32 × cS) => PW g l (pRoom 3 0 0) M_X12_nets F 68 [(0, .ref 193), (1, .int x1), (2, .int x2), (3, .int x3), (4, .int x4), (5, .int v.1)] [] (tS v.2) 0 0) (KL (fun (v : Int32 × cS) => PW g l (pRoom 3 0 0) M_X12_nets F 58 [(0, .ref 193), (1, .int x1), (2, .int x2), (3, .int x3), (4, .int v.1)] [] (tS v.2) 0 0) (fun q => F = pE g (some (.long q.1)) (tS q.2) 0 0))) x) : PW g l (pRoom 3 0 0) M_X12_nets F 204 [(0, .ref 193), (1, .int x1), (2, .int x2), (3, .int x3), (4, .int x4), (5, .int x5)] [.long y0] (tS s) 0 0 := by
  unfold j_X12_nets_204 at h
  refine PW.lstore dX12_nets_204 (Nat.le_of_ble_eq_true rfl) rfl ?_
  exact PW.pick [1, 2, 3, 4, 5, 6, 0] rfl (ok_j_X12_nets_206 h hx)
def j_X12_nets_116 (x1 : Int32) (x2 : Int32) (x3 : Int32) (x4 : Int32) (x5 : Int32) (x6 : Int64) (s : cS) : Option ((Int32 × cS) ⊕ ((Int32 × cS) ⊕ (Int64 × cS))) :=
  if x4 ≤ 0 then
    j_X12_nets_206 x1 x2 x3 x4 x5 x6 s
  else
    if (40 : Int32) < (x5 + x2) then
      j_X12_nets_206 x1 x2 x3 x4 x5 x6 s
    else
      if inb ((((41 : Int32) * (x4 - (1 : Int32))) + x5) + x2) 205 then
      if (lg_cmp (lG s 241 ((((41 : Int32) * (x4 - (1 : Int32))) + x5) + x2).toNatClampNeg) (0 : Int64)) < 0 then
        j_X12_nets_206 x1 x2 x3 x4 x5 x6 s
      else
        if inb (x5 + x2) 41 then
        if inb x5 41 then
        if (lg_cmp (((lG s 240 (x5 + x2).toNatClampNeg) - (lG s 240 x5.toNatClampNeg)) + (lG s 241 ((((41 : Int32) * (x4 - (1 : Int32))) + x5) + x2).toNatClampNeg)) x6) ≤ 0 then
          j_X12_nets_204 x1 x2 x3 x4 x5 x6 s
        else
          j_X12_nets_204 x1 x2 x3 x4 x5 (((lG s 240 (x5 + x2).toNatClampNeg) - (lG s 240 x5.toNatClampNeg)) + (lG s 241 ((((41 : Int32) * (x4 - (1 : Int32))) + x5) + x2).toNatClampNeg)) s
        else none
        else none
      else none
set_option maxRecDepth 20000 in
set_option maxHeartbeats 4000000 in
theorem ok_j_X12_nets_116 {g : pG} {l : Launch} {F : pF} {x1 : Int32} {x2 : Int32} {x3 : Int32} {x4 : Int32} {x5 : Int32} {x6 : Int64} {s : cS} {x : ((Int32 × cS) ⊕ ((Int32 × cS) ⊕ (Int64 × cS)))} (h : j_X12_nets_116 x1 x2 x3 x4 x5 x6 s = some x) (hx : (KL (fun (v : Int32 × cS) => PW g l (pRoom 3 0 0) M_X12_nets F 68 [(0, .ref 193), (1, .int x1), (2, .int x2), (3, .int x3), (4, .int x4), (5, .int v.1)] [] (tS v.2) 0 0) (KL (fun (v : Int32 × cS) => PW g l (pRoom 3 0 0) M_X12_nets F 58 [(0, .ref 193), (1, .int x1), (2, .int x2), (3, .int x3), (4, .int v.1)] [] (tS v.2) 0 0) (fun q => F = pE g (some (.long q.1)) (tS q.2) 0 0))) x) : PW g l (pRoom 3 0 0) M_X12_nets F 116 [(0, .ref 193), (1, .int x1), (2, .int x2), (3, .int x3), (4, .int x4), (5, .int x5), (6, .long x6)] [] (tS s) 0 0 := by
  unfold j_X12_nets_116 at h
  refine PW.iload 4 dX12_nets_116 rfl ?_
  refine PW.if_le (tgt := 206) dX12_nets_118 (by decide) (fun c25 => ?_) (fun c25 => ?_)
  · replace h := ifp h c25
    exact PW.pick [0, 1, 2, 3, 4, 5, 6] rfl (ok_j_X12_nets_206 h hx)
  · replace h := ifn h c25
    refine PW.iload 5 dX12_nets_121 rfl ?_
    refine PW.iload_n 2 2 dX12_nets_123 rfl rfl ?_
    refine PW.iadd dX12_nets_124 ?_
    refine PW.bipush (v := 40) dX12_nets_125 (by decide) ?_
    refine PW.icmp_gt (tgt := 206) dX12_nets_127 (by decide) (fun c28 => ?_) (fun c28 => ?_)
    · replace h := ifp h c28
      exact PW.pick [0, 1, 2, 3, 4, 5, 6] rfl (ok_j_X12_nets_206 h hx)
    · replace h := ifn h c28
      refine PW.aload_n 0 0 dX12_nets_130 rfl rfl rfl ?_
      refine CW.getr dX12_nets_131 fL_X12_158 LA_193 (Or.inr ⟨_, rfl⟩) rfl ?_
      refine PW.bipush (v := 41) dX12_nets_134 (by decide) ?_
      refine PW.iload 4 dX12_nets_136 rfl ?_
      refine PW.iconst (v := 1) dX12_nets_138 (by decide) ?_
      refine PW.isub dX12_nets_139 ?_
      refine PW.imul dX12_nets_140 ?_
      refine PW.iload 5 dX12_nets_141 rfl ?_
      refine PW.iadd dX12_nets_143 ?_
      refine PW.iload_n 2 2 dX12_nets_144 rfl rfl ?_
      refine PW.iadd dX12_nets_145 ?_
      by_cases c29 : inb ((((41 : Int32) * (x4 - (1 : Int32))) + x5) + x2) 205
      rotate_left
      · have h := ifn h c29; cases h
      replace h := ifp h c29
      refine CW.lald dX12_nets_146 LA_241 c29 ?_
      refine PW.lconst (v := 0) dX12_nets_147 (by decide) ?_
      refine PW.lcmp dX12_nets_148 ?_
      refine PW.if_lt (tgt := 206) dX12_nets_149 (by decide) (fun c30 => ?_) (fun c30 => ?_)
      · replace h := ifp h c30
        exact PW.pick [0, 1, 2, 3, 4, 5, 6] rfl (ok_j_X12_nets_206 h hx)
      · replace h := ifn h c30
        refine PW.aload_n 0 0 dX12_nets_152 rfl rfl rfl ?_
        refine CW.getr dX12_nets_153 fL_X12_154 LA_193 (Or.inr ⟨_, rfl⟩) rfl ?_
        refine PW.iload 5 dX12_nets_156 rfl ?_
        refine PW.iload_n 2 2 dX12_nets_158 rfl rfl ?_
        refine PW.iadd dX12_nets_159 ?_
        by_cases c31 : inb (x5 + x2) 41
        rotate_left
        · have h := ifn h c31; cases h
        replace h := ifp h c31
        refine CW.lald dX12_nets_160 LA_240 c31 ?_
        refine PW.aload_n 0 0 dX12_nets_161 rfl rfl rfl ?_
        refine CW.getr dX12_nets_162 fL_X12_154 LA_193 (Or.inr ⟨_, rfl⟩) rfl ?_
        refine PW.iload 5 dX12_nets_165 rfl ?_
        by_cases c32 : inb x5 41
        rotate_left
        · have h := ifn h c32; cases h
        replace h := ifp h c32
        refine CW.lald dX12_nets_167 LA_240 c32 ?_
        refine PW.lsub dX12_nets_168 ?_
        refine PW.aload_n 0 0 dX12_nets_169 rfl rfl rfl ?_
        refine CW.getr dX12_nets_170 fL_X12_158 LA_193 (Or.inr ⟨_, rfl⟩) rfl ?_
        refine PW.bipush (v := 41) dX12_nets_173 (by decide) ?_
        refine PW.iload 4 dX12_nets_175 rfl ?_
        refine PW.iconst (v := 1) dX12_nets_177 (by decide) ?_
        refine PW.isub dX12_nets_178 ?_
        refine PW.imul dX12_nets_179 ?_
        refine PW.iload 5 dX12_nets_180 rfl ?_
        refine PW.iadd dX12_nets_182 ?_
        refine PW.iload_n 2 2 dX12_nets_183 rfl rfl ?_
        refine PW.iadd dX12_nets_184 ?_
        refine CW.lald dX12_nets_185 LA_241 c29 ?_
        refine PW.ladd dX12_nets_186 ?_
        refine PW.lstore dX12_nets_187 (Nat.le_of_ble_eq_true rfl) rfl ?_
        refine PW.lload 0 dX12_nets_189 rfl ?_
        refine PW.lload 7 dX12_nets_191 rfl ?_
        refine PW.lcmp dX12_nets_193 ?_
        refine PW.if_le (tgt := 202) dX12_nets_194 (by decide) (fun c33 => ?_) (fun c33 => ?_)
        · replace h := ifp h c33
          refine PW.lload 7 dX12_nets_202 rfl ?_
          exact PW.pick [1, 2, 3, 4, 5, 6] rfl (ok_j_X12_nets_204 h hx)
        · replace h := ifn h c33
          refine PW.lload 0 dX12_nets_197 rfl ?_
          refine PW.goto (tgt := 204) dX12_nets_199 (by decide) ?_
          exact PW.pick [1, 2, 3, 4, 5, 6] rfl (ok_j_X12_nets_204 h hx)
def j_X12_nets_85 (x1 : Int32) (x2 : Int32) (x3 : Int32) (x4 : Int32) (x5 : Int32) (y0 : Int64) (s : cS) : Option ((Int32 × cS) ⊕ ((Int32 × cS) ⊕ (Int64 × cS))) :=
  if x4 ≤ 0 then
    j_X12_nets_116 x1 x2 x3 x4 x5 y0 s
  else
    if (40 : Int32) ≤ x5 then
      j_X12_nets_116 x1 x2 x3 x4 x5 y0 s
    else
      if inb ((((41 : Int32) * x4) + x5) + (1 : Int32)) 205 then
      j_X12_nets_116 x1 x2 x3 x4 x5 (lG s 241 ((((41 : Int32) * x4) + x5) + (1 : Int32)).toNatClampNeg) s
      else none
set_option maxRecDepth 20000 in
set_option maxHeartbeats 4000000 in
theorem ok_j_X12_nets_85 {g : pG} {l : Launch} {F : pF} {x1 : Int32} {x2 : Int32} {x3 : Int32} {x4 : Int32} {x5 : Int32} {y0 : Int64} {s : cS} {x : ((Int32 × cS) ⊕ ((Int32 × cS) ⊕ (Int64 × cS)))} (h : j_X12_nets_85 x1 x2 x3 x4 x5 y0 s = some x) (hx : (KL (fun (v : Int32 × cS) => PW g l (pRoom 3 0 0) M_X12_nets F 68 [(0, .ref 193), (1, .int x1), (2, .int x2), (3, .int x3), (4, .int x4), (5, .int v.1)] [] (tS v.2) 0 0) (KL (fun (v : Int32 × cS) => PW g l (pRoom 3 0 0) M_X12_nets F 58 [(0, .ref 193), (1, .int x1), (2, .int x2), (3, .int x3), (4, .int v.1)] [] (tS v.2) 0 0) (fun q => F = pE g (some (.long q.1)) (tS q.2) 0 0))) x) : PW g l (pRoom 3 0 0) M_X12_nets F 85 [(0, .ref 193), (1, .int x1), (2, .int x2), (3, .int x3), (4, .int x4), (5, .int x5)] [.long y0] (tS s) 0 0 := by
  unfold j_X12_nets_85 at h
  refine PW.lstore dX12_nets_85 (Nat.le_of_ble_eq_true rfl) rfl ?_
  refine PW.iload 5 dX12_nets_87 rfl ?_
  refine PW.if_le (tgt := 116) dX12_nets_89 (by decide) (fun c24 => ?_) (fun c24 => ?_)
  · replace h := ifp h c24
    exact PW.pick [1, 2, 3, 4, 5, 6, 0] rfl (ok_j_X12_nets_116 h hx)
  · replace h := ifn h c24
    refine PW.iload 6 dX12_nets_92 rfl ?_
    refine PW.bipush (v := 40) dX12_nets_94 (by decide) ?_
    refine PW.icmp_ge (tgt := 116) dX12_nets_96 (by decide) (fun c34 => ?_) (fun c34 => ?_)
    · replace h := ifp h c34
      exact PW.pick [1, 2, 3, 4, 5, 6, 0] rfl (ok_j_X12_nets_116 h hx)
    · replace h := ifn h c34
      refine PW.aload_n 1 0 dX12_nets_99 rfl rfl rfl ?_
      refine CW.getr dX12_nets_100 fL_X12_158 LA_193 (Or.inr ⟨_, rfl⟩) rfl ?_
      refine PW.bipush (v := 41) dX12_nets_103 (by decide) ?_
      refine PW.iload 5 dX12_nets_105 rfl ?_
      refine PW.imul dX12_nets_107 ?_
      refine PW.iload 6 dX12_nets_108 rfl ?_
      refine PW.iadd dX12_nets_110 ?_
      refine PW.iconst (v := 1) dX12_nets_111 (by decide) ?_
      refine PW.iadd dX12_nets_112 ?_
      by_cases c35 : inb ((((41 : Int32) * x4) + x5) + (1 : Int32)) 205
      rotate_left
      · have h := ifn h c35; cases h
      replace h := ifp h c35
      refine CW.lald dX12_nets_113 LA_241 c35 ?_
      refine PW.lstore dX12_nets_114 (Nat.le_of_ble_eq_true rfl) rfl ?_
      exact PW.pick [1, 2, 3, 4, 5, 6, 0] rfl (ok_j_X12_nets_116 h hx)
def b_X12_nets_68 (x1 : Int32) (x2 : Int32) (x3 : Int32) (x4 : Int32) (x5 : Int32) (s : cS) : Option ((Int32 × cS) ⊕ ((Int32 × cS) ⊕ (Int64 × cS))) :=
  if x5 < 0 then
    oR (
      some (.inl ((x4 + (1 : Int32)), s)))
  else
    if x4 = 0 then
      j_X12_nets_85 x1 x2 x3 x4 x5 (0 : Int64) s
    else
      j_X12_nets_85 x1 x2 x3 x4 x5 (-1 : Int64) s
set_option maxRecDepth 20000 in
set_option maxHeartbeats 4000000 in
theorem ok_b_X12_nets_68 {g : pG} {l : Launch} {F : pF} {x1 : Int32} {x2 : Int32} {x3 : Int32} {x4 : Int32} {x5 : Int32} {s : cS} {x : ((Int32 × cS) ⊕ ((Int32 × cS) ⊕ (Int64 × cS)))} (h : b_X12_nets_68 x1 x2 x3 x4 x5 s = some x) (hx : (KL (fun (v : Int32 × cS) => PW g l (pRoom 3 0 0) M_X12_nets F 68 [(0, .ref 193), (1, .int x1), (2, .int x2), (3, .int x3), (4, .int x4), (5, .int v.1)] [] (tS v.2) 0 0) (KL (fun (v : Int32 × cS) => PW g l (pRoom 3 0 0) M_X12_nets F 58 [(0, .ref 193), (1, .int x1), (2, .int x2), (3, .int x3), (4, .int v.1)] [] (tS v.2) 0 0) (fun q => F = pE g (some (.long q.1)) (tS q.2) 0 0))) x) : PW g l (pRoom 3 0 0) M_X12_nets F 68 [(0, .ref 193), (1, .int x1), (2, .int x2), (3, .int x3), (4, .int x4), (5, .int x5)] [] (tS s) 0 0 := by
  unfold b_X12_nets_68 at h
  refine PW.iload 5 dX12_nets_68 rfl ?_
  refine PW.if_lt (tgt := 227) dX12_nets_70 (by decide) (fun c22 => ?_) (fun c22 => ?_)
  · replace h := ifp h c22
    obtain ⟨xo, hy, hxo⟩ := oRb h
    clear h
    subst hxo
    replace hx := KLr hx
    have h := hy
    clear hy
    refine PW.iinc (v := (x4 + (1 : Int32))) 4 dX12_nets_227 rfl (by first | rfl | decide) (Nat.le_of_ble_eq_true rfl) rfl ?_
    refine PW.goto (tgt := 58) dX12_nets_230 (by decide) ?_
    cases h
    exact PW.pick [1, 2, 3, 4, 0] rfl hx
  · replace h := ifn h c22
    refine PW.iload 4 dX12_nets_73 rfl ?_
    refine PW.if_ne (tgt := 82) dX12_nets_75 (by decide) (fun c23 => ?_) (fun c23 => ?_)
    · replace h := ifn h c23
      refine PW.ldc2_w dX12_nets_82 kL_X12_388 ?_
      exact PW.pick [0, 1, 2, 3, 4, 5] rfl (ok_j_X12_nets_85 h hx)
    · replace h := ifp h c23
      refine PW.lconst (v := 0) dX12_nets_78 (by decide) ?_
      refine PW.goto (tgt := 85) dX12_nets_79 (by decide) ?_
      exact PW.pick [0, 1, 2, 3, 4, 5] rfl (ok_j_X12_nets_85 h hx)
def w_X12_nets_68 (N : Nat) (x1 : Int32) (x2 : Int32) (x3 : Int32) (x4 : Int32) (x5 : Int32) (s : cS) : Option ((Int32 × cS) ⊕ (Int64 × cS)) := itr (fun (v : Int32 × cS) => b_X12_nets_68 x1 x2 x3 x4 v.1 v.2) N (x5, s)
theorem ok_w_X12_nets_68 {g : pG} {l : Launch} {F : pF} {N : Nat} {x1 : Int32} {x2 : Int32} {x3 : Int32} {x4 : Int32} {x5 : Int32} {s : cS} {x : ((Int32 × cS) ⊕ (Int64 × cS))} (h : w_X12_nets_68 N x1 x2 x3 x4 x5 s = some x) (hx : (KL (fun (v : Int32 × cS) => PW g l (pRoom 3 0 0) M_X12_nets F 58 [(0, .ref 193), (1, .int x1), (2, .int x2), (3, .int x3), (4, .int v.1)] [] (tS v.2) 0 0) (fun q => F = pE g (some (.long q.1)) (tS q.2) 0 0)) x) : PW g l (pRoom 3 0 0) M_X12_nets F 68 [(0, .ref 193), (1, .int x1), (2, .int x2), (3, .int x3), (4, .int x4), (5, .int x5)] [] (tS s) 0 0 :=
  okIter (P := (fun (v : Int32 × cS) => PW g l (pRoom 3 0 0) M_X12_nets F 68 [(0, .ref 193), (1, .int x1), (2, .int x2), (3, .int x3), (4, .int x4), (5, .int v.1)] [] (tS v.2) 0 0)) (K := (KL (fun (v : Int32 × cS) => PW g l (pRoom 3 0 0) M_X12_nets F 58 [(0, .ref 193), (1, .int x1), (2, .int x2), (3, .int x3), (4, .int v.1)] [] (tS v.2) 0 0) (fun q => F = pE g (some (.long q.1)) (tS q.2) 0 0))) (fun v y hB hy => ok_b_X12_nets_68 hB hy) N (x5, s) x h hx
def b_X12_nets_58 (N : Nat) (x1 : Int32) (x2 : Int32) (x3 : Int32) (x4 : Int32) (s : cS) : Option ((Int32 × cS) ⊕ (Int64 × cS)) :=
  if x1 < x4 then
    oR (
      if x3 = (-1 : Int32) then
        if inb ((41 : Int32) * x1) 205 then
        some (((lG s 241 ((41 : Int32) * x1).toNatClampNeg), s))
        else none
      else
        w_X12_nets_254 N x1 x2 x3 (0 : Int32) x1 s)
  else
    w_X12_nets_68 N x1 x2 x3 x4 (40 : Int32) s
set_option maxRecDepth 20000 in
set_option maxHeartbeats 4000000 in
theorem ok_b_X12_nets_58 {g : pG} {l : Launch} {F : pF} {N : Nat} {x1 : Int32} {x2 : Int32} {x3 : Int32} {x4 : Int32} {s : cS} {x : ((Int32 × cS) ⊕ (Int64 × cS))} (h : b_X12_nets_58 N x1 x2 x3 x4 s = some x) (hx : (KL (fun (v : Int32 × cS) => PW g l (pRoom 3 0 0) M_X12_nets F 58 [(0, .ref 193), (1, .int x1), (2, .int x2), (3, .int x3), (4, .int v.1)] [] (tS v.2) 0 0) (fun q => F = pE g (some (.long q.1)) (tS q.2) 0 0)) x) : PW g l (pRoom 3 0 0) M_X12_nets F 58 [(0, .ref 193), (1, .int x1), (2, .int x2), (3, .int x3), (4, .int x4)] [] (tS s) 0 0 := by
  unfold b_X12_nets_58 at h
  refine PW.iload 4 dX12_nets_58 rfl ?_
  refine PW.iload_n 1 1 dX12_nets_60 rfl rfl ?_
  refine PW.icmp_gt (tgt := 233) dX12_nets_61 (by decide) (fun c11 => ?_) (fun c11 => ?_)
  · replace h := ifp h c11
    obtain ⟨xo, hy, hxo⟩ := oRb h
    clear h
    subst hxo
    replace hx := KLr hx
    have h := hy
    clear hy
    refine PW.iload_n 3 3 dX12_nets_233 rfl rfl ?_
    refine PW.iconst (v := (-1)) dX12_nets_234 (by decide) ?_
    refine PW.icmp_ne (tgt := 248) dX12_nets_235 (by decide) (fun c12 => ?_) (fun c12 => ?_)
    · replace h := ifn h c12
      refine PW.iconst (v := 0) dX12_nets_248 (by decide) ?_
      refine PW.istore dX12_nets_249 (Nat.le_of_ble_eq_true rfl) rfl ?_
      refine PW.iload_n 2 1 dX12_nets_251 rfl rfl ?_
      refine PW.istore dX12_nets_252 (Nat.le_of_ble_eq_true rfl) rfl ?_
      exact PW.pick [2, 3, 4, 5, 1, 0] rfl (ok_w_X12_nets_254 h hx)
    · replace h := ifp h c12
      refine PW.aload_n 0 0 dX12_nets_238 rfl rfl rfl ?_
      refine CW.getr dX12_nets_239 fL_X12_158 LA_193 (Or.inr ⟨_, rfl⟩) rfl ?_
      refine PW.bipush (v := 41) dX12_nets_242 (by decide) ?_
      refine PW.iload_n 1 1 dX12_nets_244 rfl rfl ?_
      refine PW.imul dX12_nets_245 ?_
      by_cases c21 : inb ((41 : Int32) * x1) 205
      rotate_left
      · have h := ifn h c21; cases h
      replace h := ifp h c21
      refine CW.lald dX12_nets_246 LA_241 c21 ?_
      cases h
      subst hx
      exact PW.lret dX12_nets_247 rfl (Nat.le_refl 0) (Nat.le_refl 0)
  · replace h := ifn h c11
    refine PW.bipush (v := 40) dX12_nets_64 (by decide) ?_
    refine PW.istore dX12_nets_66 (Nat.le_of_ble_eq_true rfl) rfl ?_
    exact PW.pick [1, 2, 3, 4, 5, 0] rfl (ok_w_X12_nets_68 h hx)
def w_X12_nets_58 (N : Nat) (x1 : Int32) (x2 : Int32) (x3 : Int32) (x4 : Int32) (s : cS) : Option (Int64 × cS) := itr (fun (v : Int32 × cS) => b_X12_nets_58 N x1 x2 x3 v.1 v.2) N (x4, s)
theorem ok_w_X12_nets_58 {g : pG} {l : Launch} {F : pF} {N : Nat} {x1 : Int32} {x2 : Int32} {x3 : Int32} {x4 : Int32} {s : cS} {x : (Int64 × cS)} (h : w_X12_nets_58 N x1 x2 x3 x4 s = some x) (hx : (fun q => F = pE g (some (.long q.1)) (tS q.2) 0 0) x) : PW g l (pRoom 3 0 0) M_X12_nets F 58 [(0, .ref 193), (1, .int x1), (2, .int x2), (3, .int x3), (4, .int x4)] [] (tS s) 0 0 :=
  okIter (P := (fun (v : Int32 × cS) => PW g l (pRoom 3 0 0) M_X12_nets F 58 [(0, .ref 193), (1, .int x1), (2, .int x2), (3, .int x3), (4, .int v.1)] [] (tS v.2) 0 0)) (K := (fun q => F = pE g (some (.long q.1)) (tS q.2) 0 0)) (fun v y hB hy => ok_b_X12_nets_58 hB hy) N (x4, s) x h hx
def f_X12_nets (N : Nat) (a0 : Int32) (a1 : Int32) (a2 : Int32) (s : cS) : Option (Int64 × cS) :=
  if (lIn a0.toInt64 (1 : Int64) (4 : Int64)) = 0 then
    some (((-1 : Int64), s))
  else
    if (lIn a1.toInt64 (1 : Int64) (10 : Int64)) = 0 then
      some (((-1 : Int64), s))
    else
      if (40 : Int32) < (a0 * a1) then
        some (((-1 : Int64), s))
      else
        if (lIn a2.toInt64 (-1 : Int64) ((a0 - (1 : Int32)).toInt64)) = 0 then
          some (((-1 : Int64), s))
        else
          ob (f_X12_worths N s) fun r8 s9 =>
          w_X12_nets_58 N a0 a1 a2 (0 : Int32) s9
set_option maxRecDepth 20000 in
set_option maxHeartbeats 4000000 in
theorem p_X12_nets {g : pG} {l : Launch} {N : Nat} {a0 : Int32} {a1 : Int32} {a2 : Int32} {s : cS} {q : Int64 × cS} (h : f_X12_nets N a0 a1 a2 s = some q) : PM g l 3 M_X12_nets [.ref 193, .int a0, .int a1, .int a2] (tS s) (some (.long q.1)) (tS q.2) 0 0 := by
  refine PM.of (by decide +kernel) (Nat.le_of_ble_eq_true rfl) ?_
  show PW g l (pRoom 3 0 0) M_X12_nets _ 0 [(0, .ref 193), (1, .int a0), (2, .int a1), (3, .int a2)] [] (tS s) 0 0
  unfold f_X12_nets at h
  generalize hF : pE g (some (.long q.1)) (tS q.2) 0 0 = F
  have hx := hF.symm
  refine PW.iload_n 1 1 dX12_nets_0 rfl rfl ?_
  refine PW.i2l dX12_nets_1 ?_
  refine PW.lconst (v := 1) dX12_nets_2 (by decide) ?_
  refine PW.ldc2_w dX12_nets_3 kL_X12_485 ?_
  refine CW.callSi (st := []) [.long a0.toInt64, .long (1 : Int64), .long (4 : Int64)] dX12_nets_6 (ps_isIn rfl) MS_X12_isIn mL_X12_164 rfl rfl (Nat.le_of_ble_eq_true rfl) (by first | decide | omega) ?_
  refine PW.if_eq (tgt := 47) dX12_nets_9 (by decide) (fun c2 => ?_) (fun c2 => ?_)
  · replace h := ifp h c2
    refine PW.ldc2_w dX12_nets_47 kL_X12_388 ?_
    cases h
    subst hx
    exact PW.lret dX12_nets_50 rfl (Nat.le_refl 0) (Nat.le_refl 0)
  · replace h := ifn h c2
    refine PW.iload_n 2 2 dX12_nets_12 rfl rfl ?_
    refine PW.i2l dX12_nets_13 ?_
    refine PW.lconst (v := 1) dX12_nets_14 (by decide) ?_
    refine PW.ldc2_w dX12_nets_15 kL_X12_457 ?_
    refine CW.callSi (st := []) [.long a1.toInt64, .long (1 : Int64), .long (10 : Int64)] dX12_nets_18 (ps_isIn rfl) MS_X12_isIn mL_X12_164 rfl rfl (Nat.le_of_ble_eq_true rfl) (by first | decide | omega) ?_
    refine PW.if_eq (tgt := 47) dX12_nets_21 (by decide) (fun c4 => ?_) (fun c4 => ?_)
    · replace h := ifp h c4
      refine PW.ldc2_w dX12_nets_47 kL_X12_388 ?_
      cases h
      subst hx
      exact PW.lret dX12_nets_50 rfl (Nat.le_refl 0) (Nat.le_refl 0)
    · replace h := ifn h c4
      refine PW.iload_n 1 1 dX12_nets_24 rfl rfl ?_
      refine PW.iload_n 2 2 dX12_nets_25 rfl rfl ?_
      refine PW.imul dX12_nets_26 ?_
      refine PW.bipush (v := 40) dX12_nets_27 (by decide) ?_
      refine PW.icmp_gt (tgt := 47) dX12_nets_29 (by decide) (fun c5 => ?_) (fun c5 => ?_)
      · replace h := ifp h c5
        refine PW.ldc2_w dX12_nets_47 kL_X12_388 ?_
        cases h
        subst hx
        exact PW.lret dX12_nets_50 rfl (Nat.le_refl 0) (Nat.le_refl 0)
      · replace h := ifn h c5
        refine PW.iload_n 3 3 dX12_nets_32 rfl rfl ?_
        refine PW.i2l dX12_nets_33 ?_
        refine PW.ldc2_w dX12_nets_34 kL_X12_388 ?_
        refine PW.iload_n 1 1 dX12_nets_37 rfl rfl ?_
        refine PW.iconst (v := 1) dX12_nets_38 (by decide) ?_
        refine PW.isub dX12_nets_39 ?_
        refine PW.i2l dX12_nets_40 ?_
        refine CW.callSi (st := []) [.long a2.toInt64, .long (-1 : Int64), .long (a0 - (1 : Int32)).toInt64] dX12_nets_41 (ps_isIn rfl) MS_X12_isIn mL_X12_164 rfl rfl (Nat.le_of_ble_eq_true rfl) (by first | decide | omega) ?_
        refine PW.if_ne (tgt := 51) dX12_nets_44 (by decide) (fun c7 => ?_) (fun c7 => ?_)
        · replace h := ifn h c7
          refine PW.aload_n 0 0 dX12_nets_51 rfl rfl rfl ?_
          obtain ⟨r8, s9, q10, h⟩ := obnd h
          refine CW.callVv (ci := 12) (st := []) [] dX12_nets_52 (p_X12_worths q10) MV_X12_worths mL_X12_487 (by decide) rfl LA_193 rfl rfl (Nat.le_of_ble_eq_true rfl) (by first | decide | omega) ?_
          refine PW.iconst (v := 0) dX12_nets_55 (by decide) ?_
          refine PW.istore dX12_nets_56 (Nat.le_of_ble_eq_true rfl) rfl ?_
          exact PW.pick [1, 2, 3, 4, 0] rfl (ok_w_X12_nets_58 h hx)
        · replace h := ifp h c7
          refine PW.ldc2_w dX12_nets_47 kL_X12_388 ?_
          cases h
          subst hx
          exact PW.lret dX12_nets_50 rfl (Nat.le_refl 0) (Nat.le_refl 0)
/-! X12_numberAt -/
def b_X12_numberAt_4 (x1 : Int32) (x2 : Int32) (x3 : Int32) (s : cS) : Option (((Int32 × Int32) × cS) ⊕ (Int32 × cS)) :=
  if (4 : Int32) ≤ x3 then
    oR (
      some ((x2, s)))
  else
    if inb (((4 : Int32) * x1) + x3) 200 then
    some (.inl ((((x2 <<< ((8 : Int32) &&& 31)) ||| ((iG s 194 (((4 : Int32) * x1) + x3).toNatClampNeg) &&& (255 : Int32))), (x3 + (1 : Int32))), s))
    else none
set_option maxRecDepth 20000 in
set_option maxHeartbeats 4000000 in
theorem ok_b_X12_numberAt_4 {g : pG} {l : Launch} {F : pF} {x1 : Int32} {x2 : Int32} {x3 : Int32} {s : cS} {x : (((Int32 × Int32) × cS) ⊕ (Int32 × cS))} (h : b_X12_numberAt_4 x1 x2 x3 s = some x) (hx : (KL (fun (v : (Int32 × Int32) × cS) => PW g l (pRoom 1 0 0) M_X12_numberAt F 4 [(0, .ref 193), (1, .int x1), (2, .int v.1.1), (3, .int v.1.2)] [] (tS v.2) 0 0) (fun q => F = pE g (some (.int q.1)) (tS q.2) 0 0)) x) : PW g l (pRoom 1 0 0) M_X12_numberAt F 4 [(0, .ref 193), (1, .int x1), (2, .int x2), (3, .int x3)] [] (tS s) 0 0 := by
  unfold b_X12_numberAt_4 at h
  refine PW.iload_n 3 3 dX12_numberAt_4 rfl rfl ?_
  refine PW.iconst (v := 4) dX12_numberAt_5 (by decide) ?_
  refine PW.icmp_ge (tgt := 35) dX12_numberAt_6 (by decide) (fun c1 => ?_) (fun c1 => ?_)
  · replace h := ifp h c1
    obtain ⟨xo, hy, hxo⟩ := oRb h
    clear h
    subst hxo
    replace hx := KLr hx
    have h := hy
    clear hy
    refine PW.iload_n 2 2 dX12_numberAt_35 rfl rfl ?_
    cases h
    subst hx
    exact PW.iret (v := x2) dX12_numberAt_36 rfl rfl (Nat.le_refl 0) (Nat.le_refl 0)
  · replace h := ifn h c1
    refine PW.iload_n 2 2 dX12_numberAt_9 rfl rfl ?_
    refine PW.bipush (v := 8) dX12_numberAt_10 (by decide) ?_
    refine PW.ishl dX12_numberAt_12 ?_
    refine PW.aload_n 0 0 dX12_numberAt_13 rfl rfl rfl ?_
    refine CW.getr dX12_numberAt_14 fL_X12_7 LA_193 (Or.inr ⟨_, rfl⟩) rfl ?_
    refine PW.iconst (v := 4) dX12_numberAt_17 (by decide) ?_
    refine PW.iload_n 1 1 dX12_numberAt_18 rfl rfl ?_
    refine PW.imul dX12_numberAt_19 ?_
    refine PW.iload_n 3 3 dX12_numberAt_20 rfl rfl ?_
    refine PW.iadd dX12_numberAt_21 ?_
    by_cases c2 : inb (((4 : Int32) * x1) + x3) 200
    rotate_left
    · have h := ifn h c2; cases h
    replace h := ifp h c2
    refine CW.bald dX12_numberAt_22 LA_194 c2 ?_
    refine PW.sipush (v := 255) dX12_numberAt_23 (by decide) ?_
    refine PW.iand dX12_numberAt_26 ?_
    refine PW.ior dX12_numberAt_27 ?_
    refine PW.istore_n dX12_numberAt_28 rfl (Nat.le_of_ble_eq_true rfl) rfl ?_
    refine PW.iinc (v := (x3 + (1 : Int32))) 3 dX12_numberAt_29 rfl (by first | rfl | decide) (Nat.le_of_ble_eq_true rfl) rfl ?_
    refine PW.goto (tgt := 4) dX12_numberAt_32 (by decide) ?_
    cases h
    exact PW.pick [2, 3, 1, 0] rfl hx
def w_X12_numberAt_4 (N : Nat) (x1 : Int32) (x2 : Int32) (x3 : Int32) (s : cS) : Option (Int32 × cS) := itr (fun (v : (Int32 × Int32) × cS) => b_X12_numberAt_4 x1 v.1.1 v.1.2 v.2) N ((x2, x3), s)
theorem ok_w_X12_numberAt_4 {g : pG} {l : Launch} {F : pF} {N : Nat} {x1 : Int32} {x2 : Int32} {x3 : Int32} {s : cS} {x : (Int32 × cS)} (h : w_X12_numberAt_4 N x1 x2 x3 s = some x) (hx : (fun q => F = pE g (some (.int q.1)) (tS q.2) 0 0) x) : PW g l (pRoom 1 0 0) M_X12_numberAt F 4 [(0, .ref 193), (1, .int x1), (2, .int x2), (3, .int x3)] [] (tS s) 0 0 :=
  okIter (P := (fun (v : (Int32 × Int32) × cS) => PW g l (pRoom 1 0 0) M_X12_numberAt F 4 [(0, .ref 193), (1, .int x1), (2, .int v.1.1), (3, .int v.1.2)] [] (tS v.2) 0 0)) (K := (fun q => F = pE g (some (.int q.1)) (tS q.2) 0 0)) (fun v y hB hy => ok_b_X12_numberAt_4 hB hy) N ((x2, x3), s) x h hx
def f_X12_numberAt (N : Nat) (a0 : Int32) (s : cS) : Option (Int32 × cS) :=
  w_X12_numberAt_4 N a0 (0 : Int32) (0 : Int32) s
set_option maxRecDepth 20000 in
set_option maxHeartbeats 4000000 in
theorem p_X12_numberAt {g : pG} {l : Launch} {N : Nat} {a0 : Int32} {s : cS} {q : Int32 × cS} (h : f_X12_numberAt N a0 s = some q) : PM g l 1 M_X12_numberAt [.ref 193, .int a0] (tS s) (some (.int q.1)) (tS q.2) 0 0 := by
  refine PM.of (by decide +kernel) (Nat.le_of_ble_eq_true rfl) ?_
  show PW g l (pRoom 1 0 0) M_X12_numberAt _ 0 [(0, .ref 193), (1, .int a0)] [] (tS s) 0 0
  unfold f_X12_numberAt at h
  generalize hF : pE g (some (.int q.1)) (tS q.2) 0 0 = F
  have hx := hF.symm
  refine PW.iconst (v := 0) dX12_numberAt_0 (by decide) ?_
  refine PW.istore_n dX12_numberAt_1 rfl (Nat.le_of_ble_eq_true rfl) rfl ?_
  refine PW.iconst (v := 0) dX12_numberAt_2 (by decide) ?_
  refine PW.istore_n dX12_numberAt_3 rfl (Nat.le_of_ble_eq_true rfl) rfl ?_
  exact PW.pick [2, 3, 1, 0] rfl (ok_w_X12_numberAt_4 h hx)
/-! X12_check -/
def b_X12_check_33 (N : Nat) (x1 : Int32) (x2 : Int32) (x3 : Int32) (s : cS) : Option ((Int32 × cS) ⊕ (Int32 × cS)) :=
  if (iG s 193 2) ≤ x3 then
    oR (
      if x2 = (iG s 193 2) then
        some (((-1 : Int32), s))
      else
        some ((((3 : Int32) * (iG s 193 2)), s)))
  else
    if x3 = x2 then
      oR (
        some ((((3 : Int32) * x2), s)))
    else
      ob (f_X12_numberAt N ((3 : Int32) * x3) s) fun r9 s10 =>
      if r9 = x3 then
        ob (f_X12_numberAt N (((3 : Int32) * x3) + (1 : Int32)) s10) fun r13 s14 =>
        if inb (((8 : Int32) * x1) + x3) 80 then
        if r13 = (iG s14 231 (((8 : Int32) * x1) + x3).toNatClampNeg) then
          ob (f_X12_numberAt N (((3 : Int32) * x3) + (2 : Int32)) s14) fun r18 s19 =>
          if r18 = (iG s19 232 (((8 : Int32) * x1) + x3).toNatClampNeg) then
            some (.inl ((x3 + (1 : Int32)), s19))
          else
            oR (
              some (((((3 : Int32) * x3) + (2 : Int32)), s19)))
        else
          oR (
            some (((((3 : Int32) * x3) + (1 : Int32)), s14)))
        else none
      else
        oR (
          some ((((3 : Int32) * x3), s10)))
set_option maxRecDepth 20000 in
set_option maxHeartbeats 4000000 in
theorem ok_b_X12_check_33 {g : pG} {l : Launch} {F : pF} {N : Nat} {x1 : Int32} {x2 : Int32} {x3 : Int32} {s : cS} {x : ((Int32 × cS) ⊕ (Int32 × cS))} (h : b_X12_check_33 N x1 x2 x3 s = some x) (hx : (KL (fun (v : Int32 × cS) => PW g l (pRoom 3 0 0) M_X12_check F 33 [(0, .ref 193), (1, .int x1), (2, .int x2), (3, .int v.1)] [] (tS v.2) 0 0) (fun q => F = pE g (some (.int q.1)) (tS q.2) 0 0)) x) : PW g l (pRoom 3 0 0) M_X12_check F 33 [(0, .ref 193), (1, .int x1), (2, .int x2), (3, .int x3)] [] (tS s) 0 0 := by
  unfold b_X12_check_33 at h
  refine PW.iload_n 3 3 dX12_check_33 rfl rfl ?_
  refine PW.aload_n 0 0 dX12_check_34 rfl rfl rfl ?_
  refine CW.geti dX12_check_35 fL_X12_161 LA_193 (Or.inl rfl) ?_
  refine PW.icmp_ge (tgt := 129) dX12_check_38 (by decide) (fun c6 => ?_) (fun c6 => ?_)
  · replace h := ifp h c6
    obtain ⟨xo, hy, hxo⟩ := oRb h
    clear h
    subst hxo
    replace hx := KLr hx
    have h := hy
    clear hy
    refine PW.iload_n 2 2 dX12_check_129 rfl rfl ?_
    refine PW.aload_n 0 0 dX12_check_130 rfl rfl rfl ?_
    refine CW.geti dX12_check_131 fL_X12_161 LA_193 (Or.inl rfl) ?_
    refine PW.icmp_ne (tgt := 141) dX12_check_134 (by decide) (fun c7 => ?_) (fun c7 => ?_)
    · replace h := ifn h c7
      refine PW.iconst (v := 3) dX12_check_141 (by decide) ?_
      refine PW.aload_n 0 0 dX12_check_142 rfl rfl rfl ?_
      refine CW.geti dX12_check_143 fL_X12_161 LA_193 (Or.inl rfl) ?_
      refine PW.imul dX12_check_146 ?_
      cases h
      subst hx
      exact PW.iret (v := ((3 : Int32) * (iG s 193 2))) dX12_check_147 rfl rfl (Nat.le_refl 0) (Nat.le_refl 0)
    · replace h := ifp h c7
      refine PW.iconst (v := (-1)) dX12_check_137 (by decide) ?_
      refine PW.goto (tgt := 147) dX12_check_138 (by decide) ?_
      cases h
      subst hx
      exact PW.iret (v := (-1 : Int32)) dX12_check_147 rfl rfl (Nat.le_refl 0) (Nat.le_refl 0)
  · replace h := ifn h c6
    refine PW.iload_n 3 3 dX12_check_41 rfl rfl ?_
    refine PW.iload_n 2 2 dX12_check_42 rfl rfl ?_
    refine PW.icmp_ne (tgt := 50) dX12_check_43 (by decide) (fun c8 => ?_) (fun c8 => ?_)
    · replace h := ifn h c8
      refine PW.aload_n 0 0 dX12_check_50 rfl rfl rfl ?_
      refine PW.iconst (v := 3) dX12_check_51 (by decide) ?_
      refine PW.iload_n 3 3 dX12_check_52 rfl rfl ?_
      refine PW.imul dX12_check_53 ?_
      obtain ⟨r9, s10, q11, h⟩ := obnd h
      refine CW.callVi (ci := 12) (st := []) [.int ((3 : Int32) * x3)] dX12_check_54 (p_X12_numberAt q11) MV_X12_numberAt mL_X12_490 (by decide) rfl LA_193 rfl rfl (Nat.le_of_ble_eq_true rfl) (by first | decide | omega) ?_
      refine PW.iload_n 3 3 dX12_check_57 rfl rfl ?_
      refine PW.icmp_eq (tgt := 65) dX12_check_58 (by decide) (fun c12 => ?_) (fun c12 => ?_)
      · replace h := ifp h c12
        refine PW.aload_n 0 0 dX12_check_65 rfl rfl rfl ?_
        refine PW.iconst (v := 3) dX12_check_66 (by decide) ?_
        refine PW.iload_n 3 3 dX12_check_67 rfl rfl ?_
        refine PW.imul dX12_check_68 ?_
        refine PW.iconst (v := 1) dX12_check_69 (by decide) ?_
        refine PW.iadd dX12_check_70 ?_
        obtain ⟨r13, s14, q15, h⟩ := obnd h
        refine CW.callVi (ci := 12) (st := []) [.int (((3 : Int32) * x3) + (1 : Int32))] dX12_check_71 (p_X12_numberAt q15) MV_X12_numberAt mL_X12_490 (by decide) rfl LA_193 rfl rfl (Nat.le_of_ble_eq_true rfl) (by first | decide | omega) ?_
        refine PW.aload_n 0 0 dX12_check_74 rfl rfl rfl ?_
        refine CW.getr dX12_check_75 fL_X12_123 LA_193 (Or.inr ⟨_, rfl⟩) rfl ?_
        refine PW.bipush (v := 8) dX12_check_78 (by decide) ?_
        refine PW.iload_n 1 1 dX12_check_80 rfl rfl ?_
        refine PW.imul dX12_check_81 ?_
        refine PW.iload_n 3 3 dX12_check_82 rfl rfl ?_
        refine PW.iadd dX12_check_83 ?_
        by_cases c16 : inb (((8 : Int32) * x1) + x3) 80
        rotate_left
        · have h := ifn h c16; cases h
        replace h := ifp h c16
        refine CW.iald dX12_check_84 LA_231 c16 ?_
        refine PW.icmp_eq (tgt := 94) dX12_check_85 (by decide) (fun c17 => ?_) (fun c17 => ?_)
        · replace h := ifp h c17
          refine PW.aload_n 0 0 dX12_check_94 rfl rfl rfl ?_
          refine PW.iconst (v := 3) dX12_check_95 (by decide) ?_
          refine PW.iload_n 3 3 dX12_check_96 rfl rfl ?_
          refine PW.imul dX12_check_97 ?_
          refine PW.iconst (v := 2) dX12_check_98 (by decide) ?_
          refine PW.iadd dX12_check_99 ?_
          obtain ⟨r18, s19, q20, h⟩ := obnd h
          refine CW.callVi (ci := 12) (st := []) [.int (((3 : Int32) * x3) + (2 : Int32))] dX12_check_100 (p_X12_numberAt q20) MV_X12_numberAt mL_X12_490 (by decide) rfl LA_193 rfl rfl (Nat.le_of_ble_eq_true rfl) (by first | decide | omega) ?_
          refine PW.aload_n 0 0 dX12_check_103 rfl rfl rfl ?_
          refine CW.getr dX12_check_104 fL_X12_126 LA_193 (Or.inr ⟨_, rfl⟩) rfl ?_
          refine PW.bipush (v := 8) dX12_check_107 (by decide) ?_
          refine PW.iload_n 1 1 dX12_check_109 rfl rfl ?_
          refine PW.imul dX12_check_110 ?_
          refine PW.iload_n 3 3 dX12_check_111 rfl rfl ?_
          refine PW.iadd dX12_check_112 ?_
          refine CW.iald dX12_check_113 LA_232 c16 ?_
          refine PW.icmp_eq (tgt := 123) dX12_check_114 (by decide) (fun c21 => ?_) (fun c21 => ?_)
          · replace h := ifp h c21
            refine PW.iinc (v := (x3 + (1 : Int32))) 3 dX12_check_123 rfl (by first | rfl | decide) (Nat.le_of_ble_eq_true rfl) rfl ?_
            refine PW.goto (tgt := 33) dX12_check_126 (by decide) ?_
            cases h
            exact PW.pick [1, 2, 3, 0] rfl hx
          · replace h := ifn h c21
            obtain ⟨xo, hy, hxo⟩ := oRb h
            clear h
            subst hxo
            replace hx := KLr hx
            have h := hy
            clear hy
            refine PW.iconst (v := 3) dX12_check_117 (by decide) ?_
            refine PW.iload_n 3 3 dX12_check_118 rfl rfl ?_
            refine PW.imul dX12_check_119 ?_
            refine PW.iconst (v := 2) dX12_check_120 (by decide) ?_
            refine PW.iadd dX12_check_121 ?_
            cases h
            subst hx
            exact PW.iret (v := (((3 : Int32) * x3) + (2 : Int32))) dX12_check_122 rfl rfl (Nat.le_refl 0) (Nat.le_refl 0)
        · replace h := ifn h c17
          obtain ⟨xo, hy, hxo⟩ := oRb h
          clear h
          subst hxo
          replace hx := KLr hx
          have h := hy
          clear hy
          refine PW.iconst (v := 3) dX12_check_88 (by decide) ?_
          refine PW.iload_n 3 3 dX12_check_89 rfl rfl ?_
          refine PW.imul dX12_check_90 ?_
          refine PW.iconst (v := 1) dX12_check_91 (by decide) ?_
          refine PW.iadd dX12_check_92 ?_
          cases h
          subst hx
          exact PW.iret (v := (((3 : Int32) * x3) + (1 : Int32))) dX12_check_93 rfl rfl (Nat.le_refl 0) (Nat.le_refl 0)
      · replace h := ifn h c12
        obtain ⟨xo, hy, hxo⟩ := oRb h
        clear h
        subst hxo
        replace hx := KLr hx
        have h := hy
        clear hy
        refine PW.iconst (v := 3) dX12_check_61 (by decide) ?_
        refine PW.iload_n 3 3 dX12_check_62 rfl rfl ?_
        refine PW.imul dX12_check_63 ?_
        cases h
        subst hx
        exact PW.iret (v := ((3 : Int32) * x3)) dX12_check_64 rfl rfl (Nat.le_refl 0) (Nat.le_refl 0)
    · replace h := ifp h c8
      obtain ⟨xo, hy, hxo⟩ := oRb h
      clear h
      subst hxo
      replace hx := KLr hx
      have h := hy
      clear hy
      refine PW.iconst (v := 3) dX12_check_46 (by decide) ?_
      refine PW.iload_n 2 2 dX12_check_47 rfl rfl ?_
      refine PW.imul dX12_check_48 ?_
      cases h
      subst hx
      exact PW.iret (v := ((3 : Int32) * x2)) dX12_check_49 rfl rfl (Nat.le_refl 0) (Nat.le_refl 0)
def w_X12_check_33 (N : Nat) (x1 : Int32) (x2 : Int32) (x3 : Int32) (s : cS) : Option (Int32 × cS) := itr (fun (v : Int32 × cS) => b_X12_check_33 N x1 x2 v.1 v.2) N (x3, s)
theorem ok_w_X12_check_33 {g : pG} {l : Launch} {F : pF} {N : Nat} {x1 : Int32} {x2 : Int32} {x3 : Int32} {s : cS} {x : (Int32 × cS)} (h : w_X12_check_33 N x1 x2 x3 s = some x) (hx : (fun q => F = pE g (some (.int q.1)) (tS q.2) 0 0) x) : PW g l (pRoom 3 0 0) M_X12_check F 33 [(0, .ref 193), (1, .int x1), (2, .int x2), (3, .int x3)] [] (tS s) 0 0 :=
  okIter (P := (fun (v : Int32 × cS) => PW g l (pRoom 3 0 0) M_X12_check F 33 [(0, .ref 193), (1, .int x1), (2, .int x2), (3, .int v.1)] [] (tS v.2) 0 0)) (K := (fun q => F = pE g (some (.int q.1)) (tS q.2) 0 0)) (fun v y hB hy => ok_b_X12_check_33 hB hy) N (x3, s) x h hx
def f_X12_check (N : Nat) (a0 : Int32) (a1 : Int32) (s : cS) : Option (Int32 × cS) :=
  if (f_X12_isHull a0 s) = 0 then
    some (((-2 : Int32), s))
  else
    if a1 < 0 then
      some (((-2 : Int32), s))
    else
      if a1 ≤ ((iG s 193 1) / (12 : Int32)) then
        sb (iS s 193 1 (0 : Int32)) fun s5 =>
        w_X12_check_33 N a0 a1 (0 : Int32) s5
      else
        some (((-2 : Int32), s))
set_option maxRecDepth 20000 in
set_option maxHeartbeats 4000000 in
theorem p_X12_check {g : pG} {l : Launch} {N : Nat} {a0 : Int32} {a1 : Int32} {s : cS} {q : Int32 × cS} (h : f_X12_check N a0 a1 s = some q) : PM g l 3 M_X12_check [.ref 193, .int a0, .int a1] (tS s) (some (.int q.1)) (tS q.2) 0 0 := by
  refine PM.of (by decide +kernel) (Nat.le_of_ble_eq_true rfl) ?_
  show PW g l (pRoom 3 0 0) M_X12_check _ 0 [(0, .ref 193), (1, .int a0), (2, .int a1)] [] (tS s) 0 0
  unfold f_X12_check at h
  generalize hF : pE g (some (.int q.1)) (tS q.2) 0 0 = F
  have hx := hF.symm
  refine PW.aload_n 0 0 dX12_check_0 rfl rfl rfl ?_
  refine PW.iload_n 1 1 dX12_check_1 rfl rfl ?_
  refine CW.callVi (ci := 12) (st := []) [.int a0] dX12_check_2 (p_X12_isHull rfl) MV_X12_isHull mL_X12_435 (by decide) rfl LA_193 rfl rfl (Nat.le_of_ble_eq_true rfl) (by first | decide | omega) ?_
  refine PW.if_eq (tgt := 23) dX12_check_5 (by decide) (fun c2 => ?_) (fun c2 => ?_)
  · replace h := ifp h c2
    refine PW.bipush (v := (-2)) dX12_check_23 (by decide) ?_
    cases h
    subst hx
    exact PW.iret (v := (-2 : Int32)) dX12_check_25 rfl rfl (Nat.le_refl 0) (Nat.le_refl 0)
  · replace h := ifn h c2
    refine PW.iload_n 2 2 dX12_check_8 rfl rfl ?_
    refine PW.if_lt (tgt := 23) dX12_check_9 (by decide) (fun c3 => ?_) (fun c3 => ?_)
    · replace h := ifp h c3
      refine PW.bipush (v := (-2)) dX12_check_23 (by decide) ?_
      cases h
      subst hx
      exact PW.iret (v := (-2 : Int32)) dX12_check_25 rfl rfl (Nat.le_refl 0) (Nat.le_refl 0)
    · replace h := ifn h c3
      refine PW.iload_n 2 2 dX12_check_12 rfl rfl ?_
      refine PW.aload_n 0 0 dX12_check_13 rfl rfl rfl ?_
      refine CW.geti dX12_check_14 fL_X12_185 LA_193 (Or.inl rfl) ?_
      refine PW.bipush (v := 12) dX12_check_17 (by decide) ?_
      refine PW.idiv dX12_check_19 (by decide) ?_
      refine PW.icmp_le (tgt := 26) dX12_check_20 (by decide) (fun c4 => ?_) (fun c4 => ?_)
      · replace h := ifp h c4
        refine PW.aload_n 0 0 dX12_check_26 rfl rfl rfl ?_
        refine PW.iconst (v := 0) dX12_check_27 (by decide) ?_
        refine CW.puti dX12_check_28 fL_X12_185 rfl LA_193 rfl ?_
        obtain ⟨s5, es5, h⟩ := sbnd h
        refine PW.sbe es5 ?_
        clear es5
        refine PW.iconst (v := 0) dX12_check_31 (by decide) ?_
        refine PW.istore_n dX12_check_32 rfl (Nat.le_of_ble_eq_true rfl) rfl ?_
        exact PW.pick [1, 2, 3, 0] rfl (ok_w_X12_check_33 h hx)
      · replace h := ifn h c4
        refine PW.bipush (v := (-2)) dX12_check_23 (by decide) ?_
        cases h
        subst hx
        exact PW.iret (v := (-2 : Int32)) dX12_check_25 rfl rfl (Nat.le_refl 0) (Nat.le_refl 0)
/-! X12_count -/
def f_X12_count (a0 : Int32) (s : cS) : Option (Int32 × cS) :=
  if (f_X12_isCorner (a0 - (10 : Int32)) s) = 0 then
    if (f_X12_isProgram (a0 - (20 : Int32)) s) = 0 then
      if a0 = 0 then
        some (((iG s 193 2), s))
      else
      if a0 = 1 then
        some (((iG s 193 3), s))
      else
      if a0 = 2 then
        some (((iG s 193 4), s))
      else
      if a0 = 3 then
        some (((iG s 193 5), s))
      else
      if a0 = 4 then
        some (((iG s 193 6), s))
      else
      if a0 = 5 then
        some (((iG s 193 7), s))
      else
      if a0 = 6 then
        some (((iG s 193 15), s))
      else
      if a0 = 7 then
        some (((iG s 193 1), s))
      else
      some (((-1 : Int32), s))
    else
      if inb (a0 - (20 : Int32)) 16 then
      some (((iG s 220 (a0 - (20 : Int32)).toNatClampNeg), s))
      else none
  else
    if inb (a0 - (10 : Int32)) 8 then
    some (((iG s 199 (a0 - (10 : Int32)).toNatClampNeg), s))
    else none
set_option maxRecDepth 20000 in
set_option maxHeartbeats 4000000 in
theorem p_X12_count {g : pG} {l : Launch} {a0 : Int32} {s : cS} {q : Int32 × cS} (h : f_X12_count a0 s = some q) : PM g l 3 M_X12_count [.ref 193, .int a0] (tS s) (some (.int q.1)) (tS q.2) 0 0 := by
  refine PM.of (by decide +kernel) (Nat.le_of_ble_eq_true rfl) ?_
  show PW g l (pRoom 3 0 0) M_X12_count _ 0 [(0, .ref 193), (1, .int a0)] [] (tS s) 0 0
  unfold f_X12_count at h
  generalize hF : pE g (some (.int q.1)) (tS q.2) 0 0 = F
  have hx := hF.symm
  refine PW.aload_n 0 0 dX12_count_0 rfl rfl rfl ?_
  refine PW.iload_n 1 1 dX12_count_1 rfl rfl ?_
  refine PW.bipush (v := 10) dX12_count_2 (by decide) ?_
  refine PW.isub dX12_count_4 ?_
  refine CW.callVi (ci := 12) (st := []) [.int (a0 - (10 : Int32))] dX12_count_5 (p_X12_isCorner rfl) MV_X12_isCorner mL_X12_177 (by decide) rfl LA_193 rfl rfl (Nat.le_of_ble_eq_true rfl) (by first | decide | omega) ?_
  refine PW.if_eq (tgt := 21) dX12_count_8 (by decide) (fun c2 => ?_) (fun c2 => ?_)
  · replace h := ifp h c2
    refine PW.iload_n 1 1 dX12_count_21 rfl rfl ?_
    refine PW.bipush (v := 20) dX12_count_22 (by decide) ?_
    refine PW.isub dX12_count_24 ?_
    refine CW.callSi (st := []) [.int (a0 - (20 : Int32))] dX12_count_25 (p_X12_isProgram rfl) MS_X12_isProgram mL_X12_356 rfl rfl (Nat.le_of_ble_eq_true rfl) (by first | decide | omega) ?_
    refine PW.if_eq (tgt := 41) dX12_count_28 (by decide) (fun c4 => ?_) (fun c4 => ?_)
    · replace h := ifp h c4
      refine PW.iload_n 1 1 dX12_count_41 rfl rfl ?_
      by_cases c5 : a0 = 0
      · replace h := ifp h c5
        refine PW.tswI (off := 46) (tgt := 88) dX12_count_42 (by rw [c5]; decide) (by rw [c5]; decide) (by rw [c5]; first | rfl | decide) (by decide) ?_
        refine PW.aload_n 0 0 dX12_count_88 rfl rfl rfl ?_
        refine CW.geti dX12_count_89 fL_X12_161 LA_193 (Or.inl rfl) ?_
        cases h
        subst hx
        exact PW.iret (v := (iG s 193 2)) dX12_count_92 rfl rfl (Nat.le_refl 0) (Nat.le_refl 0)
      replace h := ifn h c5
      by_cases c6 : a0 = 1
      · replace h := ifp h c6
        refine PW.tswI (off := 51) (tgt := 93) dX12_count_42 (by rw [c6]; decide) (by rw [c6]; decide) (by rw [c6]; first | rfl | decide) (by decide) ?_
        refine PW.aload_n 0 0 dX12_count_93 rfl rfl rfl ?_
        refine CW.geti dX12_count_94 fL_X12_168 LA_193 (Or.inl rfl) ?_
        cases h
        subst hx
        exact PW.iret (v := (iG s 193 3)) dX12_count_97 rfl rfl (Nat.le_refl 0) (Nat.le_refl 0)
      replace h := ifn h c6
      by_cases c7 : a0 = 2
      · replace h := ifp h c7
        refine PW.tswI (off := 56) (tgt := 98) dX12_count_42 (by rw [c7]; decide) (by rw [c7]; decide) (by rw [c7]; first | rfl | decide) (by decide) ?_
        refine PW.aload_n 0 0 dX12_count_98 rfl rfl rfl ?_
        refine CW.geti dX12_count_99 fL_X12_427 LA_193 (Or.inl rfl) ?_
        cases h
        subst hx
        exact PW.iret (v := (iG s 193 4)) dX12_count_102 rfl rfl (Nat.le_refl 0) (Nat.le_refl 0)
      replace h := ifn h c7
      by_cases c8 : a0 = 3
      · replace h := ifp h c8
        refine PW.tswI (off := 61) (tgt := 103) dX12_count_42 (by rw [c8]; decide) (by rw [c8]; decide) (by rw [c8]; first | rfl | decide) (by decide) ?_
        refine PW.aload_n 0 0 dX12_count_103 rfl rfl rfl ?_
        refine CW.geti dX12_count_104 fL_X12_443 LA_193 (Or.inl rfl) ?_
        cases h
        subst hx
        exact PW.iret (v := (iG s 193 5)) dX12_count_107 rfl rfl (Nat.le_refl 0) (Nat.le_refl 0)
      replace h := ifn h c8
      by_cases c9 : a0 = 4
      · replace h := ifp h c9
        refine PW.tswI (off := 66) (tgt := 108) dX12_count_42 (by rw [c9]; decide) (by rw [c9]; decide) (by rw [c9]; first | rfl | decide) (by decide) ?_
        refine PW.aload_n 0 0 dX12_count_108 rfl rfl rfl ?_
        refine CW.geti dX12_count_109 fL_X12_446 LA_193 (Or.inl rfl) ?_
        cases h
        subst hx
        exact PW.iret (v := (iG s 193 6)) dX12_count_112 rfl rfl (Nat.le_refl 0) (Nat.le_refl 0)
      replace h := ifn h c9
      by_cases c10 : a0 = 5
      · replace h := ifp h c10
        refine PW.tswI (off := 71) (tgt := 113) dX12_count_42 (by rw [c10]; decide) (by rw [c10]; decide) (by rw [c10]; first | rfl | decide) (by decide) ?_
        refine PW.aload_n 0 0 dX12_count_113 rfl rfl rfl ?_
        refine CW.geti dX12_count_114 fL_X12_472 LA_193 (Or.inl rfl) ?_
        cases h
        subst hx
        exact PW.iret (v := (iG s 193 7)) dX12_count_117 rfl rfl (Nat.le_refl 0) (Nat.le_refl 0)
      replace h := ifn h c10
      by_cases c11 : a0 = 6
      · replace h := ifp h c11
        refine PW.tswI (off := 76) (tgt := 118) dX12_count_42 (by rw [c11]; decide) (by rw [c11]; decide) (by rw [c11]; first | rfl | decide) (by decide) ?_
        refine PW.aload_n 0 0 dX12_count_118 rfl rfl rfl ?_
        refine CW.geti dX12_count_119 fL_X12_299 LA_193 (Or.inl rfl) ?_
        cases h
        subst hx
        exact PW.iret (v := (iG s 193 15)) dX12_count_122 rfl rfl (Nat.le_refl 0) (Nat.le_refl 0)
      replace h := ifn h c11
      by_cases c12 : a0 = 7
      · replace h := ifp h c12
        refine PW.tswI (off := 81) (tgt := 123) dX12_count_42 (by rw [c12]; decide) (by rw [c12]; decide) (by rw [c12]; first | rfl | decide) (by decide) ?_
        refine PW.aload_n 0 0 dX12_count_123 rfl rfl rfl ?_
        refine CW.geti dX12_count_124 fL_X12_185 LA_193 (Or.inl rfl) ?_
        cases h
        subst hx
        exact PW.iret (v := (iG s 193 1)) dX12_count_127 rfl rfl (Nat.le_refl 0) (Nat.le_refl 0)
      replace h := ifn h c12
      have hout : a0.toInt < 0 ∨ 7 < a0.toInt := sw_out (fun k h1 h2 e => by
        have hk : k = 0 ∨ k = 1 ∨ k = 2 ∨ k = 3 ∨ k = 4 ∨ k = 5 ∨ k = 6 ∨ k = 7 := by omega
        rcases hk with rfl | rfl | rfl | rfl | rfl | rfl | rfl | rfl
        · exact c5 (sw_c e (by decide))
        · exact c6 (sw_c e (by decide))
        · exact c7 (sw_c e (by decide))
        · exact c8 (sw_c e (by decide))
        · exact c9 (sw_c e (by decide))
        · exact c10 (sw_c e (by decide))
        · exact c11 (sw_c e (by decide))
        · exact c12 (sw_c e (by decide)))
      refine PW.tswD (tgt := 128) dX12_count_42 hout (by decide) ?_
      refine PW.iconst (v := (-1)) dX12_count_128 (by decide) ?_
      cases h
      subst hx
      exact PW.iret (v := (-1 : Int32)) dX12_count_129 rfl rfl (Nat.le_refl 0) (Nat.le_refl 0)
    · replace h := ifn h c4
      refine PW.aload_n 0 0 dX12_count_31 rfl rfl rfl ?_
      refine CW.getr dX12_count_32 fL_X12_90 LA_193 (Or.inr ⟨_, rfl⟩) rfl ?_
      refine PW.iload_n 1 1 dX12_count_35 rfl rfl ?_
      refine PW.bipush (v := 20) dX12_count_36 (by decide) ?_
      refine PW.isub dX12_count_38 ?_
      by_cases c13 : inb (a0 - (20 : Int32)) 16
      rotate_left
      · have h := ifn h c13; cases h
      replace h := ifp h c13
      refine CW.iald dX12_count_39 LA_220 c13 ?_
      cases h
      subst hx
      exact PW.iret (v := (iG s 220 (a0 - (20 : Int32)).toNatClampNeg)) dX12_count_40 rfl rfl (Nat.le_refl 0) (Nat.le_refl 0)
  · replace h := ifn h c2
    refine PW.aload_n 0 0 dX12_count_11 rfl rfl rfl ?_
    refine CW.getr dX12_count_12 fL_X12_26 LA_193 (Or.inr ⟨_, rfl⟩) rfl ?_
    refine PW.iload_n 1 1 dX12_count_15 rfl rfl ?_
    refine PW.bipush (v := 10) dX12_count_16 (by decide) ?_
    refine PW.isub dX12_count_18 ?_
    by_cases c14 : inb (a0 - (10 : Int32)) 8
    rotate_left
    · have h := ifn h c14; cases h
    replace h := ifp h c14
    refine CW.iald dX12_count_19 LA_199 c14 ?_
    cases h
    subst hx
    exact PW.iret (v := (iG s 199 (a0 - (10 : Int32)).toNatClampNeg)) dX12_count_20 rfl rfl (Nat.le_refl 0) (Nat.le_refl 0)
