/-! X12_has -/
def f_X12_has (a0 : Int32) (a1 : Int32) (s : cS) : Int32 :=
  if ((a0 >>> (a1 &&& 31)) &&& (1 : Int32)) = (1 : Int32) then
    (1 : Int32)
  else
    (0 : Int32)
set_option maxRecDepth 20000 in
set_option maxHeartbeats 4000000 in
theorem p_X12_has {g : pG} {l : Launch} {a0 : Int32} {a1 : Int32} {s : cS} {q : Int32} (h : f_X12_has a0 a1 s = q) : PM g l 1 M_X12_has [.int a0, .int a1] (tS s) (some (.int q)) (tS s) 0 0 := by
  refine PM.of (by decide +kernel) (Nat.le_of_ble_eq_true rfl) ?_
  show PW g l (pRoom 1 0 0) M_X12_has _ 0 [(0, .int a0), (1, .int a1)] [] (tS s) 0 0
  unfold f_X12_has at h
  generalize hF : pE g (some (.int q)) (tS s) 0 0 = F
  have hx := hF.symm
  refine PW.iload_n 0 0 dX12_has_0 rfl rfl ?_
  refine PW.iload_n 1 1 dX12_has_1 rfl rfl ?_
  refine PW.ishr dX12_has_2 ?_
  refine PW.iconst (v := 1) dX12_has_3 (by decide) ?_
  refine PW.iand dX12_has_4 ?_
  refine PW.iconst (v := 1) dX12_has_5 (by decide) ?_
  refine PW.icmp_ne (tgt := 13) dX12_has_6 (by decide) (fun c1 => ?_) (fun c1 => ?_)
  · replace h := ifn h c1
    refine PW.iconst (v := 0) dX12_has_13 (by decide) ?_
    cases h
    subst hx
    exact PW.iret (v := (0 : Int32)) dX12_has_14 rfl (narZ (Or.inl rfl)) (Nat.le_refl 0) (Nat.le_refl 0)
  · replace h := ifp h c1
    refine PW.iconst (v := 1) dX12_has_9 (by decide) ?_
    refine PW.goto (tgt := 14) dX12_has_10 (by decide) ?_
    cases h
    subst hx
    exact PW.iret (v := (1 : Int32)) dX12_has_14 rfl (narZ (Or.inr rfl)) (Nat.le_refl 0) (Nat.le_refl 0)
theorem f_X12_has_bool {a0 : Int32} {a1 : Int32} {s : cS} : f_X12_has a0 a1 s = 0 ∨ f_X12_has a0 a1 s = 1 := by
  unfold f_X12_has
  repeat' split
  all_goals first | exact Or.inl rfl | exact Or.inr rfl
/-! X12_isCorner -/
def f_X12_isCorner (a0 : Int32) (s : cS) : Int32 :=
  (lIn a0.toInt64 (0 : Int64) (((iG s 193 2) - (1 : Int32)).toInt64))
set_option maxRecDepth 20000 in
set_option maxHeartbeats 4000000 in
theorem p_X12_isCorner {g : pG} {l : Launch} {a0 : Int32} {s : cS} {q : Int32} (h : f_X12_isCorner a0 s = q) : PM g l 2 M_X12_isCorner [.ref 193, .int a0] (tS s) (some (.int q)) (tS s) 0 0 := by
  refine PM.of (by decide +kernel) (Nat.le_of_ble_eq_true rfl) ?_
  show PW g l (pRoom 2 0 0) M_X12_isCorner _ 0 [(0, .ref 193), (1, .int a0)] [] (tS s) 0 0
  unfold f_X12_isCorner at h
  generalize hF : pE g (some (.int q)) (tS s) 0 0 = F
  have hx := hF.symm
  refine PW.iload_n 1 1 dX12_isCorner_0 rfl rfl ?_
  refine PW.i2l dX12_isCorner_1 ?_
  refine PW.lconst (v := 0) dX12_isCorner_2 (by decide) ?_
  refine PW.aload_n 0 0 dX12_isCorner_3 rfl rfl rfl ?_
  refine CW.geti dX12_isCorner_4 fL_X12_161 LA_193 (Or.inl rfl) ?_
  refine PW.iconst (v := 1) dX12_isCorner_7 (by decide) ?_
  refine PW.isub dX12_isCorner_8 ?_
  refine PW.i2l dX12_isCorner_9 ?_
  refine CW.callSi (st := []) [.long a0.toInt64, .long (0 : Int64), .long ((iG s 193 2) - (1 : Int32)).toInt64] dX12_isCorner_10 (ps_isIn rfl) MS_X12_isIn mL_X12_164 rfl rfl (Nat.le_of_ble_eq_true rfl) (by first | decide | omega) ?_
  cases h
  subst hx
  exact PW.iret (v := (lIn a0.toInt64 (0 : Int64) (((iG s 193 2) - (1 : Int32)).toInt64))) dX12_isCorner_13 rfl (narZ (lIn_bool _ _ _)) (Nat.le_refl 0) (Nat.le_refl 0)
theorem f_X12_isCorner_bool {a0 : Int32} {s : cS} : f_X12_isCorner a0 s = 0 ∨ f_X12_isCorner a0 s = 1 := by
  unfold f_X12_isCorner
  repeat' split
  all_goals first | exact Or.inl rfl | exact Or.inr rfl | exact lIn_bool _ _ _
/-! X12_corner -/
def f_X12_corner (a0 : Int32) (a1 : Int32) (a2 : Int32) (a3 : Int32) (s : cS) : Option (Int32 × cS) :=
  if (iG s 193 2) = (8 : Int32) then
    some (((-1 : Int32), s))
  else
    if 0 < (iG s 193 3) then
      some (((-1 : Int32), s))
    else
      if (lIn a0.toInt64 (0 : Int64) (3 : Int64)) = 0 then
        some (((-1 : Int32), s))
      else
        if (lIn a1.toInt64 (1 : Int64) (50 : Int64)) = 0 then
          some (((-1 : Int32), s))
        else
          if (lIn a2.toInt64 (1 : Int64) (50 : Int64)) = 0 then
            some (((-1 : Int32), s))
          else
            if (lIn a3.toInt64 (1 : Int64) (10000 : Int64)) = 0 then
              some (((-1 : Int32), s))
            else
              if inb (iG s 193 2) 8 then
              sb (iS s 195 (iG s 193 2).toNatClampNeg a0) fun s12 =>
              if inb (iG s12 193 2) 8 then
              sb (iS s12 196 (iG s12 193 2).toNatClampNeg a1) fun s14 =>
              if inb (iG s14 193 2) 8 then
              sb (iS s14 197 (iG s14 193 2).toNatClampNeg a2) fun s16 =>
              if inb (iG s16 193 2) 8 then
              sb (iS s16 198 (iG s16 193 2).toNatClampNeg a3) fun s18 =>
              sb (iS s18 193 2 ((iG s18 193 2) + (1 : Int32))) fun s19 =>
              some ((((iG s19 193 2) - (1 : Int32)), s19))
              else none
              else none
              else none
              else none
set_option maxRecDepth 20000 in
set_option maxHeartbeats 4000000 in
theorem p_X12_corner {g : pG} {l : Launch} {a0 : Int32} {a1 : Int32} {a2 : Int32} {a3 : Int32} {s : cS} {q : Int32 × cS} (h : f_X12_corner a0 a1 a2 a3 s = some q) : PM g l 2 M_X12_corner [.ref 193, .int a0, .int a1, .int a2, .int a3] (tS s) (some (.int q.1)) (tS q.2) 0 0 := by
  refine PM.of (by decide +kernel) (Nat.le_of_ble_eq_true rfl) ?_
  show PW g l (pRoom 2 0 0) M_X12_corner _ 0 [(0, .ref 193), (1, .int a0), (2, .int a1), (3, .int a2), (4, .int a3)] [] (tS s) 0 0
  unfold f_X12_corner at h
  generalize hF : pE g (some (.int q.1)) (tS q.2) 0 0 = F
  have hx := hF.symm
  refine PW.aload_n 0 0 dX12_corner_0 rfl rfl rfl ?_
  refine CW.geti dX12_corner_1 fL_X12_161 LA_193 (Or.inl rfl) ?_
  refine PW.bipush (v := 8) dX12_corner_4 (by decide) ?_
  refine PW.icmp_eq (tgt := 65) dX12_corner_6 (by decide) (fun c1 => ?_) (fun c1 => ?_)
  · replace h := ifp h c1
    refine PW.iconst (v := (-1)) dX12_corner_65 (by decide) ?_
    cases h
    subst hx
    exact PW.iret (v := (-1 : Int32)) dX12_corner_66 rfl rfl (Nat.le_refl 0) (Nat.le_refl 0)
  · replace h := ifn h c1
    refine PW.aload_n 0 0 dX12_corner_9 rfl rfl rfl ?_
    refine CW.geti dX12_corner_10 fL_X12_168 LA_193 (Or.inl rfl) ?_
    refine PW.if_gt (tgt := 65) dX12_corner_13 (by decide) (fun c2 => ?_) (fun c2 => ?_)
    · replace h := ifp h c2
      refine PW.iconst (v := (-1)) dX12_corner_65 (by decide) ?_
      cases h
      subst hx
      exact PW.iret (v := (-1 : Int32)) dX12_corner_66 rfl rfl (Nat.le_refl 0) (Nat.le_refl 0)
    · replace h := ifn h c2
      refine PW.iload_n 1 1 dX12_corner_16 rfl rfl ?_
      refine PW.i2l dX12_corner_17 ?_
      refine PW.lconst (v := 0) dX12_corner_18 (by decide) ?_
      refine PW.ldc2_w dX12_corner_19 kL_X12_171 ?_
      refine CW.callSi (st := []) [.long a0.toInt64, .long (0 : Int64), .long (3 : Int64)] dX12_corner_22 (ps_isIn rfl) MS_X12_isIn mL_X12_164 rfl rfl (Nat.le_of_ble_eq_true rfl) (by first | decide | omega) ?_
      refine PW.if_eq (tgt := 65) dX12_corner_25 (by decide) (fun c4 => ?_) (fun c4 => ?_)
      · replace h := ifp h c4
        refine PW.iconst (v := (-1)) dX12_corner_65 (by decide) ?_
        cases h
        subst hx
        exact PW.iret (v := (-1 : Int32)) dX12_corner_66 rfl rfl (Nat.le_refl 0) (Nat.le_refl 0)
      · replace h := ifn h c4
        refine PW.iload_n 2 2 dX12_corner_28 rfl rfl ?_
        refine PW.i2l dX12_corner_29 ?_
        refine PW.lconst (v := 1) dX12_corner_30 (by decide) ?_
        refine PW.ldc2_w dX12_corner_31 kL_X12_173 ?_
        refine CW.callSi (st := []) [.long a1.toInt64, .long (1 : Int64), .long (50 : Int64)] dX12_corner_34 (ps_isIn rfl) MS_X12_isIn mL_X12_164 rfl rfl (Nat.le_of_ble_eq_true rfl) (by first | decide | omega) ?_
        refine PW.if_eq (tgt := 65) dX12_corner_37 (by decide) (fun c6 => ?_) (fun c6 => ?_)
        · replace h := ifp h c6
          refine PW.iconst (v := (-1)) dX12_corner_65 (by decide) ?_
          cases h
          subst hx
          exact PW.iret (v := (-1 : Int32)) dX12_corner_66 rfl rfl (Nat.le_refl 0) (Nat.le_refl 0)
        · replace h := ifn h c6
          refine PW.iload_n 3 3 dX12_corner_40 rfl rfl ?_
          refine PW.i2l dX12_corner_41 ?_
          refine PW.lconst (v := 1) dX12_corner_42 (by decide) ?_
          refine PW.ldc2_w dX12_corner_43 kL_X12_173 ?_
          refine CW.callSi (st := []) [.long a2.toInt64, .long (1 : Int64), .long (50 : Int64)] dX12_corner_46 (ps_isIn rfl) MS_X12_isIn mL_X12_164 rfl rfl (Nat.le_of_ble_eq_true rfl) (by first | decide | omega) ?_
          refine PW.if_eq (tgt := 65) dX12_corner_49 (by decide) (fun c8 => ?_) (fun c8 => ?_)
          · replace h := ifp h c8
            refine PW.iconst (v := (-1)) dX12_corner_65 (by decide) ?_
            cases h
            subst hx
            exact PW.iret (v := (-1 : Int32)) dX12_corner_66 rfl rfl (Nat.le_refl 0) (Nat.le_refl 0)
          · replace h := ifn h c8
            refine PW.iload 4 dX12_corner_52 rfl ?_
            refine PW.i2l dX12_corner_54 ?_
            refine PW.lconst (v := 1) dX12_corner_55 (by decide) ?_
            refine PW.ldc2_w dX12_corner_56 kL_X12_175 ?_
            refine CW.callSi (st := []) [.long a3.toInt64, .long (1 : Int64), .long (10000 : Int64)] dX12_corner_59 (ps_isIn rfl) MS_X12_isIn mL_X12_164 rfl rfl (Nat.le_of_ble_eq_true rfl) (by first | decide | omega) ?_
            refine PW.if_ne (tgt := 67) dX12_corner_62 (by decide) (fun c10 => ?_) (fun c10 => ?_)
            · replace h := ifn h c10
              refine PW.aload_n 0 0 dX12_corner_67 rfl rfl rfl ?_
              refine CW.getr dX12_corner_68 fL_X12_13 LA_193 (Or.inr ⟨_, rfl⟩) rfl ?_
              refine PW.aload_n 0 0 dX12_corner_71 rfl rfl rfl ?_
              refine CW.geti dX12_corner_72 fL_X12_161 LA_193 (Or.inl rfl) ?_
              refine PW.iload_n 1 1 dX12_corner_75 rfl rfl ?_
              by_cases c11 : inb (iG s 193 2) 8
              rotate_left
              · have h := ifn h c11; cases h
              replace h := ifp h c11
              refine CW.iast dX12_corner_76 LA_195 c11 ?_
              obtain ⟨s12, es12, h⟩ := sbnd h
              refine PW.sbe es12 ?_
              clear es12
              refine PW.aload_n 0 0 dX12_corner_77 rfl rfl rfl ?_
              refine CW.getr dX12_corner_78 fL_X12_17 LA_193 (Or.inr ⟨_, rfl⟩) rfl ?_
              refine PW.aload_n 0 0 dX12_corner_81 rfl rfl rfl ?_
              refine CW.geti dX12_corner_82 fL_X12_161 LA_193 (Or.inl rfl) ?_
              refine PW.iload_n 2 2 dX12_corner_85 rfl rfl ?_
              by_cases c13 : inb (iG s12 193 2) 8
              rotate_left
              · have h := ifn h c13; cases h
              replace h := ifp h c13
              refine CW.iast dX12_corner_86 LA_196 c13 ?_
              obtain ⟨s14, es14, h⟩ := sbnd h
              refine PW.sbe es14 ?_
              clear es14
              refine PW.aload_n 0 0 dX12_corner_87 rfl rfl rfl ?_
              refine CW.getr dX12_corner_88 fL_X12_20 LA_193 (Or.inr ⟨_, rfl⟩) rfl ?_
              refine PW.aload_n 0 0 dX12_corner_91 rfl rfl rfl ?_
              refine CW.geti dX12_corner_92 fL_X12_161 LA_193 (Or.inl rfl) ?_
              refine PW.iload_n 3 3 dX12_corner_95 rfl rfl ?_
              by_cases c15 : inb (iG s14 193 2) 8
              rotate_left
              · have h := ifn h c15; cases h
              replace h := ifp h c15
              refine CW.iast dX12_corner_96 LA_197 c15 ?_
              obtain ⟨s16, es16, h⟩ := sbnd h
              refine PW.sbe es16 ?_
              clear es16
              refine PW.aload_n 0 0 dX12_corner_97 rfl rfl rfl ?_
              refine CW.getr dX12_corner_98 fL_X12_23 LA_193 (Or.inr ⟨_, rfl⟩) rfl ?_
              refine PW.aload_n 0 0 dX12_corner_101 rfl rfl rfl ?_
              refine CW.geti dX12_corner_102 fL_X12_161 LA_193 (Or.inl rfl) ?_
              refine PW.iload 4 dX12_corner_105 rfl ?_
              by_cases c17 : inb (iG s16 193 2) 8
              rotate_left
              · have h := ifn h c17; cases h
              replace h := ifp h c17
              refine CW.iast dX12_corner_107 LA_198 c17 ?_
              obtain ⟨s18, es18, h⟩ := sbnd h
              refine PW.sbe es18 ?_
              clear es18
              refine PW.aload_n 0 0 dX12_corner_108 rfl rfl rfl ?_
              refine PW.dup dX12_corner_109 rfl ?_
              refine CW.geti dX12_corner_110 fL_X12_161 LA_193 (Or.inl rfl) ?_
              refine PW.iconst (v := 1) dX12_corner_113 (by decide) ?_
              refine PW.iadd dX12_corner_114 ?_
              refine CW.puti dX12_corner_115 fL_X12_161 rfl LA_193 rfl ?_
              obtain ⟨s19, es19, h⟩ := sbnd h
              refine PW.sbe es19 ?_
              clear es19
              refine PW.aload_n 0 0 dX12_corner_118 rfl rfl rfl ?_
              refine CW.geti dX12_corner_119 fL_X12_161 LA_193 (Or.inl rfl) ?_
              refine PW.iconst (v := 1) dX12_corner_122 (by decide) ?_
              refine PW.isub dX12_corner_123 ?_
              cases h
              subst hx
              exact PW.iret (v := ((iG s19 193 2) - (1 : Int32))) dX12_corner_124 rfl rfl (Nat.le_refl 0) (Nat.le_refl 0)
            · replace h := ifp h c10
              refine PW.iconst (v := (-1)) dX12_corner_65 (by decide) ?_
              cases h
              subst hx
              exact PW.iret (v := (-1 : Int32)) dX12_corner_66 rfl rfl (Nat.le_refl 0) (Nat.le_refl 0)
/-! X12_life -/
def f_X12_life (a0 : Int32) (a1 : Int32) (a2 : Int32) (s : cS) : Option (Int32 × cS) :=
  if (f_X12_isCorner a0 s) = 0 then
    some (((-1 : Int32), s))
  else
    if 0 < (iG s 193 3) then
      some (((-1 : Int32), s))
    else
      if inb a0 8 then
      if (iG s 199 a0.toNatClampNeg) = (4 : Int32) then
        some (((-1 : Int32), s))
      else
        if (lIn a1.toInt64 (1 : Int64) (1000000 : Int64)) = 0 then
          some (((-1 : Int32), s))
        else
          if (lIn a2.toInt64 (1 : Int64) (5 : Int64)) = 0 then
            some (((-1 : Int32), s))
          else
            if inb (((4 : Int32) * a0) + (iG s 199 a0.toNatClampNeg)) 32 then
            sb (iS s 200 (((4 : Int32) * a0) + (iG s 199 a0.toNatClampNeg)).toNatClampNeg a1) fun s11 =>
            if inb (((4 : Int32) * a0) + (iG s11 199 a0.toNatClampNeg)) 32 then
            sb (iS s11 201 (((4 : Int32) * a0) + (iG s11 199 a0.toNatClampNeg)).toNatClampNeg a2) fun s13 =>
            sb (iS s13 199 a0.toNatClampNeg ((iG s13 199 a0.toNatClampNeg) + (1 : Int32))) fun s14 =>
            some ((((iG s14 199 a0.toNatClampNeg) - (1 : Int32)), s14))
            else none
            else none
      else none
set_option maxRecDepth 20000 in
set_option maxHeartbeats 4000000 in
theorem p_X12_life {g : pG} {l : Launch} {a0 : Int32} {a1 : Int32} {a2 : Int32} {s : cS} {q : Int32 × cS} (h : f_X12_life a0 a1 a2 s = some q) : PM g l 3 M_X12_life [.ref 193, .int a0, .int a1, .int a2] (tS s) (some (.int q.1)) (tS q.2) 0 0 := by
  refine PM.of (by decide +kernel) (Nat.le_of_ble_eq_true rfl) ?_
  show PW g l (pRoom 3 0 0) M_X12_life _ 0 [(0, .ref 193), (1, .int a0), (2, .int a1), (3, .int a2)] [] (tS s) 0 0
  unfold f_X12_life at h
  generalize hF : pE g (some (.int q.1)) (tS q.2) 0 0 = F
  have hx := hF.symm
  refine PW.aload_n 0 0 dX12_life_0 rfl rfl rfl ?_
  refine PW.iload_n 1 1 dX12_life_1 rfl rfl ?_
  refine CW.callVi (ci := 12) (st := []) [.int a0] dX12_life_2 (p_X12_isCorner rfl) MV_X12_isCorner mL_X12_177 (by decide) rfl LA_193 rfl rfl (Nat.le_of_ble_eq_true rfl) (by first | decide | omega) ?_
  refine PW.if_eq (tgt := 49) dX12_life_5 (by decide) (fun c2 => ?_) (fun c2 => ?_)
  · replace h := ifp h c2
    refine PW.iconst (v := (-1)) dX12_life_49 (by decide) ?_
    cases h
    subst hx
    exact PW.iret (v := (-1 : Int32)) dX12_life_50 rfl rfl (Nat.le_refl 0) (Nat.le_refl 0)
  · replace h := ifn h c2
    refine PW.aload_n 0 0 dX12_life_8 rfl rfl rfl ?_
    refine CW.geti dX12_life_9 fL_X12_168 LA_193 (Or.inl rfl) ?_
    refine PW.if_gt (tgt := 49) dX12_life_12 (by decide) (fun c3 => ?_) (fun c3 => ?_)
    · replace h := ifp h c3
      refine PW.iconst (v := (-1)) dX12_life_49 (by decide) ?_
      cases h
      subst hx
      exact PW.iret (v := (-1 : Int32)) dX12_life_50 rfl rfl (Nat.le_refl 0) (Nat.le_refl 0)
    · replace h := ifn h c3
      refine PW.aload_n 0 0 dX12_life_15 rfl rfl rfl ?_
      refine CW.getr dX12_life_16 fL_X12_26 LA_193 (Or.inr ⟨_, rfl⟩) rfl ?_
      refine PW.iload_n 1 1 dX12_life_19 rfl rfl ?_
      by_cases c4 : inb a0 8
      rotate_left
      · have h := ifn h c4; cases h
      replace h := ifp h c4
      refine CW.iald dX12_life_20 LA_199 c4 ?_
      refine PW.iconst (v := 4) dX12_life_21 (by decide) ?_
      refine PW.icmp_eq (tgt := 49) dX12_life_22 (by decide) (fun c5 => ?_) (fun c5 => ?_)
      · replace h := ifp h c5
        refine PW.iconst (v := (-1)) dX12_life_49 (by decide) ?_
        cases h
        subst hx
        exact PW.iret (v := (-1 : Int32)) dX12_life_50 rfl rfl (Nat.le_refl 0) (Nat.le_refl 0)
      · replace h := ifn h c5
        refine PW.iload_n 2 2 dX12_life_25 rfl rfl ?_
        refine PW.i2l dX12_life_26 ?_
        refine PW.lconst (v := 1) dX12_life_27 (by decide) ?_
        refine PW.ldc2_w dX12_life_28 kL_X12_181 ?_
        refine CW.callSi (st := []) [.long a1.toInt64, .long (1 : Int64), .long (1000000 : Int64)] dX12_life_31 (ps_isIn rfl) MS_X12_isIn mL_X12_164 rfl rfl (Nat.le_of_ble_eq_true rfl) (by first | decide | omega) ?_
        refine PW.if_eq (tgt := 49) dX12_life_34 (by decide) (fun c7 => ?_) (fun c7 => ?_)
        · replace h := ifp h c7
          refine PW.iconst (v := (-1)) dX12_life_49 (by decide) ?_
          cases h
          subst hx
          exact PW.iret (v := (-1 : Int32)) dX12_life_50 rfl rfl (Nat.le_refl 0) (Nat.le_refl 0)
        · replace h := ifn h c7
          refine PW.iload_n 3 3 dX12_life_37 rfl rfl ?_
          refine PW.i2l dX12_life_38 ?_
          refine PW.lconst (v := 1) dX12_life_39 (by decide) ?_
          refine PW.ldc2_w dX12_life_40 kL_X12_183 ?_
          refine CW.callSi (st := []) [.long a2.toInt64, .long (1 : Int64), .long (5 : Int64)] dX12_life_43 (ps_isIn rfl) MS_X12_isIn mL_X12_164 rfl rfl (Nat.le_of_ble_eq_true rfl) (by first | decide | omega) ?_
          refine PW.if_ne (tgt := 51) dX12_life_46 (by decide) (fun c9 => ?_) (fun c9 => ?_)
          · replace h := ifn h c9
            refine PW.aload_n 0 0 dX12_life_51 rfl rfl rfl ?_
            refine CW.getr dX12_life_52 fL_X12_29 LA_193 (Or.inr ⟨_, rfl⟩) rfl ?_
            refine PW.iconst (v := 4) dX12_life_55 (by decide) ?_
            refine PW.iload_n 1 1 dX12_life_56 rfl rfl ?_
            refine PW.imul dX12_life_57 ?_
            refine PW.aload_n 0 0 dX12_life_58 rfl rfl rfl ?_
            refine CW.getr dX12_life_59 fL_X12_26 LA_193 (Or.inr ⟨_, rfl⟩) rfl ?_
            refine PW.iload_n 1 1 dX12_life_62 rfl rfl ?_
            refine CW.iald dX12_life_63 LA_199 c4 ?_
            refine PW.iadd dX12_life_64 ?_
            refine PW.iload_n 2 2 dX12_life_65 rfl rfl ?_
            by_cases c10 : inb (((4 : Int32) * a0) + (iG s 199 a0.toNatClampNeg)) 32
            rotate_left
            · have h := ifn h c10; cases h
            replace h := ifp h c10
            refine CW.iast dX12_life_66 LA_200 c10 ?_
            obtain ⟨s11, es11, h⟩ := sbnd h
            refine PW.sbe es11 ?_
            clear es11
            refine PW.aload_n 0 0 dX12_life_67 rfl rfl rfl ?_
            refine CW.getr dX12_life_68 fL_X12_32 LA_193 (Or.inr ⟨_, rfl⟩) rfl ?_
            refine PW.iconst (v := 4) dX12_life_71 (by decide) ?_
            refine PW.iload_n 1 1 dX12_life_72 rfl rfl ?_
            refine PW.imul dX12_life_73 ?_
            refine PW.aload_n 0 0 dX12_life_74 rfl rfl rfl ?_
            refine CW.getr dX12_life_75 fL_X12_26 LA_193 (Or.inr ⟨_, rfl⟩) rfl ?_
            refine PW.iload_n 1 1 dX12_life_78 rfl rfl ?_
            refine CW.iald dX12_life_79 LA_199 c4 ?_
            refine PW.iadd dX12_life_80 ?_
            refine PW.iload_n 3 3 dX12_life_81 rfl rfl ?_
            by_cases c12 : inb (((4 : Int32) * a0) + (iG s11 199 a0.toNatClampNeg)) 32
            rotate_left
            · have h := ifn h c12; cases h
            replace h := ifp h c12
            refine CW.iast dX12_life_82 LA_201 c12 ?_
            obtain ⟨s13, es13, h⟩ := sbnd h
            refine PW.sbe es13 ?_
            clear es13
            refine PW.aload_n 0 0 dX12_life_83 rfl rfl rfl ?_
            refine CW.getr dX12_life_84 fL_X12_26 LA_193 (Or.inr ⟨_, rfl⟩) rfl ?_
            refine PW.iload_n 1 1 dX12_life_87 rfl rfl ?_
            refine PW.dup2 dX12_life_88 rfl rfl ?_
            refine CW.iald dX12_life_89 LA_199 c4 ?_
            refine PW.iconst (v := 1) dX12_life_90 (by decide) ?_
            refine PW.iadd dX12_life_91 ?_
            refine CW.iast dX12_life_92 LA_199 c4 ?_
            obtain ⟨s14, es14, h⟩ := sbnd h
            refine PW.sbe es14 ?_
            clear es14
            refine PW.aload_n 0 0 dX12_life_93 rfl rfl rfl ?_
            refine CW.getr dX12_life_94 fL_X12_26 LA_193 (Or.inr ⟨_, rfl⟩) rfl ?_
            refine PW.iload_n 1 1 dX12_life_97 rfl rfl ?_
            refine CW.iald dX12_life_98 LA_199 c4 ?_
            refine PW.iconst (v := 1) dX12_life_99 (by decide) ?_
            refine PW.isub dX12_life_100 ?_
            cases h
            subst hx
            exact PW.iret (v := ((iG s14 199 a0.toNatClampNeg) - (1 : Int32))) dX12_life_101 rfl rfl (Nat.le_refl 0) (Nat.le_refl 0)
          · replace h := ifp h c9
            refine PW.iconst (v := (-1)) dX12_life_49 (by decide) ?_
            cases h
            subst hx
            exact PW.iret (v := (-1 : Int32)) dX12_life_50 rfl rfl (Nat.le_refl 0) (Nat.le_refl 0)
/-! X12_push -/
def b_X12_push_3 (x1 : Int32) (x2 : Int32) (s : cS) : Option ((Int32 × cS) ⊕ (Unit × cS)) :=
  if x2 < 0 then
    oR (
      some (((), s)))
  else
    if inb (iG s 193 1) 200 then
    sb (iS s 194 (iG s 193 1).toNatClampNeg ((x1 >>> (x2 &&& 31)).toInt8.toInt32).toInt8.toInt32) fun s3 =>
    sb (iS s3 193 1 ((iG s3 193 1) + (1 : Int32))) fun s4 =>
    some (.inl ((x2 + (-8)), s4))
    else none
set_option maxRecDepth 20000 in
set_option maxHeartbeats 4000000 in
theorem ok_b_X12_push_3 {g : pG} {l : Launch} {F : pF} {x1 : Int32} {x2 : Int32} {s : cS} {x : ((Int32 × cS) ⊕ (Unit × cS))} (h : b_X12_push_3 x1 x2 s = some x) (hx : (KL (fun (v : Int32 × cS) => PW g l (pRoom 1 0 0) M_X12_push F 3 [(0, .ref 193), (1, .int x1), (2, .int v.1)] [] (tS v.2) 0 0) (fun q => F = pE g none (tS q.2) 0 0)) x) : PW g l (pRoom 1 0 0) M_X12_push F 3 [(0, .ref 193), (1, .int x1), (2, .int x2)] [] (tS s) 0 0 := by
  unfold b_X12_push_3 at h
  refine PW.iload_n 2 2 dX12_push_3 rfl rfl ?_
  refine PW.if_lt (tgt := 36) dX12_push_4 (by decide) (fun c1 => ?_) (fun c1 => ?_)
  · replace h := ifp h c1
    obtain ⟨xo, hy, hxo⟩ := oRb h
    clear h
    subst hxo
    replace hx := KLr hx
    have h := hy
    clear hy
    cases h
    subst hx
    exact PW.vret dX12_push_36 rfl (Nat.le_refl 0) (Nat.le_refl 0)
  · replace h := ifn h c1
    refine PW.aload_n 0 0 dX12_push_7 rfl rfl rfl ?_
    refine CW.getr dX12_push_8 fL_X12_7 LA_193 (Or.inr ⟨_, rfl⟩) rfl ?_
    refine PW.aload_n 0 0 dX12_push_11 rfl rfl rfl ?_
    refine CW.geti dX12_push_12 fL_X12_185 LA_193 (Or.inl rfl) ?_
    refine PW.iload_n 1 1 dX12_push_15 rfl rfl ?_
    refine PW.iload_n 2 2 dX12_push_16 rfl rfl ?_
    refine PW.ishr dX12_push_17 ?_
    refine PW.i2b dX12_push_18 ?_
    by_cases c2 : inb (iG s 193 1) 200
    rotate_left
    · have h := ifn h c2; cases h
    replace h := ifp h c2
    refine CW.bast dX12_push_19 LA_194 c2 ?_
    obtain ⟨s3, es3, h⟩ := sbnd h
    refine PW.sbe es3 ?_
    clear es3
    refine PW.aload_n 0 0 dX12_push_20 rfl rfl rfl ?_
    refine PW.dup dX12_push_21 rfl ?_
    refine CW.geti dX12_push_22 fL_X12_185 LA_193 (Or.inl rfl) ?_
    refine PW.iconst (v := 1) dX12_push_25 (by decide) ?_
    refine PW.iadd dX12_push_26 ?_
    refine CW.puti dX12_push_27 fL_X12_185 rfl LA_193 rfl ?_
    obtain ⟨s4, es4, h⟩ := sbnd h
    refine PW.sbe es4 ?_
    clear es4
    refine PW.iinc (v := (x2 + (-8))) 2 dX12_push_30 rfl (by first | rfl | decide) (Nat.le_of_ble_eq_true rfl) rfl ?_
    refine PW.goto (tgt := 3) dX12_push_33 (by decide) ?_
    cases h
    exact PW.pick [1, 2, 0] rfl hx
def w_X12_push_3 (N : Nat) (x1 : Int32) (x2 : Int32) (s : cS) : Option (Unit × cS) := itr (fun (v : Int32 × cS) => b_X12_push_3 x1 v.1 v.2) N (x2, s)
theorem ok_w_X12_push_3 {g : pG} {l : Launch} {F : pF} {N : Nat} {x1 : Int32} {x2 : Int32} {s : cS} {x : (Unit × cS)} (h : w_X12_push_3 N x1 x2 s = some x) (hx : (fun q => F = pE g none (tS q.2) 0 0) x) : PW g l (pRoom 1 0 0) M_X12_push F 3 [(0, .ref 193), (1, .int x1), (2, .int x2)] [] (tS s) 0 0 :=
  okIter (P := (fun (v : Int32 × cS) => PW g l (pRoom 1 0 0) M_X12_push F 3 [(0, .ref 193), (1, .int x1), (2, .int v.1)] [] (tS v.2) 0 0)) (K := (fun q => F = pE g none (tS q.2) 0 0)) (fun v y hB hy => ok_b_X12_push_3 hB hy) N (x2, s) x h hx
def f_X12_push (N : Nat) (a0 : Int32) (s : cS) : Option (Unit × cS) :=
  w_X12_push_3 N a0 (24 : Int32) s
set_option maxRecDepth 20000 in
set_option maxHeartbeats 4000000 in
theorem p_X12_push {g : pG} {l : Launch} {N : Nat} {a0 : Int32} {s : cS} {q : Unit × cS} (h : f_X12_push N a0 s = some q) : PM g l 1 M_X12_push [.ref 193, .int a0] (tS s) none (tS q.2) 0 0 := by
  refine PM.of (by decide +kernel) (Nat.le_of_ble_eq_true rfl) ?_
  show PW g l (pRoom 1 0 0) M_X12_push _ 0 [(0, .ref 193), (1, .int a0)] [] (tS s) 0 0
  unfold f_X12_push at h
  generalize hF : pE g none (tS q.2) 0 0 = F
  have hx := hF.symm
  refine PW.bipush (v := 24) dX12_push_0 (by decide) ?_
  refine PW.istore_n dX12_push_2 rfl (Nat.le_of_ble_eq_true rfl) rfl ?_
  exact PW.pick [1, 2, 0] rfl (ok_w_X12_push_3 h hx)
/-! X12_feed -/
def f_X12_feed (N : Nat) (a0 : Int32) (a1 : Int32) (a2 : Int32) (a3 : Int32) (a4 : Int32) (s : cS) : Option (Int32 × cS) :=
  if ((iG s 193 1) + (20 : Int32)) ≤ (200 : Int32) then
    ob (f_X12_push N a0 s) fun r2 s3 =>
    ob (f_X12_push N a1 s3) fun r5 s6 =>
    ob (f_X12_push N a2 s6) fun r8 s9 =>
    ob (f_X12_push N a3 s9) fun r11 s12 =>
    ob (f_X12_push N a4 s12) fun r14 s15 =>
    some (((iG s15 193 1), s15))
  else
    some (((-1 : Int32), s))
set_option maxRecDepth 20000 in
set_option maxHeartbeats 4000000 in
theorem p_X12_feed {g : pG} {l : Launch} {N : Nat} {a0 : Int32} {a1 : Int32} {a2 : Int32} {a3 : Int32} {a4 : Int32} {s : cS} {q : Int32 × cS} (h : f_X12_feed N a0 a1 a2 a3 a4 s = some q) : PM g l 2 M_X12_feed [.ref 193, .int a0, .int a1, .int a2, .int a3, .int a4] (tS s) (some (.int q.1)) (tS q.2) 0 0 := by
  refine PM.of (by decide +kernel) (Nat.le_of_ble_eq_true rfl) ?_
  show PW g l (pRoom 2 0 0) M_X12_feed _ 0 [(0, .ref 193), (1, .int a0), (2, .int a1), (3, .int a2), (4, .int a3), (5, .int a4)] [] (tS s) 0 0
  unfold f_X12_feed at h
  generalize hF : pE g (some (.int q.1)) (tS q.2) 0 0 = F
  have hx := hF.symm
  refine PW.aload_n 0 0 dX12_feed_0 rfl rfl rfl ?_
  refine CW.geti dX12_feed_1 fL_X12_185 LA_193 (Or.inl rfl) ?_
  refine PW.bipush (v := 20) dX12_feed_4 (by decide) ?_
  refine PW.iadd dX12_feed_6 ?_
  refine PW.sipush (v := 200) dX12_feed_7 (by decide) ?_
  refine PW.icmp_le (tgt := 15) dX12_feed_10 (by decide) (fun c1 => ?_) (fun c1 => ?_)
  · replace h := ifp h c1
    refine PW.aload_n 0 0 dX12_feed_15 rfl rfl rfl ?_
    refine PW.iload_n 1 1 dX12_feed_16 rfl rfl ?_
    obtain ⟨r2, s3, q4, h⟩ := obnd h
    refine CW.callVv (ci := 12) (st := []) [.int a0] dX12_feed_17 (p_X12_push q4) MV_X12_push mL_X12_188 (by decide) rfl LA_193 rfl rfl (Nat.le_of_ble_eq_true rfl) (by first | decide | omega) ?_
    refine PW.aload_n 0 0 dX12_feed_20 rfl rfl rfl ?_
    refine PW.iload_n 2 2 dX12_feed_21 rfl rfl ?_
    obtain ⟨r5, s6, q7, h⟩ := obnd h
    refine CW.callVv (ci := 12) (st := []) [.int a1] dX12_feed_22 (p_X12_push q7) MV_X12_push mL_X12_188 (by decide) rfl LA_193 rfl rfl (Nat.le_of_ble_eq_true rfl) (by first | decide | omega) ?_
    refine PW.aload_n 0 0 dX12_feed_25 rfl rfl rfl ?_
    refine PW.iload_n 3 3 dX12_feed_26 rfl rfl ?_
    obtain ⟨r8, s9, q10, h⟩ := obnd h
    refine CW.callVv (ci := 12) (st := []) [.int a2] dX12_feed_27 (p_X12_push q10) MV_X12_push mL_X12_188 (by decide) rfl LA_193 rfl rfl (Nat.le_of_ble_eq_true rfl) (by first | decide | omega) ?_
    refine PW.aload_n 0 0 dX12_feed_30 rfl rfl rfl ?_
    refine PW.iload 4 dX12_feed_31 rfl ?_
    obtain ⟨r11, s12, q13, h⟩ := obnd h
    refine CW.callVv (ci := 12) (st := []) [.int a3] dX12_feed_33 (p_X12_push q13) MV_X12_push mL_X12_188 (by decide) rfl LA_193 rfl rfl (Nat.le_of_ble_eq_true rfl) (by first | decide | omega) ?_
    refine PW.aload_n 0 0 dX12_feed_36 rfl rfl rfl ?_
    refine PW.iload 5 dX12_feed_37 rfl ?_
    obtain ⟨r14, s15, q16, h⟩ := obnd h
    refine CW.callVv (ci := 12) (st := []) [.int a4] dX12_feed_39 (p_X12_push q16) MV_X12_push mL_X12_188 (by decide) rfl LA_193 rfl rfl (Nat.le_of_ble_eq_true rfl) (by first | decide | omega) ?_
    refine PW.aload_n 0 0 dX12_feed_42 rfl rfl rfl ?_
    refine CW.geti dX12_feed_43 fL_X12_185 LA_193 (Or.inl rfl) ?_
    cases h
    subst hx
    exact PW.iret (v := (iG s15 193 1)) dX12_feed_46 rfl rfl (Nat.le_refl 0) (Nat.le_refl 0)
  · replace h := ifn h c1
    refine PW.iconst (v := (-1)) dX12_feed_13 (by decide) ?_
    cases h
    subst hx
    exact PW.iret (v := (-1 : Int32)) dX12_feed_14 rfl rfl (Nat.le_refl 0) (Nat.le_refl 0)
/-! X12_here -/
def f_X12_here (s : cS) : Option (Int32 × cS) :=
  if (iG s 193 29) ≤ (iG s 193 28) then
    some (((0 : Int32), s))
  else
    if inb (iG s 193 28) 200 then
    some ((((iG s 194 (iG s 193 28).toNatClampNeg) &&& (255 : Int32)), s))
    else none
set_option maxRecDepth 20000 in
set_option maxHeartbeats 4000000 in
theorem p_X12_here {g : pG} {l : Launch} {s : cS} {q : Int32 × cS} (h : f_X12_here s = some q) : PM g l 1 M_X12_here [.ref 193] (tS s) (some (.int q.1)) (tS q.2) 0 0 := by
  refine PM.of (by decide +kernel) (Nat.le_of_ble_eq_true rfl) ?_
  show PW g l (pRoom 1 0 0) M_X12_here _ 0 [(0, .ref 193)] [] (tS s) 0 0
  unfold f_X12_here at h
  generalize hF : pE g (some (.int q.1)) (tS q.2) 0 0 = F
  have hx := hF.symm
  refine PW.aload_n 0 0 dX12_here_0 rfl rfl rfl ?_
  refine CW.geti dX12_here_1 fL_X12_192 LA_193 (Or.inl rfl) ?_
  refine PW.aload_n 0 0 dX12_here_4 rfl rfl rfl ?_
  refine CW.geti dX12_here_5 fL_X12_195 LA_193 (Or.inl rfl) ?_
  refine PW.icmp_ge (tgt := 27) dX12_here_8 (by decide) (fun c1 => ?_) (fun c1 => ?_)
  · replace h := ifp h c1
    refine PW.iconst (v := 0) dX12_here_27 (by decide) ?_
    cases h
    subst hx
    exact PW.iret (v := (0 : Int32)) dX12_here_28 rfl rfl (Nat.le_refl 0) (Nat.le_refl 0)
  · replace h := ifn h c1
    refine PW.aload_n 0 0 dX12_here_11 rfl rfl rfl ?_
    refine CW.getr dX12_here_12 fL_X12_7 LA_193 (Or.inr ⟨_, rfl⟩) rfl ?_
    refine PW.aload_n 0 0 dX12_here_15 rfl rfl rfl ?_
    refine CW.geti dX12_here_16 fL_X12_192 LA_193 (Or.inl rfl) ?_
    by_cases c2 : inb (iG s 193 28) 200
    rotate_left
    · have h := ifn h c2; cases h
    replace h := ifp h c2
    refine CW.bald dX12_here_19 LA_194 c2 ?_
    refine PW.sipush (v := 255) dX12_here_20 (by decide) ?_
    refine PW.iand dX12_here_23 ?_
    refine PW.goto (tgt := 28) dX12_here_24 (by decide) ?_
    cases h
    subst hx
    exact PW.iret (v := ((iG s 194 (iG s 193 28).toNatClampNeg) &&& (255 : Int32))) dX12_here_28 rfl rfl (Nat.le_refl 0) (Nat.le_refl 0)
/-! X12_wrongs -/
def f_X12_wrongs (a0 : Int32) (a1 : Int32) (s : cS) : (Unit × cS) :=
  if 0 ≤ (iG s 193 30) then
    sb (iS s 193 30 (((-1000 : Int32) * a0) - a1)) fun s2 =>
    ((), s2)
  else
    sb (iS s 193 30 (iG s 193 30)) fun s3 =>
    ((), s3)
set_option maxRecDepth 20000 in
set_option maxHeartbeats 4000000 in
theorem p_X12_wrongs {g : pG} {l : Launch} {a0 : Int32} {a1 : Int32} {s : cS} {q : Unit × cS} (h : f_X12_wrongs a0 a1 s = q) : PM g l 1 M_X12_wrongs [.ref 193, .int a0, .int a1] (tS s) none (tS q.2) 0 0 := by
  refine PM.of (by decide +kernel) (Nat.le_of_ble_eq_true rfl) ?_
  show PW g l (pRoom 1 0 0) M_X12_wrongs _ 0 [(0, .ref 193), (1, .int a0), (2, .int a1)] [] (tS s) 0 0
  unfold f_X12_wrongs at h
  generalize hF : pE g none (tS q.2) 0 0 = F
  have hx := hF.symm
  refine PW.aload_n 0 0 dX12_wrongs_0 rfl rfl rfl ?_
  refine PW.aload_n 0 0 dX12_wrongs_1 rfl rfl rfl ?_
  refine CW.geti dX12_wrongs_2 fL_X12_198 LA_193 (Or.inl rfl) ?_
  refine PW.if_ge (tgt := 15) dX12_wrongs_5 (by decide) (fun c1 => ?_) (fun c1 => ?_)
  · replace h := ifp h c1
    refine PW.sipush (v := (-1000)) dX12_wrongs_15 (by decide) ?_
    refine PW.iload_n 1 1 dX12_wrongs_18 rfl rfl ?_
    refine PW.imul dX12_wrongs_19 ?_
    refine PW.iload_n 2 2 dX12_wrongs_20 rfl rfl ?_
    refine PW.isub dX12_wrongs_21 ?_
    refine CW.puti dX12_wrongs_22 fL_X12_198 rfl LA_193 rfl ?_
    obtain ⟨s2, es2, h⟩ := sbnd h
    refine PW.sbe es2 ?_
    clear es2
    cases h
    subst hx
    exact PW.vret dX12_wrongs_25 rfl (Nat.le_refl 0) (Nat.le_refl 0)
  · replace h := ifn h c1
    refine PW.aload_n 0 0 dX12_wrongs_8 rfl rfl rfl ?_
    refine CW.geti dX12_wrongs_9 fL_X12_198 LA_193 (Or.inl rfl) ?_
    refine PW.goto (tgt := 22) dX12_wrongs_12 (by decide) ?_
    refine CW.puti dX12_wrongs_22 fL_X12_198 rfl LA_193 rfl ?_
    obtain ⟨s3, es3, h⟩ := sbnd h
    refine PW.sbe es3 ?_
    clear es3
    cases h
    subst hx
    exact PW.vret dX12_wrongs_25 rfl (Nat.le_refl 0) (Nat.le_refl 0)
/-! X12_isGood -/
def f_X12_isGood (s : cS) : Int32 :=
  if (iG s 193 30) = 0 then
    (1 : Int32)
  else
    (0 : Int32)
set_option maxRecDepth 20000 in
set_option maxHeartbeats 4000000 in
theorem p_X12_isGood {g : pG} {l : Launch} {s : cS} {q : Int32} (h : f_X12_isGood s = q) : PM g l 1 M_X12_isGood [.ref 193] (tS s) (some (.int q)) (tS s) 0 0 := by
  refine PM.of (by decide +kernel) (Nat.le_of_ble_eq_true rfl) ?_
  show PW g l (pRoom 1 0 0) M_X12_isGood _ 0 [(0, .ref 193)] [] (tS s) 0 0
  unfold f_X12_isGood at h
  generalize hF : pE g (some (.int q)) (tS s) 0 0 = F
  have hx := hF.symm
  refine PW.aload_n 0 0 dX12_isGood_0 rfl rfl rfl ?_
  refine CW.geti dX12_isGood_1 fL_X12_198 LA_193 (Or.inl rfl) ?_
  refine PW.if_ne (tgt := 11) dX12_isGood_4 (by decide) (fun c1 => ?_) (fun c1 => ?_)
  · replace h := ifn h c1
    refine PW.iconst (v := 0) dX12_isGood_11 (by decide) ?_
    cases h
    subst hx
    exact PW.iret (v := (0 : Int32)) dX12_isGood_12 rfl (narZ (Or.inl rfl)) (Nat.le_refl 0) (Nat.le_refl 0)
  · replace h := ifp h c1
    refine PW.iconst (v := 1) dX12_isGood_7 (by decide) ?_
    refine PW.goto (tgt := 12) dX12_isGood_8 (by decide) ?_
    cases h
    subst hx
    exact PW.iret (v := (1 : Int32)) dX12_isGood_12 rfl (narZ (Or.inr rfl)) (Nat.le_refl 0) (Nat.le_refl 0)
theorem f_X12_isGood_bool {s : cS} : f_X12_isGood s = 0 ∨ f_X12_isGood s = 1 := by
  unfold f_X12_isGood
  repeat' split
  all_goals first | exact Or.inl rfl | exact Or.inr rfl
/-! X12_emit -/
def f_X12_emit (a0 : Int32) (a1 : Int32) (s : cS) : Option (Unit × cS) :=
  if (f_X12_isGood s) = 0 then
    some (((), s))
  else
    if inb (iG s 193 32) 160 then
    sb (iS s 212 (iG s 193 32).toNatClampNeg a0) fun s4 =>
    if inb (iG s4 193 32) 160 then
    sb (iS s4 213 (iG s4 193 32).toNatClampNeg a1) fun s6 =>
    sb (iS s6 193 32 ((iG s6 193 32) + (1 : Int32))) fun s7 =>
    some (((), s7))
    else none
    else none
set_option maxRecDepth 20000 in
set_option maxHeartbeats 4000000 in
theorem p_X12_emit {g : pG} {l : Launch} {a0 : Int32} {a1 : Int32} {s : cS} {q : Unit × cS} (h : f_X12_emit a0 a1 s = some q) : PM g l 2 M_X12_emit [.ref 193, .int a0, .int a1] (tS s) none (tS q.2) 0 0 := by
  refine PM.of (by decide +kernel) (Nat.le_of_ble_eq_true rfl) ?_
  show PW g l (pRoom 2 0 0) M_X12_emit _ 0 [(0, .ref 193), (1, .int a0), (2, .int a1)] [] (tS s) 0 0
  unfold f_X12_emit at h
  generalize hF : pE g none (tS q.2) 0 0 = F
  have hx := hF.symm
  refine PW.aload_n 0 0 dX12_emit_0 rfl rfl rfl ?_
  refine CW.callVi (ci := 12) (st := []) [] dX12_emit_1 (p_X12_isGood rfl) MV_X12_isGood mL_X12_201 (by decide) rfl LA_193 rfl rfl (Nat.le_of_ble_eq_true rfl) (by first | decide | omega) ?_
  refine PW.if_ne (tgt := 8) dX12_emit_4 (by decide) (fun c2 => ?_) (fun c2 => ?_)
  · replace h := ifn h c2
    refine PW.aload_n 0 0 dX12_emit_8 rfl rfl rfl ?_
    refine CW.getr dX12_emit_9 fL_X12_65 LA_193 (Or.inr ⟨_, rfl⟩) rfl ?_
    refine PW.aload_n 0 0 dX12_emit_12 rfl rfl rfl ?_
    refine CW.geti dX12_emit_13 fL_X12_205 LA_193 (Or.inl rfl) ?_
    refine PW.iload_n 1 1 dX12_emit_16 rfl rfl ?_
    by_cases c3 : inb (iG s 193 32) 160
    rotate_left
    · have h := ifn h c3; cases h
    replace h := ifp h c3
    refine CW.iast dX12_emit_17 LA_212 c3 ?_
    obtain ⟨s4, es4, h⟩ := sbnd h
    refine PW.sbe es4 ?_
    clear es4
    refine PW.aload_n 0 0 dX12_emit_18 rfl rfl rfl ?_
    refine CW.getr dX12_emit_19 fL_X12_68 LA_193 (Or.inr ⟨_, rfl⟩) rfl ?_
    refine PW.aload_n 0 0 dX12_emit_22 rfl rfl rfl ?_
    refine CW.geti dX12_emit_23 fL_X12_205 LA_193 (Or.inl rfl) ?_
    refine PW.iload_n 2 2 dX12_emit_26 rfl rfl ?_
    by_cases c5 : inb (iG s4 193 32) 160
    rotate_left
    · have h := ifn h c5; cases h
    replace h := ifp h c5
    refine CW.iast dX12_emit_27 LA_213 c5 ?_
    obtain ⟨s6, es6, h⟩ := sbnd h
    refine PW.sbe es6 ?_
    clear es6
    refine PW.aload_n 0 0 dX12_emit_28 rfl rfl rfl ?_
    refine PW.dup dX12_emit_29 rfl ?_
    refine CW.geti dX12_emit_30 fL_X12_205 LA_193 (Or.inl rfl) ?_
    refine PW.iconst (v := 1) dX12_emit_33 (by decide) ?_
    refine PW.iadd dX12_emit_34 ?_
    refine CW.puti dX12_emit_35 fL_X12_205 rfl LA_193 rfl ?_
    obtain ⟨s7, es7, h⟩ := sbnd h
    refine PW.sbe es7 ?_
    clear es7
    cases h
    subst hx
    exact PW.vret dX12_emit_38 rfl (Nat.le_refl 0) (Nat.le_refl 0)
  · replace h := ifp h c2
    cases h
    subst hx
    exact PW.vret dX12_emit_7 rfl (Nat.le_refl 0) (Nat.le_refl 0)
/-! X12_top -/
def f_X12_top (s : cS) : Option (Int32 × cS) :=
  if (iG s 193 34) ≤ 0 then
    some (((0 : Int32), s))
  else
    if inb ((iG s 193 34) - (1 : Int32)) 200 then
    some (((iG s 214 ((iG s 193 34) - (1 : Int32)).toNatClampNeg), s))
    else none
set_option maxRecDepth 20000 in
set_option maxHeartbeats 4000000 in
theorem p_X12_top {g : pG} {l : Launch} {s : cS} {q : Int32 × cS} (h : f_X12_top s = some q) : PM g l 1 M_X12_top [.ref 193] (tS s) (some (.int q.1)) (tS q.2) 0 0 := by
  refine PM.of (by decide +kernel) (Nat.le_of_ble_eq_true rfl) ?_
  show PW g l (pRoom 1 0 0) M_X12_top _ 0 [(0, .ref 193)] [] (tS s) 0 0
  unfold f_X12_top at h
  generalize hF : pE g (some (.int q.1)) (tS q.2) 0 0 = F
  have hx := hF.symm
  refine PW.aload_n 0 0 dX12_top_0 rfl rfl rfl ?_
  refine CW.geti dX12_top_1 fL_X12_208 LA_193 (Or.inl rfl) ?_
  refine PW.if_le (tgt := 21) dX12_top_4 (by decide) (fun c1 => ?_) (fun c1 => ?_)
  · replace h := ifp h c1
    refine PW.iconst (v := 0) dX12_top_21 (by decide) ?_
    cases h
    subst hx
    exact PW.iret (v := (0 : Int32)) dX12_top_22 rfl rfl (Nat.le_refl 0) (Nat.le_refl 0)
  · replace h := ifn h c1
    refine PW.aload_n 0 0 dX12_top_7 rfl rfl rfl ?_
    refine CW.getr dX12_top_8 fL_X12_71 LA_193 (Or.inr ⟨_, rfl⟩) rfl ?_
    refine PW.aload_n 0 0 dX12_top_11 rfl rfl rfl ?_
    refine CW.geti dX12_top_12 fL_X12_208 LA_193 (Or.inl rfl) ?_
    refine PW.iconst (v := 1) dX12_top_15 (by decide) ?_
    refine PW.isub dX12_top_16 ?_
    by_cases c2 : inb ((iG s 193 34) - (1 : Int32)) 200
    rotate_left
    · have h := ifn h c2; cases h
    replace h := ifp h c2
    refine CW.iald dX12_top_17 LA_214 c2 ?_
    refine PW.goto (tgt := 22) dX12_top_18 (by decide) ?_
    cases h
    subst hx
    exact PW.iret (v := (iG s 214 ((iG s 193 34) - (1 : Int32)).toNatClampNeg)) dX12_top_22 rfl rfl (Nat.le_refl 0) (Nat.le_refl 0)
/-! X12_puts -/
def f_X12_puts (a0 : Int32) (s : cS) : Option (Unit × cS) :=
  if inb (iG s 193 34) 200 then
  sb (iS s 214 (iG s 193 34).toNatClampNeg a0) fun s2 =>
  sb (iS s2 193 34 ((iG s2 193 34) + (1 : Int32))) fun s3 =>
  sb (iS s3 193 28 ((iG s3 193 28) + (1 : Int32))) fun s4 =>
  some (((), s4))
  else none
set_option maxRecDepth 20000 in
set_option maxHeartbeats 4000000 in
theorem p_X12_puts {g : pG} {l : Launch} {a0 : Int32} {s : cS} {q : Unit × cS} (h : f_X12_puts a0 s = some q) : PM g l 1 M_X12_puts [.ref 193, .int a0] (tS s) none (tS q.2) 0 0 := by
  refine PM.of (by decide +kernel) (Nat.le_of_ble_eq_true rfl) ?_
  show PW g l (pRoom 1 0 0) M_X12_puts _ 0 [(0, .ref 193), (1, .int a0)] [] (tS s) 0 0
  unfold f_X12_puts at h
  generalize hF : pE g none (tS q.2) 0 0 = F
  have hx := hF.symm
  refine PW.aload_n 0 0 dX12_puts_0 rfl rfl rfl ?_
  refine CW.getr dX12_puts_1 fL_X12_71 LA_193 (Or.inr ⟨_, rfl⟩) rfl ?_
  refine PW.aload_n 0 0 dX12_puts_4 rfl rfl rfl ?_
  refine CW.geti dX12_puts_5 fL_X12_208 LA_193 (Or.inl rfl) ?_
  refine PW.iload_n 1 1 dX12_puts_8 rfl rfl ?_
  by_cases c1 : inb (iG s 193 34) 200
  rotate_left
  · have h := ifn h c1; cases h
  replace h := ifp h c1
  refine CW.iast dX12_puts_9 LA_214 c1 ?_
  obtain ⟨s2, es2, h⟩ := sbnd h
  refine PW.sbe es2 ?_
  clear es2
  refine PW.aload_n 0 0 dX12_puts_10 rfl rfl rfl ?_
  refine PW.dup dX12_puts_11 rfl ?_
  refine CW.geti dX12_puts_12 fL_X12_208 LA_193 (Or.inl rfl) ?_
  refine PW.iconst (v := 1) dX12_puts_15 (by decide) ?_
  refine PW.iadd dX12_puts_16 ?_
  refine CW.puti dX12_puts_17 fL_X12_208 rfl LA_193 rfl ?_
  obtain ⟨s3, es3, h⟩ := sbnd h
  refine PW.sbe es3 ?_
  clear es3
  refine PW.aload_n 0 0 dX12_puts_20 rfl rfl rfl ?_
  refine PW.dup dX12_puts_21 rfl ?_
  refine CW.geti dX12_puts_22 fL_X12_192 LA_193 (Or.inl rfl) ?_
  refine PW.iconst (v := 1) dX12_puts_25 (by decide) ?_
  refine PW.iadd dX12_puts_26 ?_
  refine CW.puti dX12_puts_27 fL_X12_192 rfl LA_193 rfl ?_
  obtain ⟨s4, es4, h⟩ := sbnd h
  refine PW.sbe es4 ?_
  clear es4
  cases h
  subst hx
  exact PW.vret dX12_puts_30 rfl (Nat.le_refl 0) (Nat.le_refl 0)
/-! X12_opens -/
def j_X12_opens_18 (s : cS) : Option (Unit × cS) :=
  sb (iS s 193 33 ((iG s 193 33) + (1 : Int32))) fun s2 =>
  ob (f_X12_here s2) fun r3 s4 =>
  ob (f_X12_puts r3 s4) fun r6 s7 =>
  some (((), s7))
set_option maxRecDepth 20000 in
set_option maxHeartbeats 4000000 in
theorem ok_j_X12_opens_18 {g : pG} {l : Launch} {F : pF} {s : cS} {x : (Unit × cS)} (h : j_X12_opens_18 s = some x) (hx : (fun q => F = pE g none (tS q.2) 0 0) x) : PW g l (pRoom 2 0 0) M_X12_opens F 18 [(0, .ref 193)] [] (tS s) 0 0 := by
  unfold j_X12_opens_18 at h
  refine PW.aload_n 0 0 dX12_opens_18 rfl rfl rfl ?_
  refine PW.dup dX12_opens_19 rfl ?_
  refine CW.geti dX12_opens_20 fL_X12_211 LA_193 (Or.inl rfl) ?_
  refine PW.iconst (v := 1) dX12_opens_23 (by decide) ?_
  refine PW.iadd dX12_opens_24 ?_
  refine CW.puti dX12_opens_25 fL_X12_211 rfl LA_193 rfl ?_
  obtain ⟨s2, es2, h⟩ := sbnd h
  refine PW.sbe es2 ?_
  clear es2
  refine PW.aload_n 0 0 dX12_opens_28 rfl rfl rfl ?_
  refine PW.aload_n 0 0 dX12_opens_29 rfl rfl rfl ?_
  obtain ⟨r3, s4, q5, h⟩ := obnd h
  refine CW.callVi (ci := 12) (st := [.ref 193]) [] dX12_opens_30 (p_X12_here q5) MV_X12_here mL_X12_218 (by decide) rfl LA_193 rfl rfl (Nat.le_of_ble_eq_true rfl) (by first | decide | omega) ?_
  obtain ⟨r6, s7, q8, h⟩ := obnd h
  refine CW.callVv (ci := 12) (st := []) [.int r3] dX12_opens_33 (p_X12_puts q8) MV_X12_puts mL_X12_222 (by decide) rfl LA_193 rfl rfl (Nat.le_of_ble_eq_true rfl) (by first | decide | omega) ?_
  cases h
  subst hx
  exact PW.vret dX12_opens_36 rfl (Nat.le_refl 0) (Nat.le_refl 0)
def f_X12_opens (s : cS) : Option (Unit × cS) :=
  if (iG s 193 33) = (6 : Int32) then
    tb (f_X12_wrongs (5 : Int32) (iG s 193 28) s) fun r9 s10 =>
    j_X12_opens_18 s10
  else
    j_X12_opens_18 s
set_option maxRecDepth 20000 in
set_option maxHeartbeats 4000000 in
theorem p_X12_opens {g : pG} {l : Launch} {s : cS} {q : Unit × cS} (h : f_X12_opens s = some q) : PM g l 2 M_X12_opens [.ref 193] (tS s) none (tS q.2) 0 0 := by
  refine PM.of (by decide +kernel) (Nat.le_of_ble_eq_true rfl) ?_
  show PW g l (pRoom 2 0 0) M_X12_opens _ 0 [(0, .ref 193)] [] (tS s) 0 0
  unfold f_X12_opens at h
  generalize hF : pE g none (tS q.2) 0 0 = F
  have hx := hF.symm
  refine PW.aload_n 0 0 dX12_opens_0 rfl rfl rfl ?_
  refine CW.geti dX12_opens_1 fL_X12_211 LA_193 (Or.inl rfl) ?_
  refine PW.bipush (v := 6) dX12_opens_4 (by decide) ?_
  refine PW.icmp_ne (tgt := 18) dX12_opens_6 (by decide) (fun c1 => ?_) (fun c1 => ?_)
  · replace h := ifn h c1
    exact PW.pick [0] rfl (ok_j_X12_opens_18 h hx)
  · replace h := ifp h c1
    refine PW.aload_n 0 0 dX12_opens_9 rfl rfl rfl ?_
    refine PW.iconst (v := 5) dX12_opens_10 (by decide) ?_
    refine PW.aload_n 0 0 dX12_opens_11 rfl rfl rfl ?_
    refine CW.geti dX12_opens_12 fL_X12_192 LA_193 (Or.inl rfl) ?_
    obtain ⟨r9, s10, q11, h⟩ := tbnd h
    refine CW.callVv (ci := 12) (st := []) [.int (5 : Int32), .int (iG s 193 28)] dX12_opens_15 (p_X12_wrongs q11) MV_X12_wrongs mL_X12_214 (by decide) rfl LA_193 rfl rfl (Nat.le_of_ble_eq_true rfl) (by first | decide | omega) ?_
    exact PW.pick [0] rfl (ok_j_X12_opens_18 h hx)
/-! X12_seesDigit -/
def f_X12_seesDigit (s : cS) : Option (Int32 × cS) :=
  ob (f_X12_here s) fun r1 s2 =>
  some (((lIn r1.toInt64 (48 : Int64) (57 : Int64)), s2))
set_option maxRecDepth 20000 in
set_option maxHeartbeats 4000000 in
theorem p_X12_seesDigit {g : pG} {l : Launch} {s : cS} {q : Int32 × cS} (h : f_X12_seesDigit s = some q) : PM g l 2 M_X12_seesDigit [.ref 193] (tS s) (some (.int q.1)) (tS q.2) 0 0 := by
  refine PM.of (by decide +kernel) (Nat.le_of_ble_eq_true rfl) ?_
  show PW g l (pRoom 2 0 0) M_X12_seesDigit _ 0 [(0, .ref 193)] [] (tS s) 0 0
  unfold f_X12_seesDigit at h
  generalize hF : pE g (some (.int q.1)) (tS q.2) 0 0 = F
  have hx := hF.symm
  refine PW.aload_n 0 0 dX12_seesDigit_0 rfl rfl rfl ?_
  obtain ⟨r1, s2, q3, h⟩ := obnd h
  refine CW.callVi (ci := 12) (st := []) [] dX12_seesDigit_1 (p_X12_here q3) MV_X12_here mL_X12_218 (by decide) rfl LA_193 rfl rfl (Nat.le_of_ble_eq_true rfl) (by first | decide | omega) ?_
  refine PW.i2l dX12_seesDigit_4 ?_
  refine PW.ldc2_w dX12_seesDigit_5 kL_X12_225 ?_
  refine PW.ldc2_w dX12_seesDigit_8 kL_X12_227 ?_
  refine CW.callSi (st := []) [.long r1.toInt64, .long (48 : Int64), .long (57 : Int64)] dX12_seesDigit_11 (ps_isIn rfl) MS_X12_isIn mL_X12_164 rfl rfl (Nat.le_of_ble_eq_true rfl) (by first | decide | omega) ?_
  cases h
  subst hx
  exact PW.iret (v := (lIn r1.toInt64 (48 : Int64) (57 : Int64))) dX12_seesDigit_14 rfl (narZ (lIn_bool _ _ _)) (Nat.le_refl 0) (Nat.le_refl 0)
/-! X12_reads -/
def j_X12_reads_40 (x1 : Int32) (x2 : Int32) (s : cS) : Option ((Int32 × cS) ⊕ (Int32 × cS)) :=
  ob (f_X12_here s) fun r8 s9 =>
  sb (iS s9 193 28 ((iG s9 193 28) + (1 : Int32))) fun s11 =>
  some (.inl (((((10 : Int32) * x2) + r8) - (48 : Int32)), s11))
set_option maxRecDepth 20000 in
set_option maxHeartbeats 4000000 in
theorem ok_j_X12_reads_40 {g : pG} {l : Launch} {F : pF} {x1 : Int32} {x2 : Int32} {s : cS} {x : ((Int32 × cS) ⊕ (Int32 × cS))} (h : j_X12_reads_40 x1 x2 s = some x) (hx : (KL (fun (v : Int32 × cS) => PW g l (pRoom 3 0 0) M_X12_reads F 7 [(0, .ref 193), (1, .int x1), (2, .int v.1)] [] (tS v.2) 0 0) (fun q => F = pE g (some (.int q.1)) (tS q.2) 0 0)) x) : PW g l (pRoom 3 0 0) M_X12_reads F 40 [(0, .ref 193), (1, .int x1), (2, .int x2)] [] (tS s) 0 0 := by
  unfold j_X12_reads_40 at h
  refine PW.bipush (v := 10) dX12_reads_40 (by decide) ?_
  refine PW.iload_n 2 2 dX12_reads_42 rfl rfl ?_
  refine PW.imul dX12_reads_43 ?_
  refine PW.aload_n 0 0 dX12_reads_44 rfl rfl rfl ?_
  obtain ⟨r8, s9, q10, h⟩ := obnd h
  refine CW.callVi (ci := 12) (st := [.int ((10 : Int32) * x2)]) [] dX12_reads_45 (p_X12_here q10) MV_X12_here mL_X12_218 (by decide) rfl LA_193 rfl rfl (Nat.le_of_ble_eq_true rfl) (by first | decide | omega) ?_
  refine PW.iadd dX12_reads_48 ?_
  refine PW.bipush (v := 48) dX12_reads_49 (by decide) ?_
  refine PW.isub dX12_reads_51 ?_
  refine PW.istore_n dX12_reads_52 rfl (Nat.le_of_ble_eq_true rfl) rfl ?_
  refine PW.aload_n 1 0 dX12_reads_53 rfl rfl rfl ?_
  refine PW.dup dX12_reads_54 rfl ?_
  refine CW.geti dX12_reads_55 fL_X12_192 LA_193 (Or.inl rfl) ?_
  refine PW.iconst (v := 1) dX12_reads_58 (by decide) ?_
  refine PW.iadd dX12_reads_59 ?_
  refine CW.puti dX12_reads_60 fL_X12_192 rfl LA_193 rfl ?_
  obtain ⟨s11, es11, h⟩ := sbnd h
  refine PW.sbe es11 ?_
  clear es11
  refine PW.goto (tgt := 7) dX12_reads_63 (by decide) ?_
  cases h
  exact PW.pick [1, 2, 0] rfl hx
def b_X12_reads_7 (x1 : Int32) (x2 : Int32) (s : cS) : Option ((Int32 × cS) ⊕ (Int32 × cS)) :=
  if (f_X12_isGood s) = 0 then
    oR (
      some ((x2, s)))
  else
    ob (f_X12_seesDigit s) fun r3 s4 =>
    if r3 = 0 then
      oR (
        some ((x2, s4)))
    else
      if (iG s4 193 28) = (x1 + (5 : Int32)) then
        tb (f_X12_wrongs (2 : Int32) (iG s4 193 28) s4) fun r12 s13 =>
        j_X12_reads_40 x1 x2 s13
      else
        j_X12_reads_40 x1 x2 s4
set_option maxRecDepth 20000 in
set_option maxHeartbeats 4000000 in
theorem ok_b_X12_reads_7 {g : pG} {l : Launch} {F : pF} {x1 : Int32} {x2 : Int32} {s : cS} {x : ((Int32 × cS) ⊕ (Int32 × cS))} (h : b_X12_reads_7 x1 x2 s = some x) (hx : (KL (fun (v : Int32 × cS) => PW g l (pRoom 3 0 0) M_X12_reads F 7 [(0, .ref 193), (1, .int x1), (2, .int v.1)] [] (tS v.2) 0 0) (fun q => F = pE g (some (.int q.1)) (tS q.2) 0 0)) x) : PW g l (pRoom 3 0 0) M_X12_reads F 7 [(0, .ref 193), (1, .int x1), (2, .int x2)] [] (tS s) 0 0 := by
  unfold b_X12_reads_7 at h
  refine PW.aload_n 0 0 dX12_reads_7 rfl rfl rfl ?_
  refine CW.callVi (ci := 12) (st := []) [] dX12_reads_8 (p_X12_isGood rfl) MV_X12_isGood mL_X12_201 (by decide) rfl LA_193 rfl rfl (Nat.le_of_ble_eq_true rfl) (by first | decide | omega) ?_
  refine PW.if_eq (tgt := 66) dX12_reads_11 (by decide) (fun c2 => ?_) (fun c2 => ?_)
  · replace h := ifp h c2
    obtain ⟨xo, hy, hxo⟩ := oRb h
    clear h
    subst hxo
    replace hx := KLr hx
    have h := hy
    clear hy
    refine PW.iload_n 2 2 dX12_reads_66 rfl rfl ?_
    cases h
    subst hx
    exact PW.iret (v := x2) dX12_reads_67 rfl rfl (Nat.le_refl 0) (Nat.le_refl 0)
  · replace h := ifn h c2
    refine PW.aload_n 0 0 dX12_reads_14 rfl rfl rfl ?_
    obtain ⟨r3, s4, q5, h⟩ := obnd h
    refine CW.callVi (ci := 12) (st := []) [] dX12_reads_15 (p_X12_seesDigit q5) MV_X12_seesDigit mL_X12_229 (by decide) rfl LA_193 rfl rfl (Nat.le_of_ble_eq_true rfl) (by first | decide | omega) ?_
    refine PW.if_eq (tgt := 66) dX12_reads_18 (by decide) (fun c6 => ?_) (fun c6 => ?_)
    · replace h := ifp h c6
      obtain ⟨xo, hy, hxo⟩ := oRb h
      clear h
      subst hxo
      replace hx := KLr hx
      have h := hy
      clear hy
      refine PW.iload_n 2 2 dX12_reads_66 rfl rfl ?_
      cases h
      subst hx
      exact PW.iret (v := x2) dX12_reads_67 rfl rfl (Nat.le_refl 0) (Nat.le_refl 0)
    · replace h := ifn h c6
      refine PW.aload_n 0 0 dX12_reads_21 rfl rfl rfl ?_
      refine CW.geti dX12_reads_22 fL_X12_192 LA_193 (Or.inl rfl) ?_
      refine PW.iload_n 1 1 dX12_reads_25 rfl rfl ?_
      refine PW.iconst (v := 5) dX12_reads_26 (by decide) ?_
      refine PW.iadd dX12_reads_27 ?_
      refine PW.icmp_ne (tgt := 40) dX12_reads_28 (by decide) (fun c7 => ?_) (fun c7 => ?_)
      · replace h := ifn h c7
        exact PW.pick [0, 1, 2] rfl (ok_j_X12_reads_40 h hx)
      · replace h := ifp h c7
        refine PW.aload_n 0 0 dX12_reads_31 rfl rfl rfl ?_
        refine PW.iconst (v := 2) dX12_reads_32 (by decide) ?_
        refine PW.aload_n 0 0 dX12_reads_33 rfl rfl rfl ?_
        refine CW.geti dX12_reads_34 fL_X12_192 LA_193 (Or.inl rfl) ?_
        obtain ⟨r12, s13, q14, h⟩ := tbnd h
        refine CW.callVv (ci := 12) (st := []) [.int (2 : Int32), .int (iG s4 193 28)] dX12_reads_37 (p_X12_wrongs q14) MV_X12_wrongs mL_X12_214 (by decide) rfl LA_193 rfl rfl (Nat.le_of_ble_eq_true rfl) (by first | decide | omega) ?_
        exact PW.pick [0, 1, 2] rfl (ok_j_X12_reads_40 h hx)
def w_X12_reads_7 (N : Nat) (x1 : Int32) (x2 : Int32) (s : cS) : Option (Int32 × cS) := itr (fun (v : Int32 × cS) => b_X12_reads_7 x1 v.1 v.2) N (x2, s)
theorem ok_w_X12_reads_7 {g : pG} {l : Launch} {F : pF} {N : Nat} {x1 : Int32} {x2 : Int32} {s : cS} {x : (Int32 × cS)} (h : w_X12_reads_7 N x1 x2 s = some x) (hx : (fun q => F = pE g (some (.int q.1)) (tS q.2) 0 0) x) : PW g l (pRoom 3 0 0) M_X12_reads F 7 [(0, .ref 193), (1, .int x1), (2, .int x2)] [] (tS s) 0 0 :=
  okIter (P := (fun (v : Int32 × cS) => PW g l (pRoom 3 0 0) M_X12_reads F 7 [(0, .ref 193), (1, .int x1), (2, .int v.1)] [] (tS v.2) 0 0)) (K := (fun q => F = pE g (some (.int q.1)) (tS q.2) 0 0)) (fun v y hB hy => ok_b_X12_reads_7 hB hy) N (x2, s) x h hx
def f_X12_reads (N : Nat) (s : cS) : Option (Int32 × cS) :=
  w_X12_reads_7 N (iG s 193 28) (0 : Int32) s
set_option maxRecDepth 20000 in
set_option maxHeartbeats 4000000 in
theorem p_X12_reads {g : pG} {l : Launch} {N : Nat} {s : cS} {q : Int32 × cS} (h : f_X12_reads N s = some q) : PM g l 3 M_X12_reads [.ref 193] (tS s) (some (.int q.1)) (tS q.2) 0 0 := by
  refine PM.of (by decide +kernel) (Nat.le_of_ble_eq_true rfl) ?_
  show PW g l (pRoom 3 0 0) M_X12_reads _ 0 [(0, .ref 193)] [] (tS s) 0 0
  unfold f_X12_reads at h
  generalize hF : pE g (some (.int q.1)) (tS q.2) 0 0 = F
  have hx := hF.symm
  refine PW.aload_n 0 0 dX12_reads_0 rfl rfl rfl ?_
  refine CW.geti dX12_reads_1 fL_X12_192 LA_193 (Or.inl rfl) ?_
  refine PW.istore_n dX12_reads_4 rfl (Nat.le_of_ble_eq_true rfl) rfl ?_
  refine PW.iconst (v := 0) dX12_reads_5 (by decide) ?_
  refine PW.istore_n dX12_reads_6 rfl (Nat.le_of_ble_eq_true rfl) rfl ?_
  exact PW.pick [2, 1, 0] rfl (ok_w_X12_reads_7 h hx)
/-! X12_isTimes -/
def f_X12_isTimes (a0 : Int32) (s : cS) : Int32 :=
  if a0 = (42 : Int32) then
    (1 : Int32)
  else
    if a0 = (47 : Int32) then
      (1 : Int32)
    else
      if a0 = (37 : Int32) then
        (1 : Int32)
      else
        (0 : Int32)
set_option maxRecDepth 20000 in
set_option maxHeartbeats 4000000 in
theorem p_X12_isTimes {g : pG} {l : Launch} {a0 : Int32} {s : cS} {q : Int32} (h : f_X12_isTimes a0 s = q) : PM g l 1 M_X12_isTimes [.int a0] (tS s) (some (.int q)) (tS s) 0 0 := by
  refine PM.of (by decide +kernel) (Nat.le_of_ble_eq_true rfl) ?_
  show PW g l (pRoom 1 0 0) M_X12_isTimes _ 0 [(0, .int a0)] [] (tS s) 0 0
  unfold f_X12_isTimes at h
  generalize hF : pE g (some (.int q)) (tS s) 0 0 = F
  have hx := hF.symm
  refine PW.iload_n 0 0 dX12_isTimes_0 rfl rfl ?_
  refine PW.bipush (v := 42) dX12_isTimes_1 (by decide) ?_
  refine PW.icmp_eq (tgt := 18) dX12_isTimes_3 (by decide) (fun c1 => ?_) (fun c1 => ?_)
  · replace h := ifp h c1
    refine PW.iconst (v := 1) dX12_isTimes_18 (by decide) ?_
    refine PW.goto (tgt := 23) dX12_isTimes_19 (by decide) ?_
    cases h
    subst hx
    exact PW.iret (v := (1 : Int32)) dX12_isTimes_23 rfl (narZ (Or.inr rfl)) (Nat.le_refl 0) (Nat.le_refl 0)
  · replace h := ifn h c1
    refine PW.iload_n 0 0 dX12_isTimes_6 rfl rfl ?_
    refine PW.bipush (v := 47) dX12_isTimes_7 (by decide) ?_
    refine PW.icmp_eq (tgt := 18) dX12_isTimes_9 (by decide) (fun c2 => ?_) (fun c2 => ?_)
    · replace h := ifp h c2
      refine PW.iconst (v := 1) dX12_isTimes_18 (by decide) ?_
      refine PW.goto (tgt := 23) dX12_isTimes_19 (by decide) ?_
      cases h
      subst hx
      exact PW.iret (v := (1 : Int32)) dX12_isTimes_23 rfl (narZ (Or.inr rfl)) (Nat.le_refl 0) (Nat.le_refl 0)
    · replace h := ifn h c2
      refine PW.iload_n 0 0 dX12_isTimes_12 rfl rfl ?_
      refine PW.bipush (v := 37) dX12_isTimes_13 (by decide) ?_
      refine PW.icmp_ne (tgt := 22) dX12_isTimes_15 (by decide) (fun c3 => ?_) (fun c3 => ?_)
      · replace h := ifn h c3
        refine PW.iconst (v := 0) dX12_isTimes_22 (by decide) ?_
        cases h
        subst hx
        exact PW.iret (v := (0 : Int32)) dX12_isTimes_23 rfl (narZ (Or.inl rfl)) (Nat.le_refl 0) (Nat.le_refl 0)
      · replace h := ifp h c3
        refine PW.iconst (v := 1) dX12_isTimes_18 (by decide) ?_
        refine PW.goto (tgt := 23) dX12_isTimes_19 (by decide) ?_
        cases h
        subst hx
        exact PW.iret (v := (1 : Int32)) dX12_isTimes_23 rfl (narZ (Or.inr rfl)) (Nat.le_refl 0) (Nat.le_refl 0)
theorem f_X12_isTimes_bool {a0 : Int32} {s : cS} : f_X12_isTimes a0 s = 0 ∨ f_X12_isTimes a0 s = 1 := by
  unfold f_X12_isTimes
  repeat' split
  all_goals first | exact Or.inl rfl | exact Or.inr rfl
