/-! X12_does -/
def j_X12_does_42 (x2 : Int32) (x3 : Int32) (y0 : Int32) (y1 : Int32) (s : cS) : Option (Unit × cS) :=
  if y0 = y1 then
    if inb x3 200 then
    if inb x2 200 then
    sb (iS s 215 x2.toNatClampNeg (iG s 215 x3.toNatClampNeg)) fun s8 =>
    if (iG s8 216 x3.toNatClampNeg) = 0 ∨ (iG s8 216 x3.toNatClampNeg) = 1 then
    sb (iS s8 216 x2.toNatClampNeg (iG s8 216 x3.toNatClampNeg)) fun s10 =>
    some (((), s10))
    else none
    else none
    else none
  else
    some (((), s))
set_option maxRecDepth 20000 in
set_option maxHeartbeats 4000000 in
theorem ok_j_X12_does_42 {g : pG} {l : Launch} {F : pF} {x2 : Int32} {x3 : Int32} {y0 : Int32} {y1 : Int32} {s : cS} {x : (Unit × cS)} (h : j_X12_does_42 x2 x3 y0 y1 s = some x) (hx : (fun q => F = pE g none (tS q.2) 0 0) x) : PW g l (pRoom 2 0 0) M_X12_does F 42 [(0, .ref 193), (2, .int x2), (3, .int x3)] [.int y1, .int y0] (tS s) 0 0 := by
  unfold j_X12_does_42 at h
  refine PW.icmp_eq (tgt := 46) dX12_does_42 (by decide) (fun c5 => ?_) (fun c5 => ?_)
  · replace h := ifp h c5
    refine PW.aload_n 0 0 dX12_does_46 rfl rfl rfl ?_
    refine CW.getr dX12_does_47 fL_X12_74 LA_193 (Or.inr ⟨_, rfl⟩) rfl ?_
    refine PW.iload_n 1 2 dX12_does_50 rfl rfl ?_
    refine PW.aload_n 0 0 dX12_does_51 rfl rfl rfl ?_
    refine CW.getr dX12_does_52 fL_X12_74 LA_193 (Or.inr ⟨_, rfl⟩) rfl ?_
    refine PW.iload_n 2 3 dX12_does_55 rfl rfl ?_
    by_cases c6 : inb x3 200
    rotate_left
    · have h := ifn h c6; cases h
    replace h := ifp h c6
    refine CW.iald dX12_does_56 LA_215 c6 ?_
    by_cases c7 : inb x2 200
    rotate_left
    · have h := ifn h c7; cases h
    replace h := ifp h c7
    refine CW.iast dX12_does_57 LA_215 c7 ?_
    obtain ⟨s8, es8, h⟩ := sbnd h
    refine PW.sbe es8 ?_
    clear es8
    refine PW.aload_n 0 0 dX12_does_58 rfl rfl rfl ?_
    refine CW.getr dX12_does_59 fL_X12_77 LA_193 (Or.inr ⟨_, rfl⟩) rfl ?_
    refine PW.iload_n 1 2 dX12_does_62 rfl rfl ?_
    refine PW.aload_n 0 0 dX12_does_63 rfl rfl rfl ?_
    refine CW.getr dX12_does_64 fL_X12_77 LA_193 (Or.inr ⟨_, rfl⟩) rfl ?_
    refine PW.iload_n 2 3 dX12_does_67 rfl rfl ?_
    refine CW.zald dX12_does_68 LA_216 c6 ?_
    by_cases c9 : (iG s8 216 x3.toNatClampNeg) = 0 ∨ (iG s8 216 x3.toNatClampNeg) = 1
    rotate_left
    · have h := ifn h c9; cases h
    replace h := ifp h c9
    refine CW.zast dX12_does_69 LA_216 c7 c9 ?_
    obtain ⟨s10, es10, h⟩ := sbnd h
    refine PW.sbe es10 ?_
    clear es10
    cases h
    subst hx
    exact PW.vret dX12_does_70 rfl (Nat.le_refl 0) (Nat.le_refl 0)
  · replace h := ifn h c5
    cases h
    subst hx
    exact PW.vret dX12_does_45 rfl (Nat.le_refl 0) (Nat.le_refl 0)
def j_X12_does_16 (x1 : Int32) (x2 : Int32) (x3 : Int32) (s : cS) : Option (Unit × cS) :=
  if inb x2 200 then
  if (iG s 216 x2.toNatClampNeg) = 0 then
    if x1 = (38 : Int32) then
      j_X12_does_42 x2 x3 (iG s 215 x2.toNatClampNeg) (1 : Int32) s
    else
      j_X12_does_42 x2 x3 (iG s 215 x2.toNatClampNeg) (0 : Int32) s
  else
    some (((), s))
  else none
set_option maxRecDepth 20000 in
set_option maxHeartbeats 4000000 in
theorem ok_j_X12_does_16 {g : pG} {l : Launch} {F : pF} {x1 : Int32} {x2 : Int32} {x3 : Int32} {s : cS} {x : (Unit × cS)} (h : j_X12_does_16 x1 x2 x3 s = some x) (hx : (fun q => F = pE g none (tS q.2) 0 0) x) : PW g l (pRoom 2 0 0) M_X12_does F 16 [(0, .ref 193), (1, .int x1), (2, .int x2), (3, .int x3)] [] (tS s) 0 0 := by
  unfold j_X12_does_16 at h
  refine PW.aload_n 0 0 dX12_does_16 rfl rfl rfl ?_
  refine CW.getr dX12_does_17 fL_X12_77 LA_193 (Or.inr ⟨_, rfl⟩) rfl ?_
  refine PW.iload_n 2 2 dX12_does_20 rfl rfl ?_
  by_cases c2 : inb x2 200
  rotate_left
  · have h := ifn h c2; cases h
  replace h := ifp h c2
  refine CW.zald dX12_does_21 LA_216 c2 ?_
  refine PW.if_ne (tgt := 45) dX12_does_22 (by decide) (fun c3 => ?_) (fun c3 => ?_)
  · replace h := ifn h c3
    cases h
    subst hx
    exact PW.vret dX12_does_45 rfl (Nat.le_refl 0) (Nat.le_refl 0)
  · replace h := ifp h c3
    refine PW.aload_n 0 0 dX12_does_25 rfl rfl rfl ?_
    refine CW.getr dX12_does_26 fL_X12_74 LA_193 (Or.inr ⟨_, rfl⟩) rfl ?_
    refine PW.iload_n 2 2 dX12_does_29 rfl rfl ?_
    refine CW.iald dX12_does_30 LA_215 c2 ?_
    refine PW.iload_n 1 1 dX12_does_31 rfl rfl ?_
    refine PW.bipush (v := 38) dX12_does_32 (by decide) ?_
    refine PW.icmp_ne (tgt := 41) dX12_does_34 (by decide) (fun c4 => ?_) (fun c4 => ?_)
    · replace h := ifn h c4
      refine PW.iconst (v := 0) dX12_does_41 (by decide) ?_
      exact PW.pick [0, 2, 3] rfl (ok_j_X12_does_42 h hx)
    · replace h := ifp h c4
      refine PW.iconst (v := 1) dX12_does_37 (by decide) ?_
      refine PW.goto (tgt := 42) dX12_does_38 (by decide) ?_
      exact PW.pick [0, 2, 3] rfl (ok_j_X12_does_42 h hx)
def j_X12_does_120 (x1 : Int32) (x2 : Int32) (x3 : Int32) (y1 : Int32) (y2 : Int32) (s : cS) : Option (Unit × cS) :=
  if inb y1 200 then
  if y2 = 0 ∨ y2 = 1 then
  sb (iS s 216 y1.toNatClampNeg y2) fun s16 =>
  if inb x2 200 then
  if inb x3 200 then
  sb (iS s16 215 x2.toNatClampNeg (f_X12_worked x1 (iG s16 215 x2.toNatClampNeg) (iG s16 215 x3.toNatClampNeg) s16)) fun s20 =>
  some (((), s20))
  else none
  else none
  else none
  else none
set_option maxRecDepth 20000 in
set_option maxHeartbeats 4000000 in
theorem ok_j_X12_does_120 {g : pG} {l : Launch} {F : pF} {x1 : Int32} {x2 : Int32} {x3 : Int32} {y1 : Int32} {y2 : Int32} {s : cS} {x : (Unit × cS)} (h : j_X12_does_120 x1 x2 x3 y1 y2 s = some x) (hx : (fun q => F = pE g none (tS q.2) 0 0) x) : PW g l (pRoom 2 0 0) M_X12_does F 120 [(0, .ref 193), (1, .int x1), (2, .int x2), (3, .int x3)] [.int y2, .int y1, .ref 216] (tS s) 0 0 := by
  unfold j_X12_does_120 at h
  by_cases c14 : inb y1 200
  rotate_left
  · have h := ifn h c14; cases h
  replace h := ifp h c14
  by_cases c15 : y2 = 0 ∨ y2 = 1
  rotate_left
  · have h := ifn h c15; cases h
  replace h := ifp h c15
  refine CW.zast dX12_does_120 LA_216 c14 c15 ?_
  obtain ⟨s16, es16, h⟩ := sbnd h
  refine PW.sbe es16 ?_
  clear es16
  refine PW.aload_n 0 0 dX12_does_121 rfl rfl rfl ?_
  refine CW.getr dX12_does_122 fL_X12_74 LA_193 (Or.inr ⟨_, rfl⟩) rfl ?_
  refine PW.iload_n 2 2 dX12_does_125 rfl rfl ?_
  refine PW.iload_n 1 1 dX12_does_126 rfl rfl ?_
  refine PW.aload_n 0 0 dX12_does_127 rfl rfl rfl ?_
  refine CW.getr dX12_does_128 fL_X12_74 LA_193 (Or.inr ⟨_, rfl⟩) rfl ?_
  refine PW.iload_n 2 2 dX12_does_131 rfl rfl ?_
  by_cases c17 : inb x2 200
  rotate_left
  · have h := ifn h c17; cases h
  replace h := ifp h c17
  refine CW.iald dX12_does_132 LA_215 c17 ?_
  refine PW.aload_n 0 0 dX12_does_133 rfl rfl rfl ?_
  refine CW.getr dX12_does_134 fL_X12_74 LA_193 (Or.inr ⟨_, rfl⟩) rfl ?_
  refine PW.iload_n 3 3 dX12_does_137 rfl rfl ?_
  by_cases c18 : inb x3 200
  rotate_left
  · have h := ifn h c18; cases h
  replace h := ifp h c18
  refine CW.iald dX12_does_138 LA_215 c18 ?_
  refine CW.callSi (st := [.int x2, .ref 215]) [.int x1, .int (iG s16 215 x2.toNatClampNeg), .int (iG s16 215 x3.toNatClampNeg)] dX12_does_139 (p_X12_worked rfl) MS_X12_worked mL_X12_323 rfl rfl (Nat.le_of_ble_eq_true rfl) (by first | decide | omega) ?_
  refine CW.iast dX12_does_142 LA_215 c17 ?_
  obtain ⟨s20, es20, h⟩ := sbnd h
  refine PW.sbe es20 ?_
  clear es20
  cases h
  subst hx
  exact PW.vret dX12_does_143 rfl (Nat.le_refl 0) (Nat.le_refl 0)
def j_X12_does_115 (x1 : Int32) (x2 : Int32) (x3 : Int32) (y1 : Int32) (s : cS) : Option (Unit × cS) :=
  j_X12_does_120 x1 x2 x3 y1 (1 : Int32) s
set_option maxRecDepth 20000 in
set_option maxHeartbeats 4000000 in
theorem ok_j_X12_does_115 {g : pG} {l : Launch} {F : pF} {x1 : Int32} {x2 : Int32} {x3 : Int32} {y1 : Int32} {s : cS} {x : (Unit × cS)} (h : j_X12_does_115 x1 x2 x3 y1 s = some x) (hx : (fun q => F = pE g none (tS q.2) 0 0) x) : PW g l (pRoom 2 0 0) M_X12_does F 115 [(0, .ref 193), (1, .int x1), (2, .int x2), (3, .int x3)] [.int y1, .ref 216] (tS s) 0 0 := by
  unfold j_X12_does_115 at h
  refine PW.iconst (v := 1) dX12_does_115 (by decide) ?_
  refine PW.goto (tgt := 120) dX12_does_116 (by decide) ?_
  exact PW.pick [0, 1, 2, 3] rfl (ok_j_X12_does_120 h hx)
def j_X12_does_119 (x1 : Int32) (x2 : Int32) (x3 : Int32) (y1 : Int32) (s : cS) : Option (Unit × cS) :=
  j_X12_does_120 x1 x2 x3 y1 (0 : Int32) s
set_option maxRecDepth 20000 in
set_option maxHeartbeats 4000000 in
theorem ok_j_X12_does_119 {g : pG} {l : Launch} {F : pF} {x1 : Int32} {x2 : Int32} {x3 : Int32} {y1 : Int32} {s : cS} {x : (Unit × cS)} (h : j_X12_does_119 x1 x2 x3 y1 s = some x) (hx : (fun q => F = pE g none (tS q.2) 0 0) x) : PW g l (pRoom 2 0 0) M_X12_does F 119 [(0, .ref 193), (1, .int x1), (2, .int x2), (3, .int x3)] [.int y1, .ref 216] (tS s) 0 0 := by
  unfold j_X12_does_119 at h
  refine PW.iconst (v := 0) dX12_does_119 (by decide) ?_
  exact PW.pick [0, 1, 2, 3] rfl (ok_j_X12_does_120 h hx)
def j_X12_does_106 (x1 : Int32) (x2 : Int32) (x3 : Int32) (y1 : Int32) (s : cS) : Option (Unit × cS) :=
  if inb x3 200 then
  if (iG s 215 x3.toNatClampNeg) = 0 then
    j_X12_does_115 x1 x2 x3 y1 s
  else
    j_X12_does_119 x1 x2 x3 y1 s
  else none
set_option maxRecDepth 20000 in
set_option maxHeartbeats 4000000 in
theorem ok_j_X12_does_106 {g : pG} {l : Launch} {F : pF} {x1 : Int32} {x2 : Int32} {x3 : Int32} {y1 : Int32} {s : cS} {x : (Unit × cS)} (h : j_X12_does_106 x1 x2 x3 y1 s = some x) (hx : (fun q => F = pE g none (tS q.2) 0 0) x) : PW g l (pRoom 2 0 0) M_X12_does F 106 [(0, .ref 193), (1, .int x1), (2, .int x2), (3, .int x3)] [.int y1, .ref 216] (tS s) 0 0 := by
  unfold j_X12_does_106 at h
  refine PW.aload_n 0 0 dX12_does_106 rfl rfl rfl ?_
  refine CW.getr dX12_does_107 fL_X12_74 LA_193 (Or.inr ⟨_, rfl⟩) rfl ?_
  refine PW.iload_n 3 3 dX12_does_110 rfl rfl ?_
  by_cases c24 : inb x3 200
  rotate_left
  · have h := ifn h c24; cases h
  replace h := ifp h c24
  refine CW.iald dX12_does_111 LA_215 c24 ?_
  refine PW.if_ne (tgt := 119) dX12_does_112 (by decide) (fun c25 => ?_) (fun c25 => ?_)
  · replace h := ifn h c25
    exact PW.pick [0, 1, 2, 3] rfl (ok_j_X12_does_119 h hx)
  · replace h := ifp h c25
    exact PW.pick [0, 1, 2, 3] rfl (ok_j_X12_does_115 h hx)
def f_X12_does (a0 : Int32) (a1 : Int32) (s : cS) : Option (Unit × cS) :=
  if a0 = (38 : Int32) then
    j_X12_does_16 a0 a1 (a1 + (1 : Int32)) s
  else
    if a0 = (124 : Int32) then
      j_X12_does_16 a0 a1 (a1 + (1 : Int32)) s
    else
      if inb a1 200 then
      if (iG s 216 a1.toNatClampNeg) = 0 then
        if inb (a1 + (1 : Int32)) 200 then
        if (iG s 216 (a1 + (1 : Int32)).toNatClampNeg) = 0 then
          if a0 = (47 : Int32) then
            j_X12_does_106 a0 a1 (a1 + (1 : Int32)) a1 s
          else
            if a0 = (37 : Int32) then
              j_X12_does_106 a0 a1 (a1 + (1 : Int32)) a1 s
            else
              j_X12_does_119 a0 a1 (a1 + (1 : Int32)) a1 s
        else
          j_X12_does_115 a0 a1 (a1 + (1 : Int32)) a1 s
        else none
      else
        j_X12_does_115 a0 a1 (a1 + (1 : Int32)) a1 s
      else none
set_option maxRecDepth 20000 in
set_option maxHeartbeats 4000000 in
theorem p_X12_does {g : pG} {l : Launch} {a0 : Int32} {a1 : Int32} {s : cS} {q : Unit × cS} (h : f_X12_does a0 a1 s = some q) : PM g l 2 M_X12_does [.ref 193, .int a0, .int a1] (tS s) none (tS q.2) 0 0 := by
  refine PM.of (by decide +kernel) (Nat.le_of_ble_eq_true rfl) ?_
  show PW g l (pRoom 2 0 0) M_X12_does _ 0 [(0, .ref 193), (1, .int a0), (2, .int a1)] [] (tS s) 0 0
  unfold f_X12_does at h
  generalize hF : pE g none (tS q.2) 0 0 = F
  have hx := hF.symm
  refine PW.iload_n 2 2 dX12_does_0 rfl rfl ?_
  refine PW.iconst (v := 1) dX12_does_1 (by decide) ?_
  refine PW.iadd dX12_does_2 ?_
  refine PW.istore_n dX12_does_3 rfl (Nat.le_of_ble_eq_true rfl) rfl ?_
  refine PW.iload_n 2 1 dX12_does_4 rfl rfl ?_
  refine PW.bipush (v := 38) dX12_does_5 (by decide) ?_
  refine PW.icmp_eq (tgt := 16) dX12_does_7 (by decide) (fun c1 => ?_) (fun c1 => ?_)
  · replace h := ifp h c1
    exact PW.pick [1, 2, 3, 0] rfl (ok_j_X12_does_16 h hx)
  · replace h := ifn h c1
    refine PW.iload_n 2 1 dX12_does_10 rfl rfl ?_
    refine PW.bipush (v := 124) dX12_does_11 (by decide) ?_
    refine PW.icmp_ne (tgt := 71) dX12_does_13 (by decide) (fun c11 => ?_) (fun c11 => ?_)
    · replace h := ifn h c11
      refine PW.aload_n 1 0 dX12_does_71 rfl rfl rfl ?_
      refine CW.getr dX12_does_72 fL_X12_77 LA_193 (Or.inr ⟨_, rfl⟩) rfl ?_
      refine PW.iload_n 3 2 dX12_does_75 rfl rfl ?_
      refine PW.aload_n 1 0 dX12_does_76 rfl rfl rfl ?_
      refine CW.getr dX12_does_77 fL_X12_77 LA_193 (Or.inr ⟨_, rfl⟩) rfl ?_
      refine PW.iload_n 3 2 dX12_does_80 rfl rfl ?_
      by_cases c12 : inb a1 200
      rotate_left
      · have h := ifn h c12; cases h
      replace h := ifp h c12
      refine CW.zald dX12_does_81 LA_216 c12 ?_
      refine PW.if_ne (tgt := 115) dX12_does_82 (by decide) (fun c13 => ?_) (fun c13 => ?_)
      · replace h := ifn h c13
        exact PW.pick [1, 2, 3, 0] rfl (ok_j_X12_does_115 h hx)
      · replace h := ifp h c13
        refine PW.aload_n 1 0 dX12_does_85 rfl rfl rfl ?_
        refine CW.getr dX12_does_86 fL_X12_77 LA_193 (Or.inr ⟨_, rfl⟩) rfl ?_
        refine PW.iload_n 0 3 dX12_does_89 rfl rfl ?_
        by_cases c21 : inb (a1 + (1 : Int32)) 200
        rotate_left
        · have h := ifn h c21; cases h
        replace h := ifp h c21
        refine CW.zald dX12_does_90 LA_216 c21 ?_
        refine PW.if_ne (tgt := 115) dX12_does_91 (by decide) (fun c22 => ?_) (fun c22 => ?_)
        · replace h := ifn h c22
          exact PW.pick [1, 2, 3, 0] rfl (ok_j_X12_does_115 h hx)
        · replace h := ifp h c22
          refine PW.iload_n 2 1 dX12_does_94 rfl rfl ?_
          refine PW.bipush (v := 47) dX12_does_95 (by decide) ?_
          refine PW.icmp_eq (tgt := 106) dX12_does_97 (by decide) (fun c23 => ?_) (fun c23 => ?_)
          · replace h := ifp h c23
            exact PW.pick [1, 2, 3, 0] rfl (ok_j_X12_does_106 h hx)
          · replace h := ifn h c23
            refine PW.iload_n 2 1 dX12_does_100 rfl rfl ?_
            refine PW.bipush (v := 37) dX12_does_101 (by decide) ?_
            refine PW.icmp_ne (tgt := 119) dX12_does_103 (by decide) (fun c26 => ?_) (fun c26 => ?_)
            · replace h := ifn h c26
              exact PW.pick [1, 2, 3, 0] rfl (ok_j_X12_does_119 h hx)
            · replace h := ifp h c26
              exact PW.pick [1, 2, 3, 0] rfl (ok_j_X12_does_106 h hx)
    · replace h := ifp h c11
      exact PW.pick [1, 2, 3, 0] rfl (ok_j_X12_does_16 h hx)
/-! X12_works -/
def j_X12_works_121 (x2 : Int32) (x3 : Int32) (x4 : Int32) (s : cS) : Option (((Int32 × Int32) × cS) ⊕ (Unit × cS)) :=
  some (.inl ((x3, (x4 + (1 : Int32))), s))
set_option maxRecDepth 20000 in
set_option maxHeartbeats 4000000 in
theorem ok_j_X12_works_121 {g : pG} {l : Launch} {F : pF} {x2 : Int32} {x3 : Int32} {x4 : Int32} {s : cS} {x : (((Int32 × Int32) × cS) ⊕ (Unit × cS))} (h : j_X12_works_121 x2 x3 x4 s = some x) (hx : (KL (fun (v : (Int32 × Int32) × cS) => PW g l (pRoom 3 0 0) M_X12_works F 5 [(0, .ref 193), (2, .int x2), (3, .int v.1.1), (4, .int v.1.2)] [] (tS v.2) 0 0) (fun q => F = pE g none (tS q.2) 0 0)) x) : PW g l (pRoom 3 0 0) M_X12_works F 121 [(0, .ref 193), (2, .int x2), (3, .int x3), (4, .int x4)] [] (tS s) 0 0 := by
  unfold j_X12_works_121 at h
  refine PW.iinc (v := (x4 + (1 : Int32))) 3 dX12_works_121 rfl (by first | rfl | decide) (Nat.le_of_ble_eq_true rfl) rfl ?_
  refine PW.goto (tgt := 5) dX12_works_124 (by decide) ?_
  cases h
  exact PW.pick [1, 2, 3, 0] rfl hx
def j_X12_works_117 (x2 : Int32) (x3 : Int32) (x4 : Int32) (y1 : Int32) (y2 : Int32) (s : cS) : Option (((Int32 × Int32) × cS) ⊕ (Unit × cS)) :=
  if inb y1 200 then
  sb (iS s 215 y1.toNatClampNeg y2) fun s12 =>
  j_X12_works_121 x2 (x3 + (1 : Int32)) x4 s12
  else none
set_option maxRecDepth 20000 in
set_option maxHeartbeats 4000000 in
theorem ok_j_X12_works_117 {g : pG} {l : Launch} {F : pF} {x2 : Int32} {x3 : Int32} {x4 : Int32} {y1 : Int32} {y2 : Int32} {s : cS} {x : (((Int32 × Int32) × cS) ⊕ (Unit × cS))} (h : j_X12_works_117 x2 x3 x4 y1 y2 s = some x) (hx : (KL (fun (v : (Int32 × Int32) × cS) => PW g l (pRoom 3 0 0) M_X12_works F 5 [(0, .ref 193), (2, .int x2), (3, .int v.1.1), (4, .int v.1.2)] [] (tS v.2) 0 0) (fun q => F = pE g none (tS q.2) 0 0)) x) : PW g l (pRoom 3 0 0) M_X12_works F 117 [(0, .ref 193), (2, .int x2), (3, .int x3), (4, .int x4)] [.int y2, .int y1, .ref 215] (tS s) 0 0 := by
  unfold j_X12_works_117 at h
  by_cases c11 : inb y1 200
  rotate_left
  · have h := ifn h c11; cases h
  replace h := ifp h c11
  refine CW.iast dX12_works_117 LA_215 c11 ?_
  obtain ⟨s12, es12, h⟩ := sbnd h
  refine PW.sbe es12 ?_
  clear es12
  refine PW.iinc (v := (x3 + (1 : Int32))) 2 dX12_works_118 rfl (by first | rfl | decide) (Nat.le_of_ble_eq_true rfl) rfl ?_
  exact PW.pick [1, 2, 0, 3] rfl (ok_j_X12_works_121 h hx)
def b_X12_works_5 (x2 : Int32) (x3 : Int32) (x4 : Int32) (s : cS) : Option (((Int32 × Int32) × cS) ⊕ (Unit × cS)) :=
  if x2 ≤ x4 then
    oR (
      some (((), s)))
  else
    if inb x4 160 then
    if (iG s 206 x4.toNatClampNeg) ≤ (2 : Int32) then
      if (iG s 206 x4.toNatClampNeg) = (2 : Int32) then
        if inb (x3 - (1 : Int32)) 200 then
        sb (iS s 215 (x3 - (1 : Int32)).toNatClampNeg ((1 : Int32) - (iG s 215 (x3 - (1 : Int32)).toNatClampNeg))) fun s14 =>
        j_X12_works_121 x2 x3 x4 s14
        else none
      else
        if inb x3 200 then
        sb (iS s 216 x3.toNatClampNeg (0 : Int32)) fun s6 =>
        if (iG s6 206 x4.toNatClampNeg) = 0 then
          j_X12_works_117 x2 x3 x4 x3 (iG s6 207 x4.toNatClampNeg) s6
        else
          ob (f_X12_valueOf (iG s6 207 x4.toNatClampNeg) s6) fun r8 s9 =>
          j_X12_works_117 x2 x3 x4 x3 r8 s9
        else none
    else
      ob (f_X12_does (iG s 206 x4.toNatClampNeg) ((x3 + (-1)) - (1 : Int32)) s) fun r15 s16 =>
      j_X12_works_121 x2 (x3 + (-1)) x4 s16
    else none
set_option maxRecDepth 20000 in
set_option maxHeartbeats 4000000 in
theorem ok_b_X12_works_5 {g : pG} {l : Launch} {F : pF} {x2 : Int32} {x3 : Int32} {x4 : Int32} {s : cS} {x : (((Int32 × Int32) × cS) ⊕ (Unit × cS))} (h : b_X12_works_5 x2 x3 x4 s = some x) (hx : (KL (fun (v : (Int32 × Int32) × cS) => PW g l (pRoom 3 0 0) M_X12_works F 5 [(0, .ref 193), (2, .int x2), (3, .int v.1.1), (4, .int v.1.2)] [] (tS v.2) 0 0) (fun q => F = pE g none (tS q.2) 0 0)) x) : PW g l (pRoom 3 0 0) M_X12_works F 5 [(0, .ref 193), (2, .int x2), (3, .int x3), (4, .int x4)] [] (tS s) 0 0 := by
  unfold b_X12_works_5 at h
  refine PW.iload 3 dX12_works_5 rfl ?_
  refine PW.iload_n 1 2 dX12_works_7 rfl rfl ?_
  refine PW.icmp_ge (tgt := 127) dX12_works_8 (by decide) (fun c1 => ?_) (fun c1 => ?_)
  · replace h := ifp h c1
    obtain ⟨xo, hy, hxo⟩ := oRb h
    clear h
    subst hxo
    replace hx := KLr hx
    have h := hy
    clear hy
    cases h
    subst hx
    exact PW.vret dX12_works_127 rfl (Nat.le_refl 0) (Nat.le_refl 0)
  · replace h := ifn h c1
    refine PW.aload_n 0 0 dX12_works_11 rfl rfl rfl ?_
    refine CW.getr dX12_works_12 fL_X12_47 LA_193 (Or.inr ⟨_, rfl⟩) rfl ?_
    refine PW.iload 3 dX12_works_15 rfl ?_
    by_cases c2 : inb x4 160
    rotate_left
    · have h := ifn h c2; cases h
    replace h := ifp h c2
    refine CW.iald dX12_works_17 LA_206 c2 ?_
    refine PW.iconst (v := 2) dX12_works_18 (by decide) ?_
    refine PW.icmp_le (tgt := 42) dX12_works_19 (by decide) (fun c3 => ?_) (fun c3 => ?_)
    · replace h := ifp h c3
      refine PW.aload_n 0 0 dX12_works_42 rfl rfl rfl ?_
      refine CW.getr dX12_works_43 fL_X12_47 LA_193 (Or.inr ⟨_, rfl⟩) rfl ?_
      refine PW.iload 3 dX12_works_46 rfl ?_
      refine CW.iald dX12_works_48 LA_206 c2 ?_
      refine PW.iconst (v := 2) dX12_works_49 (by decide) ?_
      refine PW.icmp_ne (tgt := 74) dX12_works_50 (by decide) (fun c4 => ?_) (fun c4 => ?_)
      · replace h := ifn h c4
        refine PW.aload_n 0 0 dX12_works_74 rfl rfl rfl ?_
        refine CW.getr dX12_works_75 fL_X12_77 LA_193 (Or.inr ⟨_, rfl⟩) rfl ?_
        refine PW.iload_n 2 3 dX12_works_78 rfl rfl ?_
        refine PW.iconst (v := 0) dX12_works_79 (by decide) ?_
        by_cases c5 : inb x3 200
        rotate_left
        · have h := ifn h c5; cases h
        replace h := ifp h c5
        refine CW.zast dX12_works_80 LA_216 c5 (Or.inl rfl) ?_
        obtain ⟨s6, es6, h⟩ := sbnd h
        refine PW.sbe es6 ?_
        clear es6
        refine PW.aload_n 0 0 dX12_works_81 rfl rfl rfl ?_
        refine CW.getr dX12_works_82 fL_X12_74 LA_193 (Or.inr ⟨_, rfl⟩) rfl ?_
        refine PW.iload_n 2 3 dX12_works_85 rfl rfl ?_
        refine PW.aload_n 0 0 dX12_works_86 rfl rfl rfl ?_
        refine CW.getr dX12_works_87 fL_X12_47 LA_193 (Or.inr ⟨_, rfl⟩) rfl ?_
        refine PW.iload 3 dX12_works_90 rfl ?_
        refine CW.iald dX12_works_92 LA_206 c2 ?_
        refine PW.if_ne (tgt := 106) dX12_works_93 (by decide) (fun c7 => ?_) (fun c7 => ?_)
        · replace h := ifn h c7
          refine PW.aload_n 0 0 dX12_works_106 rfl rfl rfl ?_
          refine PW.aload_n 0 0 dX12_works_107 rfl rfl rfl ?_
          refine CW.getr dX12_works_108 fL_X12_50 LA_193 (Or.inr ⟨_, rfl⟩) rfl ?_
          refine PW.iload 3 dX12_works_111 rfl ?_
          refine CW.iald dX12_works_113 LA_207 c2 ?_
          obtain ⟨r8, s9, q10, h⟩ := obnd h
          refine CW.callVi (ci := 12) (st := [.int x3, .ref 215]) [.int (iG s6 207 x4.toNatClampNeg)] dX12_works_114 (p_X12_valueOf q10) MV_X12_valueOf mL_X12_330 (by decide) rfl LA_193 rfl rfl (Nat.le_of_ble_eq_true rfl) (by first | decide | omega) ?_
          exact PW.pick [0, 1, 2, 3] rfl (ok_j_X12_works_117 h hx)
        · replace h := ifp h c7
          refine PW.aload_n 0 0 dX12_works_96 rfl rfl rfl ?_
          refine CW.getr dX12_works_97 fL_X12_50 LA_193 (Or.inr ⟨_, rfl⟩) rfl ?_
          refine PW.iload 3 dX12_works_100 rfl ?_
          refine CW.iald dX12_works_102 LA_207 c2 ?_
          refine PW.goto (tgt := 117) dX12_works_103 (by decide) ?_
          exact PW.pick [0, 1, 2, 3] rfl (ok_j_X12_works_117 h hx)
      · replace h := ifp h c4
        refine PW.aload_n 0 0 dX12_works_53 rfl rfl rfl ?_
        refine CW.getr dX12_works_54 fL_X12_74 LA_193 (Or.inr ⟨_, rfl⟩) rfl ?_
        refine PW.iload_n 2 3 dX12_works_57 rfl rfl ?_
        refine PW.iconst (v := 1) dX12_works_58 (by decide) ?_
        refine PW.isub dX12_works_59 ?_
        refine PW.iconst (v := 1) dX12_works_60 (by decide) ?_
        refine PW.aload_n 0 0 dX12_works_61 rfl rfl rfl ?_
        refine CW.getr dX12_works_62 fL_X12_74 LA_193 (Or.inr ⟨_, rfl⟩) rfl ?_
        refine PW.iload_n 2 3 dX12_works_65 rfl rfl ?_
        refine PW.iconst (v := 1) dX12_works_66 (by decide) ?_
        refine PW.isub dX12_works_67 ?_
        by_cases c13 : inb (x3 - (1 : Int32)) 200
        rotate_left
        · have h := ifn h c13; cases h
        replace h := ifp h c13
        refine CW.iald dX12_works_68 LA_215 c13 ?_
        refine PW.isub dX12_works_69 ?_
        refine CW.iast dX12_works_70 LA_215 c13 ?_
        obtain ⟨s14, es14, h⟩ := sbnd h
        refine PW.sbe es14 ?_
        clear es14
        refine PW.goto (tgt := 121) dX12_works_71 (by decide) ?_
        exact PW.pick [0, 1, 2, 3] rfl (ok_j_X12_works_121 h hx)
    · replace h := ifn h c3
      refine PW.iinc (v := (x3 + (-1))) 2 dX12_works_22 rfl (by first | rfl | decide) (Nat.le_of_ble_eq_true rfl) rfl ?_
      refine PW.aload_n 1 0 dX12_works_25 rfl rfl rfl ?_
      refine PW.aload_n 1 0 dX12_works_26 rfl rfl rfl ?_
      refine CW.getr dX12_works_27 fL_X12_47 LA_193 (Or.inr ⟨_, rfl⟩) rfl ?_
      refine PW.iload 3 dX12_works_30 rfl ?_
      refine CW.iald dX12_works_32 LA_206 c2 ?_
      refine PW.iload_n 0 3 dX12_works_33 rfl rfl ?_
      refine PW.iconst (v := 1) dX12_works_34 (by decide) ?_
      refine PW.isub dX12_works_35 ?_
      obtain ⟨r15, s16, q17, h⟩ := obnd h
      refine CW.callVv (ci := 12) (st := []) [.int (iG s 206 x4.toNatClampNeg), .int ((x3 + (-1)) - (1 : Int32))] dX12_works_36 (p_X12_does q17) MV_X12_does mL_X12_327 (by decide) rfl LA_193 rfl rfl (Nat.le_of_ble_eq_true rfl) (by first | decide | omega) ?_
      refine PW.goto (tgt := 121) dX12_works_39 (by decide) ?_
      exact PW.pick [1, 2, 0, 3] rfl (ok_j_X12_works_121 h hx)
def w_X12_works_5 (N : Nat) (x2 : Int32) (x3 : Int32) (x4 : Int32) (s : cS) : Option (Unit × cS) := itr (fun (v : (Int32 × Int32) × cS) => b_X12_works_5 x2 v.1.1 v.1.2 v.2) N ((x3, x4), s)
theorem ok_w_X12_works_5 {g : pG} {l : Launch} {F : pF} {N : Nat} {x2 : Int32} {x3 : Int32} {x4 : Int32} {s : cS} {x : (Unit × cS)} (h : w_X12_works_5 N x2 x3 x4 s = some x) (hx : (fun q => F = pE g none (tS q.2) 0 0) x) : PW g l (pRoom 3 0 0) M_X12_works F 5 [(0, .ref 193), (2, .int x2), (3, .int x3), (4, .int x4)] [] (tS s) 0 0 :=
  okIter (P := (fun (v : (Int32 × Int32) × cS) => PW g l (pRoom 3 0 0) M_X12_works F 5 [(0, .ref 193), (2, .int x2), (3, .int v.1.1), (4, .int v.1.2)] [] (tS v.2) 0 0)) (K := (fun q => F = pE g none (tS q.2) 0 0)) (fun v y hB hy => ok_b_X12_works_5 hB hy) N ((x3, x4), s) x h hx
def f_X12_works (N : Nat) (a0 : Int32) (a1 : Int32) (s : cS) : Option (Unit × cS) :=
  w_X12_works_5 N a1 (0 : Int32) a0 s
set_option maxRecDepth 20000 in
set_option maxHeartbeats 4000000 in
theorem p_X12_works {g : pG} {l : Launch} {N : Nat} {a0 : Int32} {a1 : Int32} {s : cS} {q : Unit × cS} (h : f_X12_works N a0 a1 s = some q) : PM g l 3 M_X12_works [.ref 193, .int a0, .int a1] (tS s) none (tS q.2) 0 0 := by
  refine PM.of (by decide +kernel) (Nat.le_of_ble_eq_true rfl) ?_
  show PW g l (pRoom 3 0 0) M_X12_works _ 0 [(0, .ref 193), (1, .int a0), (2, .int a1)] [] (tS s) 0 0
  unfold f_X12_works at h
  generalize hF : pE g none (tS q.2) 0 0 = F
  have hx := hF.symm
  refine PW.iconst (v := 0) dX12_works_0 (by decide) ?_
  refine PW.istore_n dX12_works_1 rfl (Nat.le_of_ble_eq_true rfl) rfl ?_
  refine PW.iload_n 2 1 dX12_works_2 rfl rfl ?_
  refine PW.istore dX12_works_3 (Nat.le_of_ble_eq_true rfl) rfl ?_
  exact PW.pick [2, 4, 1, 0] rfl (ok_w_X12_works_5 h hx)
/-! X12_toldBy -/
def j_X12_toldBy_120 (x1 : Int32) (x2 : Int32) (x3 : Int32) (s : cS) : Option ((Int32 × cS) ⊕ (Int32 × cS)) :=
  some (.inl ((x3 + (1 : Int32)), s))
set_option maxRecDepth 20000 in
set_option maxHeartbeats 4000000 in
theorem ok_j_X12_toldBy_120 {g : pG} {l : Launch} {F : pF} {x1 : Int32} {x2 : Int32} {x3 : Int32} {s : cS} {x : ((Int32 × cS) ⊕ (Int32 × cS))} (h : j_X12_toldBy_120 x1 x2 x3 s = some x) (hx : (KL (fun (v : Int32 × cS) => PW g l (pRoom 4 0 0) M_X12_toldBy F 2 [(0, .ref 193), (1, .int x1), (2, .int x2), (3, .int v.1)] [] (tS v.2) 0 0) (fun q => F = pE g (some (.int q.1)) (tS q.2) 0 0)) x) : PW g l (pRoom 4 0 0) M_X12_toldBy F 120 [(0, .ref 193), (1, .int x1), (2, .int x2), (3, .int x3)] [] (tS s) 0 0 := by
  unfold j_X12_toldBy_120 at h
  refine PW.iinc (v := (x3 + (1 : Int32))) 3 dX12_toldBy_120 rfl (by first | rfl | decide) (Nat.le_of_ble_eq_true rfl) rfl ?_
  refine PW.goto (tgt := 2) dX12_toldBy_123 (by decide) ?_
  cases h
  exact PW.pick [1, 2, 3, 0] rfl hx
def j_X12_toldBy_96 (x2 : Int32) (y0 : Int32) (s : cS) : Option (Int32 × cS) :=
  if 0 ≤ y0 then
    if y0 ≤ x2 then
      some ((y0, s))
    else
      some ((x2, s))
  else
    some (((0 : Int32), s))
set_option maxRecDepth 20000 in
set_option maxHeartbeats 4000000 in
theorem ok_j_X12_toldBy_96 {g : pG} {l : Launch} {F : pF} {x2 : Int32} {y0 : Int32} {s : cS} {x : (Int32 × cS)} (h : j_X12_toldBy_96 x2 y0 s = some x) (hx : (fun q => F = pE g (some (.int q.1)) (tS q.2) 0 0) x) : PW g l (pRoom 4 0 0) M_X12_toldBy F 96 [(2, .int x2)] [.int y0] (tS s) 0 0 := by
  unfold j_X12_toldBy_96 at h
  refine PW.istore dX12_toldBy_96 (Nat.le_of_ble_eq_true rfl) rfl ?_
  refine PW.iload 0 dX12_toldBy_98 rfl ?_
  refine PW.if_ge (tgt := 107) dX12_toldBy_100 (by decide) (fun c13 => ?_) (fun c13 => ?_)
  · replace h := ifp h c13
    refine PW.iload 0 dX12_toldBy_107 rfl ?_
    refine PW.iload_n 1 2 dX12_toldBy_109 rfl rfl ?_
    refine PW.icmp_le (tgt := 117) dX12_toldBy_110 (by decide) (fun c14 => ?_) (fun c14 => ?_)
    · replace h := ifp h c14
      refine PW.iload 0 dX12_toldBy_117 rfl ?_
      cases h
      subst hx
      exact PW.iret (v := y0) dX12_toldBy_119 rfl rfl (Nat.le_refl 0) (Nat.le_refl 0)
    · replace h := ifn h c14
      refine PW.iload_n 1 2 dX12_toldBy_113 rfl rfl ?_
      refine PW.goto (tgt := 119) dX12_toldBy_114 (by decide) ?_
      cases h
      subst hx
      exact PW.iret (v := x2) dX12_toldBy_119 rfl rfl (Nat.le_refl 0) (Nat.le_refl 0)
  · replace h := ifn h c13
    refine PW.iconst (v := 0) dX12_toldBy_103 (by decide) ?_
    refine PW.goto (tgt := 119) dX12_toldBy_104 (by decide) ?_
    cases h
    subst hx
    exact PW.iret (v := (0 : Int32)) dX12_toldBy_119 rfl rfl (Nat.le_refl 0) (Nat.le_refl 0)
def b_X12_toldBy_2 (N : Nat) (x1 : Int32) (x2 : Int32) (x3 : Int32) (s : cS) : Option ((Int32 × cS) ⊕ (Int32 × cS)) :=
  if (iG s 193 15) ≤ x3 then
    oR (
      some (((0 : Int32), s)))
  else
    if inb x3 12 then
    if (iG s 202 x3.toNatClampNeg) = x1 then
      ob (f_X12_works N (iG s 204 x3.toNatClampNeg) (iG s 205 x3.toNatClampNeg) s) fun r4 s5 =>
      if (iG s5 216 0) = 0 then
        if (iG s5 215 0) = (1 : Int32) then
          oR (
            ob (f_X12_works N (iG s5 203 x3.toNatClampNeg) (iG s5 204 x3.toNatClampNeg) s5) fun r9 s10 =>
            if (iG s10 216 0) = 0 then
              j_X12_toldBy_96 x2 (iG s10 215 0) s10
            else
              j_X12_toldBy_96 x2 (0 : Int32) s10)
        else
          j_X12_toldBy_120 x1 x2 x3 s5
      else
        j_X12_toldBy_120 x1 x2 x3 s5
    else
      j_X12_toldBy_120 x1 x2 x3 s
    else none
set_option maxRecDepth 20000 in
set_option maxHeartbeats 4000000 in
theorem ok_b_X12_toldBy_2 {g : pG} {l : Launch} {F : pF} {N : Nat} {x1 : Int32} {x2 : Int32} {x3 : Int32} {s : cS} {x : ((Int32 × cS) ⊕ (Int32 × cS))} (h : b_X12_toldBy_2 N x1 x2 x3 s = some x) (hx : (KL (fun (v : Int32 × cS) => PW g l (pRoom 4 0 0) M_X12_toldBy F 2 [(0, .ref 193), (1, .int x1), (2, .int x2), (3, .int v.1)] [] (tS v.2) 0 0) (fun q => F = pE g (some (.int q.1)) (tS q.2) 0 0)) x) : PW g l (pRoom 4 0 0) M_X12_toldBy F 2 [(0, .ref 193), (1, .int x1), (2, .int x2), (3, .int x3)] [] (tS s) 0 0 := by
  unfold b_X12_toldBy_2 at h
  refine PW.iload_n 3 3 dX12_toldBy_2 rfl rfl ?_
  refine PW.aload_n 0 0 dX12_toldBy_3 rfl rfl rfl ?_
  refine CW.geti dX12_toldBy_4 fL_X12_299 LA_193 (Or.inl rfl) ?_
  refine PW.icmp_ge (tgt := 126) dX12_toldBy_7 (by decide) (fun c1 => ?_) (fun c1 => ?_)
  · replace h := ifp h c1
    obtain ⟨xo, hy, hxo⟩ := oRb h
    clear h
    subst hxo
    replace hx := KLr hx
    have h := hy
    clear hy
    refine PW.iconst (v := 0) dX12_toldBy_126 (by decide) ?_
    cases h
    subst hx
    exact PW.iret (v := (0 : Int32)) dX12_toldBy_127 rfl rfl (Nat.le_refl 0) (Nat.le_refl 0)
  · replace h := ifn h c1
    refine PW.aload_n 0 0 dX12_toldBy_10 rfl rfl rfl ?_
    refine CW.getr dX12_toldBy_11 fL_X12_35 LA_193 (Or.inr ⟨_, rfl⟩) rfl ?_
    refine PW.iload_n 3 3 dX12_toldBy_14 rfl rfl ?_
    by_cases c2 : inb x3 12
    rotate_left
    · have h := ifn h c2; cases h
    replace h := ifp h c2
    refine CW.iald dX12_toldBy_15 LA_202 c2 ?_
    refine PW.iload_n 1 1 dX12_toldBy_16 rfl rfl ?_
    refine PW.icmp_eq (tgt := 23) dX12_toldBy_17 (by decide) (fun c3 => ?_) (fun c3 => ?_)
    · replace h := ifp h c3
      refine PW.aload_n 0 0 dX12_toldBy_23 rfl rfl rfl ?_
      refine PW.aload_n 0 0 dX12_toldBy_24 rfl rfl rfl ?_
      refine CW.getr dX12_toldBy_25 fL_X12_41 LA_193 (Or.inr ⟨_, rfl⟩) rfl ?_
      refine PW.iload_n 3 3 dX12_toldBy_28 rfl rfl ?_
      refine CW.iald dX12_toldBy_29 LA_204 c2 ?_
      refine PW.aload_n 0 0 dX12_toldBy_30 rfl rfl rfl ?_
      refine CW.getr dX12_toldBy_31 fL_X12_44 LA_193 (Or.inr ⟨_, rfl⟩) rfl ?_
      refine PW.iload_n 3 3 dX12_toldBy_34 rfl rfl ?_
      refine CW.iald dX12_toldBy_35 LA_205 c2 ?_
      obtain ⟨r4, s5, q6, h⟩ := obnd h
      refine CW.callVv (ci := 12) (st := []) [.int (iG s 204 x3.toNatClampNeg), .int (iG s 205 x3.toNatClampNeg)] dX12_toldBy_36 (p_X12_works q6) MV_X12_works mL_X12_334 (by decide) rfl LA_193 rfl rfl (Nat.le_of_ble_eq_true rfl) (by first | decide | omega) ?_
      refine PW.aload_n 0 0 dX12_toldBy_39 rfl rfl rfl ?_
      refine CW.getr dX12_toldBy_40 fL_X12_77 LA_193 (Or.inr ⟨_, rfl⟩) rfl ?_
      refine PW.iconst (v := 0) dX12_toldBy_43 (by decide) ?_
      refine CW.zald dX12_toldBy_44 LA_216 (by decide) ?_
      refine PW.if_ne (tgt := 120) dX12_toldBy_45 (by decide) (fun c7 => ?_) (fun c7 => ?_)
      · replace h := ifn h c7
        exact PW.pick [0, 1, 2, 3] rfl (ok_j_X12_toldBy_120 h hx)
      · replace h := ifp h c7
        refine PW.aload_n 0 0 dX12_toldBy_48 rfl rfl rfl ?_
        refine CW.getr dX12_toldBy_49 fL_X12_74 LA_193 (Or.inr ⟨_, rfl⟩) rfl ?_
        refine PW.iconst (v := 0) dX12_toldBy_52 (by decide) ?_
        refine CW.iald dX12_toldBy_53 LA_215 (by decide) ?_
        refine PW.iconst (v := 1) dX12_toldBy_54 (by decide) ?_
        refine PW.icmp_eq (tgt := 61) dX12_toldBy_55 (by decide) (fun c8 => ?_) (fun c8 => ?_)
        · replace h := ifp h c8
          obtain ⟨xo, hy, hxo⟩ := oRb h
          clear h
          subst hxo
          replace hx := KLr hx
          have h := hy
          clear hy
          refine PW.aload_n 0 0 dX12_toldBy_61 rfl rfl rfl ?_
          refine PW.aload_n 0 0 dX12_toldBy_62 rfl rfl rfl ?_
          refine CW.getr dX12_toldBy_63 fL_X12_38 LA_193 (Or.inr ⟨_, rfl⟩) rfl ?_
          refine PW.iload_n 3 3 dX12_toldBy_66 rfl rfl ?_
          refine CW.iald dX12_toldBy_67 LA_203 c2 ?_
          refine PW.aload_n 0 0 dX12_toldBy_68 rfl rfl rfl ?_
          refine CW.getr dX12_toldBy_69 fL_X12_41 LA_193 (Or.inr ⟨_, rfl⟩) rfl ?_
          refine PW.iload_n 3 3 dX12_toldBy_72 rfl rfl ?_
          refine CW.iald dX12_toldBy_73 LA_204 c2 ?_
          obtain ⟨r9, s10, q11, h⟩ := obnd h
          refine CW.callVv (ci := 12) (st := []) [.int (iG s5 203 x3.toNatClampNeg), .int (iG s5 204 x3.toNatClampNeg)] dX12_toldBy_74 (p_X12_works q11) MV_X12_works mL_X12_334 (by decide) rfl LA_193 rfl rfl (Nat.le_of_ble_eq_true rfl) (by first | decide | omega) ?_
          refine PW.aload_n 0 0 dX12_toldBy_77 rfl rfl rfl ?_
          refine CW.getr dX12_toldBy_78 fL_X12_77 LA_193 (Or.inr ⟨_, rfl⟩) rfl ?_
          refine PW.iconst (v := 0) dX12_toldBy_81 (by decide) ?_
          refine CW.zald dX12_toldBy_82 LA_216 (by decide) ?_
          refine PW.if_eq (tgt := 90) dX12_toldBy_83 (by decide) (fun c12 => ?_) (fun c12 => ?_)
          · replace h := ifp h c12
            refine PW.aload_n 0 0 dX12_toldBy_90 rfl rfl rfl ?_
            refine CW.getr dX12_toldBy_91 fL_X12_74 LA_193 (Or.inr ⟨_, rfl⟩) rfl ?_
            refine PW.iconst (v := 0) dX12_toldBy_94 (by decide) ?_
            refine CW.iald dX12_toldBy_95 LA_215 (by decide) ?_
            exact PW.pick [2] rfl (ok_j_X12_toldBy_96 h hx)
          · replace h := ifn h c12
            refine PW.iconst (v := 0) dX12_toldBy_86 (by decide) ?_
            refine PW.goto (tgt := 96) dX12_toldBy_87 (by decide) ?_
            exact PW.pick [2] rfl (ok_j_X12_toldBy_96 h hx)
        · replace h := ifn h c8
          refine PW.goto (tgt := 120) dX12_toldBy_58 (by decide) ?_
          exact PW.pick [0, 1, 2, 3] rfl (ok_j_X12_toldBy_120 h hx)
    · replace h := ifn h c3
      refine PW.goto (tgt := 120) dX12_toldBy_20 (by decide) ?_
      exact PW.pick [0, 1, 2, 3] rfl (ok_j_X12_toldBy_120 h hx)
def w_X12_toldBy_2 (N : Nat) (x1 : Int32) (x2 : Int32) (x3 : Int32) (s : cS) : Option (Int32 × cS) := itr (fun (v : Int32 × cS) => b_X12_toldBy_2 N x1 x2 v.1 v.2) N (x3, s)
theorem ok_w_X12_toldBy_2 {g : pG} {l : Launch} {F : pF} {N : Nat} {x1 : Int32} {x2 : Int32} {x3 : Int32} {s : cS} {x : (Int32 × cS)} (h : w_X12_toldBy_2 N x1 x2 x3 s = some x) (hx : (fun q => F = pE g (some (.int q.1)) (tS q.2) 0 0) x) : PW g l (pRoom 4 0 0) M_X12_toldBy F 2 [(0, .ref 193), (1, .int x1), (2, .int x2), (3, .int x3)] [] (tS s) 0 0 :=
  okIter (P := (fun (v : Int32 × cS) => PW g l (pRoom 4 0 0) M_X12_toldBy F 2 [(0, .ref 193), (1, .int x1), (2, .int x2), (3, .int v.1)] [] (tS v.2) 0 0)) (K := (fun q => F = pE g (some (.int q.1)) (tS q.2) 0 0)) (fun v y hB hy => ok_b_X12_toldBy_2 hB hy) N (x3, s) x h hx
def f_X12_toldBy (N : Nat) (a0 : Int32) (a1 : Int32) (s : cS) : Option (Int32 × cS) :=
  w_X12_toldBy_2 N a0 a1 (0 : Int32) s
set_option maxRecDepth 20000 in
set_option maxHeartbeats 4000000 in
theorem p_X12_toldBy {g : pG} {l : Launch} {N : Nat} {a0 : Int32} {a1 : Int32} {s : cS} {q : Int32 × cS} (h : f_X12_toldBy N a0 a1 s = some q) : PM g l 4 M_X12_toldBy [.ref 193, .int a0, .int a1] (tS s) (some (.int q.1)) (tS q.2) 0 0 := by
  refine PM.of (by decide +kernel) (Nat.le_of_ble_eq_true rfl) ?_
  show PW g l (pRoom 4 0 0) M_X12_toldBy _ 0 [(0, .ref 193), (1, .int a0), (2, .int a1)] [] (tS s) 0 0
  unfold f_X12_toldBy at h
  generalize hF : pE g (some (.int q.1)) (tS q.2) 0 0 = F
  have hx := hF.symm
  refine PW.iconst (v := 0) dX12_toldBy_0 (by decide) ?_
  refine PW.istore_n dX12_toldBy_1 rfl (Nat.le_of_ble_eq_true rfl) rfl ?_
  exact PW.pick [1, 2, 3, 0] rfl (ok_w_X12_toldBy_2 h hx)
/-! X12_runsNow -/
def f_X12_runsNow (s : cS) : Option (Int32 × cS) :=
  if inb (iG s 193 38) 8 then
  if (iG s 193 43) < (iG s 198 (iG s 193 38).toNatClampNeg) then
    some (((0 : Int32), s))
  else
    some (((1 : Int32), s))
  else none
set_option maxRecDepth 20000 in
set_option maxHeartbeats 4000000 in
theorem p_X12_runsNow {g : pG} {l : Launch} {s : cS} {q : Int32 × cS} (h : f_X12_runsNow s = some q) : PM g l 1 M_X12_runsNow [.ref 193] (tS s) (some (.int q.1)) (tS q.2) 0 0 := by
  refine PM.of (by decide +kernel) (Nat.le_of_ble_eq_true rfl) ?_
  show PW g l (pRoom 1 0 0) M_X12_runsNow _ 0 [(0, .ref 193)] [] (tS s) 0 0
  unfold f_X12_runsNow at h
  generalize hF : pE g (some (.int q.1)) (tS q.2) 0 0 = F
  have hx := hF.symm
  refine PW.aload_n 0 0 dX12_runsNow_0 rfl rfl rfl ?_
  refine CW.geti dX12_runsNow_1 fL_X12_317 LA_193 (Or.inl rfl) ?_
  refine PW.aload_n 0 0 dX12_runsNow_4 rfl rfl rfl ?_
  refine CW.getr dX12_runsNow_5 fL_X12_23 LA_193 (Or.inr ⟨_, rfl⟩) rfl ?_
  refine PW.aload_n 0 0 dX12_runsNow_8 rfl rfl rfl ?_
  refine CW.geti dX12_runsNow_9 fL_X12_305 LA_193 (Or.inl rfl) ?_
  by_cases c1 : inb (iG s 193 38) 8
  rotate_left
  · have h := ifn h c1; cases h
  replace h := ifp h c1
  refine CW.iald dX12_runsNow_12 LA_198 c1 ?_
  refine PW.icmp_lt (tgt := 20) dX12_runsNow_13 (by decide) (fun c2 => ?_) (fun c2 => ?_)
  · replace h := ifp h c2
    refine PW.iconst (v := 0) dX12_runsNow_20 (by decide) ?_
    cases h
    subst hx
    exact PW.iret (v := (0 : Int32)) dX12_runsNow_21 rfl (narZ (Or.inl rfl)) (Nat.le_refl 0) (Nat.le_refl 0)
  · replace h := ifn h c2
    refine PW.iconst (v := 1) dX12_runsNow_16 (by decide) ?_
    refine PW.goto (tgt := 21) dX12_runsNow_17 (by decide) ?_
    cases h
    subst hx
    exact PW.iret (v := (1 : Int32)) dX12_runsNow_21 rfl (narZ (Or.inr rfl)) (Nat.le_refl 0) (Nat.le_refl 0)
/-! X12_isPulled -/
def j_X12_isPulled_98 (x2 : Int32) (s : cS) : Option (Unit × cS) :=
  if x2 ≤ (iG s 193 42) then
    sb (iS s 193 42 (iG s 193 42)) fun s12 =>
    some (((), s12))
  else
    sb (iS s 193 42 x2) fun s13 =>
    some (((), s13))
set_option maxRecDepth 20000 in
set_option maxHeartbeats 4000000 in
theorem ok_j_X12_isPulled_98 {g : pG} {l : Launch} {F : pF} {x2 : Int32} {s : cS} {x : (Unit × cS)} (h : j_X12_isPulled_98 x2 s = some x) (hx : (fun q => F = pE g none (tS q.2) 0 0) x) : PW g l (pRoom 5 0 0) M_X12_isPulled F 98 [(0, .ref 193), (2, .int x2)] [] (tS s) 0 0 := by
  unfold j_X12_isPulled_98 at h
  refine PW.aload_n 0 0 dX12_isPulled_98 rfl rfl rfl ?_
  refine PW.iload_n 1 2 dX12_isPulled_99 rfl rfl ?_
  refine PW.aload_n 0 0 dX12_isPulled_100 rfl rfl rfl ?_
  refine CW.geti dX12_isPulled_101 fL_X12_314 LA_193 (Or.inl rfl) ?_
  refine PW.icmp_le (tgt := 111) dX12_isPulled_104 (by decide) (fun c11 => ?_) (fun c11 => ?_)
  · replace h := ifp h c11
    refine PW.aload_n 0 0 dX12_isPulled_111 rfl rfl rfl ?_
    refine CW.geti dX12_isPulled_112 fL_X12_314 LA_193 (Or.inl rfl) ?_
    refine CW.puti dX12_isPulled_115 fL_X12_314 rfl LA_193 rfl ?_
    obtain ⟨s12, es12, h⟩ := sbnd h
    refine PW.sbe es12 ?_
    clear es12
    cases h
    subst hx
    exact PW.vret dX12_isPulled_118 rfl (Nat.le_refl 0) (Nat.le_refl 0)
  · replace h := ifn h c11
    refine PW.iload_n 1 2 dX12_isPulled_107 rfl rfl ?_
    refine PW.goto (tgt := 115) dX12_isPulled_108 (by decide) ?_
    refine CW.puti dX12_isPulled_115 fL_X12_314 rfl LA_193 rfl ?_
    obtain ⟨s13, es13, h⟩ := sbnd h
    refine PW.sbe es13 ?_
    clear es13
    cases h
    subst hx
    exact PW.vret dX12_isPulled_118 rfl (Nat.le_refl 0) (Nat.le_refl 0)
def j_X12_isPulled_74 (x2 : Int32) (y1 : Int32) (s : cS) : Option (Unit × cS) :=
  sb (iS s 193 43 y1) fun s20 =>
  j_X12_isPulled_98 x2 s20
set_option maxRecDepth 20000 in
set_option maxHeartbeats 4000000 in
theorem ok_j_X12_isPulled_74 {g : pG} {l : Launch} {F : pF} {x2 : Int32} {y1 : Int32} {s : cS} {x : (Unit × cS)} (h : j_X12_isPulled_74 x2 y1 s = some x) (hx : (fun q => F = pE g none (tS q.2) 0 0) x) : PW g l (pRoom 5 0 0) M_X12_isPulled F 74 [(0, .ref 193), (2, .int x2)] [.int y1, .ref 193] (tS s) 0 0 := by
  unfold j_X12_isPulled_74 at h
  refine CW.puti dX12_isPulled_74 fL_X12_317 rfl LA_193 rfl ?_
  obtain ⟨s20, es20, h⟩ := sbnd h
  refine PW.sbe es20 ?_
  clear es20
  refine PW.goto (tgt := 98) dX12_isPulled_77 (by decide) ?_
  exact PW.pick [0, 1] rfl (ok_j_X12_isPulled_98 h hx)
def j_X12_isPulled_57 (x1 : Int32) (x2 : Int32) (y1 : Int32) (s : cS) : Option (Unit × cS) :=
  sb (iS s 193 44 y1) fun s18 =>
  if (iG s18 193 44) < x1 then
    j_X12_isPulled_74 x2 (0 : Int32) s18
  else
    j_X12_isPulled_74 x2 (1 : Int32) s18
set_option maxRecDepth 20000 in
set_option maxHeartbeats 4000000 in
theorem ok_j_X12_isPulled_57 {g : pG} {l : Launch} {F : pF} {x1 : Int32} {x2 : Int32} {y1 : Int32} {s : cS} {x : (Unit × cS)} (h : j_X12_isPulled_57 x1 x2 y1 s = some x) (hx : (fun q => F = pE g none (tS q.2) 0 0) x) : PW g l (pRoom 5 0 0) M_X12_isPulled F 57 [(0, .ref 193), (1, .int x1), (2, .int x2)] [.int y1, .ref 193] (tS s) 0 0 := by
  unfold j_X12_isPulled_57 at h
  refine CW.puti dX12_isPulled_57 fL_X12_320 rfl LA_193 rfl ?_
  obtain ⟨s18, es18, h⟩ := sbnd h
  refine PW.sbe es18 ?_
  clear es18
  refine PW.aload_n 0 0 dX12_isPulled_60 rfl rfl rfl ?_
  refine PW.aload_n 0 0 dX12_isPulled_61 rfl rfl rfl ?_
  refine CW.geti dX12_isPulled_62 fL_X12_320 LA_193 (Or.inl rfl) ?_
  refine PW.iload_n 1 1 dX12_isPulled_65 rfl rfl ?_
  refine PW.icmp_lt (tgt := 73) dX12_isPulled_66 (by decide) (fun c19 => ?_) (fun c19 => ?_)
  · replace h := ifp h c19
    refine PW.iconst (v := 0) dX12_isPulled_73 (by decide) ?_
    exact PW.pick [0, 2] rfl (ok_j_X12_isPulled_74 h hx)
  · replace h := ifn h c19
    refine PW.iconst (v := 1) dX12_isPulled_69 (by decide) ?_
    refine PW.goto (tgt := 74) dX12_isPulled_70 (by decide) ?_
    exact PW.pick [0, 2] rfl (ok_j_X12_isPulled_74 h hx)
def f_X12_isPulled (N : Nat) (a0 : Int32) (s : cS) : Option (Unit × cS) :=
  sb (iS s 193 41 (0 : Int32)) fun s1 =>
  ob (f_X12_toldBy N (113 : Int32) (10000 : Int32) s1) fun r2 s3 =>
  sb (iS s3 193 41 r2) fun s5 =>
  if (iG s5 193 43) = 0 then
    ob (f_X12_toldBy N (100 : Int32) (100000 : Int32) s5) fun r14 s15 =>
    if ((iG s5 193 44) + r14) ≤ (1000000 : Int32) then
      j_X12_isPulled_57 a0 r2 ((iG s5 193 44) + r14) s15
    else
      j_X12_isPulled_57 a0 r2 (1000000 : Int32) s15
  else
    ob (f_X12_toldBy N (103 : Int32) (10000 : Int32) s5) fun r7 s8 =>
    sb (iS s8 193 43 ((iG s5 193 43) + r7)) fun s10 =>
    j_X12_isPulled_98 r2 s10
set_option maxRecDepth 20000 in
set_option maxHeartbeats 4000000 in
theorem p_X12_isPulled {g : pG} {l : Launch} {N : Nat} {a0 : Int32} {s : cS} {q : Unit × cS} (h : f_X12_isPulled N a0 s = some q) : PM g l 5 M_X12_isPulled [.ref 193, .int a0] (tS s) none (tS q.2) 0 0 := by
  refine PM.of (by decide +kernel) (Nat.le_of_ble_eq_true rfl) ?_
  show PW g l (pRoom 5 0 0) M_X12_isPulled _ 0 [(0, .ref 193), (1, .int a0)] [] (tS s) 0 0
  unfold f_X12_isPulled at h
  generalize hF : pE g none (tS q.2) 0 0 = F
  have hx := hF.symm
  refine PW.aload_n 0 0 dX12_isPulled_0 rfl rfl rfl ?_
  refine PW.iconst (v := 0) dX12_isPulled_1 (by decide) ?_
  refine CW.puti dX12_isPulled_2 fL_X12_311 rfl LA_193 rfl ?_
  obtain ⟨s1, es1, h⟩ := sbnd h
  refine PW.sbe es1 ?_
  clear es1
  refine PW.aload_n 0 0 dX12_isPulled_5 rfl rfl rfl ?_
  refine PW.bipush (v := 113) dX12_isPulled_6 (by decide) ?_
  refine PW.sipush (v := 10000) dX12_isPulled_8 (by decide) ?_
  obtain ⟨r2, s3, q4, h⟩ := obnd h
  refine CW.callVi (ci := 12) (st := []) [.int (113 : Int32), .int (10000 : Int32)] dX12_isPulled_11 (p_X12_toldBy q4) MV_X12_toldBy mL_X12_337 (by decide) rfl LA_193 rfl rfl (Nat.le_of_ble_eq_true rfl) (by first | decide | omega) ?_
  refine PW.istore_n dX12_isPulled_14 rfl (Nat.le_of_ble_eq_true rfl) rfl ?_
  refine PW.aload_n 1 0 dX12_isPulled_15 rfl rfl rfl ?_
  refine PW.iload_n 0 2 dX12_isPulled_16 rfl rfl ?_
  refine CW.puti dX12_isPulled_17 fL_X12_311 rfl LA_193 rfl ?_
  obtain ⟨s5, es5, h⟩ := sbnd h
  refine PW.sbe es5 ?_
  clear es5
  refine PW.aload_n 1 0 dX12_isPulled_20 rfl rfl rfl ?_
  refine CW.geti dX12_isPulled_21 fL_X12_317 LA_193 (Or.inl rfl) ?_
  refine PW.if_ne (tgt := 80) dX12_isPulled_24 (by decide) (fun c6 => ?_) (fun c6 => ?_)
  · replace h := ifn h c6
    refine PW.aload_n 1 0 dX12_isPulled_80 rfl rfl rfl ?_
    refine PW.dup dX12_isPulled_81 rfl ?_
    refine CW.geti dX12_isPulled_82 fL_X12_317 LA_193 (Or.inl rfl) ?_
    refine PW.aload_n 1 0 dX12_isPulled_85 rfl rfl rfl ?_
    refine PW.bipush (v := 103) dX12_isPulled_86 (by decide) ?_
    refine PW.sipush (v := 10000) dX12_isPulled_88 (by decide) ?_
    obtain ⟨r7, s8, q9, h⟩ := obnd h
    refine CW.callVi (ci := 12) (st := [.int (iG s5 193 43), .ref 193]) [.int (103 : Int32), .int (10000 : Int32)] dX12_isPulled_91 (p_X12_toldBy q9) MV_X12_toldBy mL_X12_337 (by decide) rfl LA_193 rfl rfl (Nat.le_of_ble_eq_true rfl) (by first | decide | omega) ?_
    refine PW.iadd dX12_isPulled_94 ?_
    refine CW.puti dX12_isPulled_95 fL_X12_317 rfl LA_193 rfl ?_
    obtain ⟨s10, es10, h⟩ := sbnd h
    refine PW.sbe es10 ?_
    clear es10
    exact PW.pick [1, 0] rfl (ok_j_X12_isPulled_98 h hx)
  · replace h := ifp h c6
    refine PW.aload_n 1 0 dX12_isPulled_27 rfl rfl rfl ?_
    refine CW.geti dX12_isPulled_28 fL_X12_320 LA_193 (Or.inl rfl) ?_
    refine PW.aload_n 1 0 dX12_isPulled_31 rfl rfl rfl ?_
    refine PW.bipush (v := 100) dX12_isPulled_32 (by decide) ?_
    refine PW.ldc_w dX12_isPulled_34 kL_X12_341 ?_
    obtain ⟨r14, s15, q16, h⟩ := obnd h
    refine CW.callVi (ci := 12) (st := [.int (iG s5 193 44)]) [.int (100 : Int32), .int (100000 : Int32)] dX12_isPulled_37 (p_X12_toldBy q16) MV_X12_toldBy mL_X12_337 (by decide) rfl LA_193 rfl rfl (Nat.le_of_ble_eq_true rfl) (by first | decide | omega) ?_
    refine PW.iadd dX12_isPulled_40 ?_
    refine PW.istore_n dX12_isPulled_41 rfl (Nat.le_of_ble_eq_true rfl) rfl ?_
    refine PW.aload_n 2 0 dX12_isPulled_42 rfl rfl rfl ?_
    refine PW.iload_n 0 3 dX12_isPulled_43 rfl rfl ?_
    refine PW.ldc_w dX12_isPulled_44 kL_X12_342 ?_
    refine PW.icmp_le (tgt := 56) dX12_isPulled_47 (by decide) (fun c17 => ?_) (fun c17 => ?_)
    · replace h := ifp h c17
      refine PW.iload_n 0 3 dX12_isPulled_56 rfl rfl ?_
      exact PW.pick [2, 3, 1] rfl (ok_j_X12_isPulled_57 h hx)
    · replace h := ifn h c17
      refine PW.ldc_w dX12_isPulled_50 kL_X12_342 ?_
      refine PW.goto (tgt := 57) dX12_isPulled_53 (by decide) ?_
      exact PW.pick [2, 3, 1] rfl (ok_j_X12_isPulled_57 h hx)
/-! X12_takes -/
def f_X12_takes (a0 : Int32) (s : cS) : (Unit × cS) :=
  sb (iS s 193 38 a0) fun s1 =>
  sb (iS s1 193 40 (0 : Int32)) fun s2 =>
  sb (iS s2 193 42 (0 : Int32)) fun s3 =>
  sb (iS s3 193 43 (0 : Int32)) fun s4 =>
  sb (iS s4 193 44 (0 : Int32)) fun s5 =>
  ((), s5)
set_option maxRecDepth 20000 in
set_option maxHeartbeats 4000000 in
theorem p_X12_takes {g : pG} {l : Launch} {a0 : Int32} {s : cS} {q : Unit × cS} (h : f_X12_takes a0 s = q) : PM g l 1 M_X12_takes [.ref 193, .int a0] (tS s) none (tS q.2) 0 0 := by
  refine PM.of (by decide +kernel) (Nat.le_of_ble_eq_true rfl) ?_
  show PW g l (pRoom 1 0 0) M_X12_takes _ 0 [(0, .ref 193), (1, .int a0)] [] (tS s) 0 0
  unfold f_X12_takes at h
  generalize hF : pE g none (tS q.2) 0 0 = F
  have hx := hF.symm
  refine PW.aload_n 0 0 dX12_takes_0 rfl rfl rfl ?_
  refine PW.iload_n 1 1 dX12_takes_1 rfl rfl ?_
  refine CW.puti dX12_takes_2 fL_X12_305 rfl LA_193 rfl ?_
  obtain ⟨s1, es1, h⟩ := sbnd h
  refine PW.sbe es1 ?_
  clear es1
  refine PW.aload_n 0 0 dX12_takes_5 rfl rfl rfl ?_
  refine PW.iconst (v := 0) dX12_takes_6 (by decide) ?_
  refine CW.puti dX12_takes_7 fL_X12_308 rfl LA_193 rfl ?_
  obtain ⟨s2, es2, h⟩ := sbnd h
  refine PW.sbe es2 ?_
  clear es2
  refine PW.aload_n 0 0 dX12_takes_10 rfl rfl rfl ?_
  refine PW.iconst (v := 0) dX12_takes_11 (by decide) ?_
  refine CW.puti dX12_takes_12 fL_X12_314 rfl LA_193 rfl ?_
  obtain ⟨s3, es3, h⟩ := sbnd h
  refine PW.sbe es3 ?_
  clear es3
  refine PW.aload_n 0 0 dX12_takes_15 rfl rfl rfl ?_
  refine PW.iconst (v := 0) dX12_takes_16 (by decide) ?_
  refine CW.puti dX12_takes_17 fL_X12_317 rfl LA_193 rfl ?_
  obtain ⟨s4, es4, h⟩ := sbnd h
  refine PW.sbe es4 ?_
  clear es4
  refine PW.aload_n 0 0 dX12_takes_20 rfl rfl rfl ?_
  refine PW.iconst (v := 0) dX12_takes_21 (by decide) ?_
  refine CW.puti dX12_takes_22 fL_X12_320 rfl LA_193 rfl ?_
  obtain ⟨s5, es5, h⟩ := sbnd h
  refine PW.sbe es5 ?_
  clear es5
  cases h
  subst hx
  exact PW.vret dX12_takes_25 rfl (Nat.le_refl 0) (Nat.le_refl 0)
/-! X12_isPressure -/
def f_X12_isPressure (a0 : Int32) (s : cS) : Int32 :=
  (lIn a0.toInt64 (0 : Int64) (99 : Int64))
set_option maxRecDepth 20000 in
set_option maxHeartbeats 4000000 in
theorem p_X12_isPressure {g : pG} {l : Launch} {a0 : Int32} {s : cS} {q : Int32} (h : f_X12_isPressure a0 s = q) : PM g l 2 M_X12_isPressure [.int a0] (tS s) (some (.int q)) (tS s) 0 0 := by
  refine PM.of (by decide +kernel) (Nat.le_of_ble_eq_true rfl) ?_
  show PW g l (pRoom 2 0 0) M_X12_isPressure _ 0 [(0, .int a0)] [] (tS s) 0 0
  unfold f_X12_isPressure at h
  generalize hF : pE g (some (.int q)) (tS s) 0 0 = F
  have hx := hF.symm
  refine PW.iload_n 0 0 dX12_isPressure_0 rfl rfl ?_
  refine PW.i2l dX12_isPressure_1 ?_
  refine PW.lconst (v := 0) dX12_isPressure_2 (by decide) ?_
  refine PW.ldc2_w dX12_isPressure_3 kL_X12_343 ?_
  refine CW.callSi (st := []) [.long a0.toInt64, .long (0 : Int64), .long (99 : Int64)] dX12_isPressure_6 (ps_isIn rfl) MS_X12_isIn mL_X12_164 rfl rfl (Nat.le_of_ble_eq_true rfl) (by first | decide | omega) ?_
  cases h
  subst hx
  exact PW.iret (v := (lIn a0.toInt64 (0 : Int64) (99 : Int64))) dX12_isPressure_9 rfl (narZ (lIn_bool _ _ _)) (Nat.le_refl 0) (Nat.le_refl 0)
theorem f_X12_isPressure_bool {a0 : Int32} {s : cS} : f_X12_isPressure a0 s = 0 ∨ f_X12_isPressure a0 s = 1 := by
  unfold f_X12_isPressure
  repeat' split
  all_goals first | exact Or.inl rfl | exact Or.inr rfl | exact lIn_bool _ _ _
/-! X12_pull -/
def f_X12_pull (N : Nat) (a0 : Int32) (a1 : Int32) (a2 : Int32) (s : cS) : Option (Int32 × cS) :=
  if (f_X12_isCorner a0 s) = 0 then
    some (((-1 : Int32), s))
  else
    if (f_X12_isPressure a1 s) = 0 then
      some (((-1 : Int32), s))
    else
      if (lIn a2.toInt64 (0 : Int64) (1 : Int64)) = 0 then
        some (((-1 : Int32), s))
      else
        tb (f_X12_takes a0 s) fun r7 s8 =>
        sb (iS s8 193 39 a1) fun s10 =>
        sb (iS s10 193 41 (0 : Int32)) fun s11 =>
        ob (f_X12_toldBy N (113 : Int32) (10000 : Int32) s11) fun r12 s13 =>
        sb (iS s13 193 41 r12) fun s15 =>
        if a2 = 0 then
          some ((r12, s15))
        else
          ob (f_X12_toldBy N (100 : Int32) (100000 : Int32) s15) fun r17 s18 =>
          some ((r17, s18))
set_option maxRecDepth 20000 in
set_option maxHeartbeats 4000000 in
theorem p_X12_pull {g : pG} {l : Launch} {N : Nat} {a0 : Int32} {a1 : Int32} {a2 : Int32} {s : cS} {q : Int32 × cS} (h : f_X12_pull N a0 a1 a2 s = some q) : PM g l 5 M_X12_pull [.ref 193, .int a0, .int a1, .int a2] (tS s) (some (.int q.1)) (tS q.2) 0 0 := by
  refine PM.of (by decide +kernel) (Nat.le_of_ble_eq_true rfl) ?_
  show PW g l (pRoom 5 0 0) M_X12_pull _ 0 [(0, .ref 193), (1, .int a0), (2, .int a1), (3, .int a2)] [] (tS s) 0 0
  unfold f_X12_pull at h
  generalize hF : pE g (some (.int q.1)) (tS q.2) 0 0 = F
  have hx := hF.symm
  refine PW.aload_n 0 0 dX12_pull_0 rfl rfl rfl ?_
  refine PW.iload_n 1 1 dX12_pull_1 rfl rfl ?_
  refine CW.callVi (ci := 12) (st := []) [.int a0] dX12_pull_2 (p_X12_isCorner rfl) MV_X12_isCorner mL_X12_177 (by decide) rfl LA_193 rfl rfl (Nat.le_of_ble_eq_true rfl) (by first | decide | omega) ?_
  refine PW.if_eq (tgt := 25) dX12_pull_5 (by decide) (fun c2 => ?_) (fun c2 => ?_)
  · replace h := ifp h c2
    refine PW.iconst (v := (-1)) dX12_pull_25 (by decide) ?_
    cases h
    subst hx
    exact PW.iret (v := (-1 : Int32)) dX12_pull_26 rfl rfl (Nat.le_refl 0) (Nat.le_refl 0)
  · replace h := ifn h c2
    refine PW.iload_n 2 2 dX12_pull_8 rfl rfl ?_
    refine CW.callSi (st := []) [.int a1] dX12_pull_9 (p_X12_isPressure rfl) MS_X12_isPressure mL_X12_345 rfl rfl (Nat.le_of_ble_eq_true rfl) (by first | decide | omega) ?_
    refine PW.if_eq (tgt := 25) dX12_pull_12 (by decide) (fun c4 => ?_) (fun c4 => ?_)
    · replace h := ifp h c4
      refine PW.iconst (v := (-1)) dX12_pull_25 (by decide) ?_
      cases h
      subst hx
      exact PW.iret (v := (-1 : Int32)) dX12_pull_26 rfl rfl (Nat.le_refl 0) (Nat.le_refl 0)
    · replace h := ifn h c4
      refine PW.iload_n 3 3 dX12_pull_15 rfl rfl ?_
      refine PW.i2l dX12_pull_16 ?_
      refine PW.lconst (v := 0) dX12_pull_17 (by decide) ?_
      refine PW.lconst (v := 1) dX12_pull_18 (by decide) ?_
      refine CW.callSi (st := []) [.long a2.toInt64, .long (0 : Int64), .long (1 : Int64)] dX12_pull_19 (ps_isIn rfl) MS_X12_isIn mL_X12_164 rfl rfl (Nat.le_of_ble_eq_true rfl) (by first | decide | omega) ?_
      refine PW.if_ne (tgt := 27) dX12_pull_22 (by decide) (fun c6 => ?_) (fun c6 => ?_)
      · replace h := ifn h c6
        refine PW.aload_n 0 0 dX12_pull_27 rfl rfl rfl ?_
        refine PW.iload_n 1 1 dX12_pull_28 rfl rfl ?_
        obtain ⟨r7, s8, q9, h⟩ := tbnd h
        refine CW.callVv (ci := 12) (st := []) [.int a0] dX12_pull_29 (p_X12_takes q9) MV_X12_takes mL_X12_348 (by decide) rfl LA_193 rfl rfl (Nat.le_of_ble_eq_true rfl) (by first | decide | omega) ?_
        refine PW.aload_n 0 0 dX12_pull_32 rfl rfl rfl ?_
        refine PW.iload_n 2 2 dX12_pull_33 rfl rfl ?_
        refine CW.puti dX12_pull_34 fL_X12_302 rfl LA_193 rfl ?_
        obtain ⟨s10, es10, h⟩ := sbnd h
        refine PW.sbe es10 ?_
        clear es10
        refine PW.aload_n 0 0 dX12_pull_37 rfl rfl rfl ?_
        refine PW.iconst (v := 0) dX12_pull_38 (by decide) ?_
        refine CW.puti dX12_pull_39 fL_X12_311 rfl LA_193 rfl ?_
        obtain ⟨s11, es11, h⟩ := sbnd h
        refine PW.sbe es11 ?_
        clear es11
        refine PW.aload_n 0 0 dX12_pull_42 rfl rfl rfl ?_
        refine PW.bipush (v := 113) dX12_pull_43 (by decide) ?_
        refine PW.sipush (v := 10000) dX12_pull_45 (by decide) ?_
        obtain ⟨r12, s13, q14, h⟩ := obnd h
        refine CW.callVi (ci := 12) (st := []) [.int (113 : Int32), .int (10000 : Int32)] dX12_pull_48 (p_X12_toldBy q14) MV_X12_toldBy mL_X12_337 (by decide) rfl LA_193 rfl rfl (Nat.le_of_ble_eq_true rfl) (by first | decide | omega) ?_
        refine PW.istore dX12_pull_51 (Nat.le_of_ble_eq_true rfl) rfl ?_
        refine PW.aload_n 1 0 dX12_pull_53 rfl rfl rfl ?_
        refine PW.iload 0 dX12_pull_54 rfl ?_
        refine CW.puti dX12_pull_56 fL_X12_311 rfl LA_193 rfl ?_
        obtain ⟨s15, es15, h⟩ := sbnd h
        refine PW.sbe es15 ?_
        clear es15
        refine PW.iload_n 4 3 dX12_pull_59 rfl rfl ?_
        refine PW.if_ne (tgt := 68) dX12_pull_60 (by decide) (fun c16 => ?_) (fun c16 => ?_)
        · replace h := ifn h c16
          refine PW.aload_n 1 0 dX12_pull_68 rfl rfl rfl ?_
          refine PW.bipush (v := 100) dX12_pull_69 (by decide) ?_
          refine PW.ldc_w dX12_pull_71 kL_X12_341 ?_
          obtain ⟨r17, s18, q19, h⟩ := obnd h
          refine CW.callVi (ci := 12) (st := []) [.int (100 : Int32), .int (100000 : Int32)] dX12_pull_74 (p_X12_toldBy q19) MV_X12_toldBy mL_X12_337 (by decide) rfl LA_193 rfl rfl (Nat.le_of_ble_eq_true rfl) (by first | decide | omega) ?_
          cases h
          subst hx
          exact PW.iret (v := r17) dX12_pull_77 rfl rfl (Nat.le_refl 0) (Nat.le_refl 0)
        · replace h := ifp h c16
          refine PW.iload 0 dX12_pull_63 rfl ?_
          refine PW.goto (tgt := 77) dX12_pull_65 (by decide) ?_
          cases h
          subst hx
          exact PW.iret (v := r12) dX12_pull_77 rfl rfl (Nat.le_refl 0) (Nat.le_refl 0)
      · replace h := ifp h c6
        refine PW.iconst (v := (-1)) dX12_pull_25 (by decide) ?_
        cases h
        subst hx
        exact PW.iret (v := (-1 : Int32)) dX12_pull_26 rfl rfl (Nat.le_refl 0) (Nat.le_refl 0)
/-! X12_digits -/
def j_X12_digits_66 (x2 : Int32) (x3 : Int32) (s : cS) : Option (Int32 × cS) :=
  if (f_X12_isGood s) = 0 then
    some ((x3, s))
  else
    if (iG s 193 28) = x2 then
      tb (f_X12_wrongs (1 : Int32) (iG s 193 28) s) fun r6 s7 =>
      some ((x3, s7))
    else
      some ((x3, s))
set_option maxRecDepth 20000 in
set_option maxHeartbeats 4000000 in
theorem ok_j_X12_digits_66 {g : pG} {l : Launch} {F : pF} {x2 : Int32} {x3 : Int32} {s : cS} {x : (Int32 × cS)} (h : j_X12_digits_66 x2 x3 s = some x) (hx : (fun q => F = pE g (some (.int q.1)) (tS q.2) 0 0) x) : PW g l (pRoom 3 0 0) M_X12_digits F 66 [(0, .ref 193), (2, .int x2), (3, .int x3)] [] (tS s) 0 0 := by
  unfold j_X12_digits_66 at h
  refine PW.aload_n 0 0 dX12_digits_66 rfl rfl rfl ?_
  refine CW.callVi (ci := 12) (st := []) [] dX12_digits_67 (p_X12_isGood rfl) MV_X12_isGood mL_X12_201 (by decide) rfl LA_193 rfl rfl (Nat.le_of_ble_eq_true rfl) (by first | decide | omega) ?_
  refine PW.if_eq (tgt := 90) dX12_digits_70 (by decide) (fun c4 => ?_) (fun c4 => ?_)
  · replace h := ifp h c4
    refine PW.iload_n 2 3 dX12_digits_90 rfl rfl ?_
    cases h
    subst hx
    exact PW.iret (v := x3) dX12_digits_91 rfl rfl (Nat.le_refl 0) (Nat.le_refl 0)
  · replace h := ifn h c4
    refine PW.aload_n 0 0 dX12_digits_73 rfl rfl rfl ?_
    refine CW.geti dX12_digits_74 fL_X12_192 LA_193 (Or.inl rfl) ?_
    refine PW.iload_n 1 2 dX12_digits_77 rfl rfl ?_
    refine PW.icmp_ne (tgt := 90) dX12_digits_78 (by decide) (fun c5 => ?_) (fun c5 => ?_)
    · replace h := ifn h c5
      refine PW.iload_n 2 3 dX12_digits_90 rfl rfl ?_
      cases h
      subst hx
      exact PW.iret (v := x3) dX12_digits_91 rfl rfl (Nat.le_refl 0) (Nat.le_refl 0)
    · replace h := ifp h c5
      refine PW.aload_n 0 0 dX12_digits_81 rfl rfl rfl ?_
      refine PW.iconst (v := 1) dX12_digits_82 (by decide) ?_
      refine PW.aload_n 0 0 dX12_digits_83 rfl rfl rfl ?_
      refine CW.geti dX12_digits_84 fL_X12_192 LA_193 (Or.inl rfl) ?_
      obtain ⟨r6, s7, q8, h⟩ := tbnd h
      refine CW.callVv (ci := 12) (st := []) [.int (1 : Int32), .int (iG s 193 28)] dX12_digits_87 (p_X12_wrongs q8) MV_X12_wrongs mL_X12_214 (by decide) rfl LA_193 rfl rfl (Nat.le_of_ble_eq_true rfl) (by first | decide | omega) ?_
      refine PW.iload_n 2 3 dX12_digits_90 rfl rfl ?_
      cases h
      subst hx
      exact PW.iret (v := x3) dX12_digits_91 rfl rfl (Nat.le_refl 0) (Nat.le_refl 0)
def j_X12_digits_40 (x1 : Int32) (x2 : Int32) (x3 : Int32) (s : cS) : Option ((Int32 × cS) ⊕ (Int32 × cS)) :=
  ob (f_X12_here s) fun r14 s15 =>
  sb (iS s15 193 28 ((iG s15 193 28) + (1 : Int32))) fun s17 =>
  some (.inl (((((10 : Int32) * x3) + r14) - (48 : Int32)), s17))
set_option maxRecDepth 20000 in
set_option maxHeartbeats 4000000 in
theorem ok_j_X12_digits_40 {g : pG} {l : Launch} {F : pF} {x1 : Int32} {x2 : Int32} {x3 : Int32} {s : cS} {x : ((Int32 × cS) ⊕ (Int32 × cS))} (h : j_X12_digits_40 x1 x2 x3 s = some x) (hx : (KL (fun (v : Int32 × cS) => PW g l (pRoom 3 0 0) M_X12_digits F 7 [(0, .ref 193), (1, .int x1), (2, .int x2), (3, .int v.1)] [] (tS v.2) 0 0) (fun q => F = pE g (some (.int q.1)) (tS q.2) 0 0)) x) : PW g l (pRoom 3 0 0) M_X12_digits F 40 [(0, .ref 193), (1, .int x1), (2, .int x2), (3, .int x3)] [] (tS s) 0 0 := by
  unfold j_X12_digits_40 at h
  refine PW.bipush (v := 10) dX12_digits_40 (by decide) ?_
  refine PW.iload_n 3 3 dX12_digits_42 rfl rfl ?_
  refine PW.imul dX12_digits_43 ?_
  refine PW.aload_n 0 0 dX12_digits_44 rfl rfl rfl ?_
  obtain ⟨r14, s15, q16, h⟩ := obnd h
  refine CW.callVi (ci := 12) (st := [.int ((10 : Int32) * x3)]) [] dX12_digits_45 (p_X12_here q16) MV_X12_here mL_X12_218 (by decide) rfl LA_193 rfl rfl (Nat.le_of_ble_eq_true rfl) (by first | decide | omega) ?_
  refine PW.iadd dX12_digits_48 ?_
  refine PW.bipush (v := 48) dX12_digits_49 (by decide) ?_
  refine PW.isub dX12_digits_51 ?_
  refine PW.istore_n dX12_digits_52 rfl (Nat.le_of_ble_eq_true rfl) rfl ?_
  refine PW.aload_n 1 0 dX12_digits_53 rfl rfl rfl ?_
  refine PW.dup dX12_digits_54 rfl ?_
  refine CW.geti dX12_digits_55 fL_X12_192 LA_193 (Or.inl rfl) ?_
  refine PW.iconst (v := 1) dX12_digits_58 (by decide) ?_
  refine PW.iadd dX12_digits_59 ?_
  refine CW.puti dX12_digits_60 fL_X12_192 rfl LA_193 rfl ?_
  obtain ⟨s17, es17, h⟩ := sbnd h
  refine PW.sbe es17 ?_
  clear es17
  refine PW.goto (tgt := 7) dX12_digits_63 (by decide) ?_
  cases h
  exact PW.pick [1, 2, 3, 0] rfl hx
def b_X12_digits_7 (x1 : Int32) (x2 : Int32) (x3 : Int32) (s : cS) : Option ((Int32 × cS) ⊕ (Int32 × cS)) :=
  if (f_X12_isGood s) = 0 then
    oR (
      j_X12_digits_66 x2 x3 s)
  else
    ob (f_X12_seesDigit s) fun r9 s10 =>
    if r9 = 0 then
      oR (
        j_X12_digits_66 x2 x3 s10)
    else
      if (iG s10 193 28) = (x2 + x1) then
        tb (f_X12_wrongs (2 : Int32) (iG s10 193 28) s10) fun r18 s19 =>
        j_X12_digits_40 x1 x2 x3 s19
      else
        j_X12_digits_40 x1 x2 x3 s10
set_option maxRecDepth 20000 in
set_option maxHeartbeats 4000000 in
theorem ok_b_X12_digits_7 {g : pG} {l : Launch} {F : pF} {x1 : Int32} {x2 : Int32} {x3 : Int32} {s : cS} {x : ((Int32 × cS) ⊕ (Int32 × cS))} (h : b_X12_digits_7 x1 x2 x3 s = some x) (hx : (KL (fun (v : Int32 × cS) => PW g l (pRoom 3 0 0) M_X12_digits F 7 [(0, .ref 193), (1, .int x1), (2, .int x2), (3, .int v.1)] [] (tS v.2) 0 0) (fun q => F = pE g (some (.int q.1)) (tS q.2) 0 0)) x) : PW g l (pRoom 3 0 0) M_X12_digits F 7 [(0, .ref 193), (1, .int x1), (2, .int x2), (3, .int x3)] [] (tS s) 0 0 := by
  unfold b_X12_digits_7 at h
  refine PW.aload_n 0 0 dX12_digits_7 rfl rfl rfl ?_
  refine CW.callVi (ci := 12) (st := []) [] dX12_digits_8 (p_X12_isGood rfl) MV_X12_isGood mL_X12_201 (by decide) rfl LA_193 rfl rfl (Nat.le_of_ble_eq_true rfl) (by first | decide | omega) ?_
  refine PW.if_eq (tgt := 66) dX12_digits_11 (by decide) (fun c2 => ?_) (fun c2 => ?_)
  · replace h := ifp h c2
    obtain ⟨xo, hy, hxo⟩ := oRb h
    clear h
    subst hxo
    replace hx := KLr hx
    have h := hy
    clear hy
    exact PW.pick [0, 2, 3] rfl (ok_j_X12_digits_66 h hx)
  · replace h := ifn h c2
    refine PW.aload_n 0 0 dX12_digits_14 rfl rfl rfl ?_
    obtain ⟨r9, s10, q11, h⟩ := obnd h
    refine CW.callVi (ci := 12) (st := []) [] dX12_digits_15 (p_X12_seesDigit q11) MV_X12_seesDigit mL_X12_229 (by decide) rfl LA_193 rfl rfl (Nat.le_of_ble_eq_true rfl) (by first | decide | omega) ?_
    refine PW.if_eq (tgt := 66) dX12_digits_18 (by decide) (fun c12 => ?_) (fun c12 => ?_)
    · replace h := ifp h c12
      obtain ⟨xo, hy, hxo⟩ := oRb h
      clear h
      subst hxo
      replace hx := KLr hx
      have h := hy
      clear hy
      exact PW.pick [0, 2, 3] rfl (ok_j_X12_digits_66 h hx)
    · replace h := ifn h c12
      refine PW.aload_n 0 0 dX12_digits_21 rfl rfl rfl ?_
      refine CW.geti dX12_digits_22 fL_X12_192 LA_193 (Or.inl rfl) ?_
      refine PW.iload_n 2 2 dX12_digits_25 rfl rfl ?_
      refine PW.iload_n 1 1 dX12_digits_26 rfl rfl ?_
      refine PW.iadd dX12_digits_27 ?_
      refine PW.icmp_ne (tgt := 40) dX12_digits_28 (by decide) (fun c13 => ?_) (fun c13 => ?_)
      · replace h := ifn h c13
        exact PW.pick [0, 1, 2, 3] rfl (ok_j_X12_digits_40 h hx)
      · replace h := ifp h c13
        refine PW.aload_n 0 0 dX12_digits_31 rfl rfl rfl ?_
        refine PW.iconst (v := 2) dX12_digits_32 (by decide) ?_
        refine PW.aload_n 0 0 dX12_digits_33 rfl rfl rfl ?_
        refine CW.geti dX12_digits_34 fL_X12_192 LA_193 (Or.inl rfl) ?_
        obtain ⟨r18, s19, q20, h⟩ := tbnd h
        refine CW.callVv (ci := 12) (st := []) [.int (2 : Int32), .int (iG s10 193 28)] dX12_digits_37 (p_X12_wrongs q20) MV_X12_wrongs mL_X12_214 (by decide) rfl LA_193 rfl rfl (Nat.le_of_ble_eq_true rfl) (by first | decide | omega) ?_
        exact PW.pick [0, 1, 2, 3] rfl (ok_j_X12_digits_40 h hx)
def w_X12_digits_7 (N : Nat) (x1 : Int32) (x2 : Int32) (x3 : Int32) (s : cS) : Option (Int32 × cS) := itr (fun (v : Int32 × cS) => b_X12_digits_7 x1 x2 v.1 v.2) N (x3, s)
theorem ok_w_X12_digits_7 {g : pG} {l : Launch} {F : pF} {N : Nat} {x1 : Int32} {x2 : Int32} {x3 : Int32} {s : cS} {x : (Int32 × cS)} (h : w_X12_digits_7 N x1 x2 x3 s = some x) (hx : (fun q => F = pE g (some (.int q.1)) (tS q.2) 0 0) x) : PW g l (pRoom 3 0 0) M_X12_digits F 7 [(0, .ref 193), (1, .int x1), (2, .int x2), (3, .int x3)] [] (tS s) 0 0 :=
  okIter (P := (fun (v : Int32 × cS) => PW g l (pRoom 3 0 0) M_X12_digits F 7 [(0, .ref 193), (1, .int x1), (2, .int x2), (3, .int v.1)] [] (tS v.2) 0 0)) (K := (fun q => F = pE g (some (.int q.1)) (tS q.2) 0 0)) (fun v y hB hy => ok_b_X12_digits_7 hB hy) N (x3, s) x h hx
def f_X12_digits (N : Nat) (a0 : Int32) (s : cS) : Option (Int32 × cS) :=
  w_X12_digits_7 N a0 (iG s 193 28) (0 : Int32) s
set_option maxRecDepth 20000 in
set_option maxHeartbeats 4000000 in
theorem p_X12_digits {g : pG} {l : Launch} {N : Nat} {a0 : Int32} {s : cS} {q : Int32 × cS} (h : f_X12_digits N a0 s = some q) : PM g l 3 M_X12_digits [.ref 193, .int a0] (tS s) (some (.int q.1)) (tS q.2) 0 0 := by
  refine PM.of (by decide +kernel) (Nat.le_of_ble_eq_true rfl) ?_
  show PW g l (pRoom 3 0 0) M_X12_digits _ 0 [(0, .ref 193), (1, .int a0)] [] (tS s) 0 0
  unfold f_X12_digits at h
  generalize hF : pE g (some (.int q.1)) (tS q.2) 0 0 = F
  have hx := hF.symm
  refine PW.aload_n 0 0 dX12_digits_0 rfl rfl rfl ?_
  refine CW.geti dX12_digits_1 fL_X12_192 LA_193 (Or.inl rfl) ?_
  refine PW.istore_n dX12_digits_4 rfl (Nat.le_of_ble_eq_true rfl) rfl ?_
  refine PW.iconst (v := 0) dX12_digits_5 (by decide) ?_
  refine PW.istore_n dX12_digits_6 rfl (Nat.le_of_ble_eq_true rfl) rfl ?_
  exact PW.pick [2, 3, 1, 0] rfl (ok_w_X12_digits_7 h hx)
/-! X12_part -/
def j_X12_part_120 (x1 : Int32) (x2 : Int32) (x4 : Int32) (s : cS) : Option (Int32 × cS) :=
  if inb x1 8 then
  sb (iS s 222 x1.toNatClampNeg x4) fun s14 =>
  some (((x2 + x4), s14))
  else none
set_option maxRecDepth 20000 in
set_option maxHeartbeats 4000000 in
theorem ok_j_X12_part_120 {g : pG} {l : Launch} {F : pF} {x1 : Int32} {x2 : Int32} {x4 : Int32} {s : cS} {x : (Int32 × cS)} (h : j_X12_part_120 x1 x2 x4 s = some x) (hx : (fun q => F = pE g (some (.int q.1)) (tS q.2) 0 0) x) : PW g l (pRoom 4 0 0) M_X12_part F 120 [(0, .ref 193), (1, .int x1), (2, .int x2), (4, .int x4)] [] (tS s) 0 0 := by
  unfold j_X12_part_120 at h
  refine PW.aload_n 0 0 dX12_part_120 rfl rfl rfl ?_
  refine CW.getr dX12_part_121 fL_X12_96 LA_193 (Or.inr ⟨_, rfl⟩) rfl ?_
  refine PW.iload_n 1 1 dX12_part_124 rfl rfl ?_
  refine PW.iload 3 dX12_part_125 rfl ?_
  by_cases c13 : inb x1 8
  rotate_left
  · have h := ifn h c13; cases h
  replace h := ifp h c13
  refine CW.iast dX12_part_127 LA_222 c13 ?_
  obtain ⟨s14, es14, h⟩ := sbnd h
  refine PW.sbe es14 ?_
  clear es14
  refine PW.iload_n 2 2 dX12_part_128 rfl rfl ?_
  refine PW.iload 3 dX12_part_129 rfl ?_
  refine PW.iadd dX12_part_131 ?_
  cases h
  subst hx
  exact PW.iret (v := (x2 + x4)) dX12_part_132 rfl rfl (Nat.le_refl 0) (Nat.le_refl 0)
def j_X12_part_114 (x1 : Int32) (x2 : Int32) (x3 : Int32) (x4 : Int32) (s : cS) : Option (Int32 × cS) :=
  tb (f_X12_wrongs (3 : Int32) x3 s) fun r16 s17 =>
  j_X12_part_120 x1 x2 x4 s17
set_option maxRecDepth 20000 in
set_option maxHeartbeats 4000000 in
theorem ok_j_X12_part_114 {g : pG} {l : Launch} {F : pF} {x1 : Int32} {x2 : Int32} {x3 : Int32} {x4 : Int32} {s : cS} {x : (Int32 × cS)} (h : j_X12_part_114 x1 x2 x3 x4 s = some x) (hx : (fun q => F = pE g (some (.int q.1)) (tS q.2) 0 0) x) : PW g l (pRoom 4 0 0) M_X12_part F 114 [(0, .ref 193), (1, .int x1), (2, .int x2), (3, .int x3), (4, .int x4)] [] (tS s) 0 0 := by
  unfold j_X12_part_114 at h
  refine PW.aload_n 0 0 dX12_part_114 rfl rfl rfl ?_
  refine PW.iconst (v := 3) dX12_part_115 (by decide) ?_
  refine PW.iload_n 3 3 dX12_part_116 rfl rfl ?_
  obtain ⟨r16, s17, q18, h⟩ := tbnd h
  refine CW.callVv (ci := 12) (st := []) [.int (3 : Int32), .int x3] dX12_part_117 (p_X12_wrongs q18) MV_X12_wrongs mL_X12_214 (by decide) rfl LA_193 rfl rfl (Nat.le_of_ble_eq_true rfl) (by first | decide | omega) ?_
  exact PW.pick [0, 1, 2, 4] rfl (ok_j_X12_part_120 h hx)
def j_X12_part_92 (x1 : Int32) (x2 : Int32) (x3 : Int32) (x4 : Int32) (s : cS) : Option (Int32 × cS) :=
  if (f_X12_isGood s) = 0 then
    j_X12_part_120 x1 x2 x4 s
  else
    if x4 = 0 then
      j_X12_part_114 x1 x2 x3 x4 s
    else
      if (x2 + x4) ≤ (2000 : Int32) then
        j_X12_part_120 x1 x2 x4 s
      else
        j_X12_part_114 x1 x2 x3 x4 s
set_option maxRecDepth 20000 in
set_option maxHeartbeats 4000000 in
theorem ok_j_X12_part_92 {g : pG} {l : Launch} {F : pF} {x1 : Int32} {x2 : Int32} {x3 : Int32} {x4 : Int32} {s : cS} {x : (Int32 × cS)} (h : j_X12_part_92 x1 x2 x3 x4 s = some x) (hx : (fun q => F = pE g (some (.int q.1)) (tS q.2) 0 0) x) : PW g l (pRoom 4 0 0) M_X12_part F 92 [(0, .ref 193), (1, .int x1), (2, .int x2), (3, .int x3), (4, .int x4)] [] (tS s) 0 0 := by
  unfold j_X12_part_92 at h
  refine PW.aload_n 0 0 dX12_part_92 rfl rfl rfl ?_
  refine CW.callVi (ci := 12) (st := []) [] dX12_part_93 (p_X12_isGood rfl) MV_X12_isGood mL_X12_201 (by decide) rfl LA_193 rfl rfl (Nat.le_of_ble_eq_true rfl) (by first | decide | omega) ?_
  refine PW.if_eq (tgt := 120) dX12_part_96 (by decide) (fun c12 => ?_) (fun c12 => ?_)
  · replace h := ifp h c12
    exact PW.pick [0, 1, 2, 4] rfl (ok_j_X12_part_120 h hx)
  · replace h := ifn h c12
    refine PW.iload 4 dX12_part_99 rfl ?_
    refine PW.if_eq (tgt := 114) dX12_part_101 (by decide) (fun c15 => ?_) (fun c15 => ?_)
    · replace h := ifp h c15
      exact PW.pick [0, 1, 2, 3, 4] rfl (ok_j_X12_part_114 h hx)
    · replace h := ifn h c15
      refine PW.iload_n 2 2 dX12_part_104 rfl rfl ?_
      refine PW.iload 4 dX12_part_105 rfl ?_
      refine PW.iadd dX12_part_107 ?_
      refine PW.sipush (v := 2000) dX12_part_108 (by decide) ?_
      refine PW.icmp_le (tgt := 120) dX12_part_111 (by decide) (fun c19 => ?_) (fun c19 => ?_)
      · replace h := ifp h c19
        exact PW.pick [0, 1, 2, 4] rfl (ok_j_X12_part_120 h hx)
      · replace h := ifn h c19
        exact PW.pick [0, 1, 2, 3, 4] rfl (ok_j_X12_part_114 h hx)
def j_X12_part_26 (N : Nat) (x1 : Int32) (x2 : Int32) (s : cS) : Option (Int32 × cS) :=
  if (f_X12_isGood s) = 0 then
    some ((x2, s))
  else
    ob (f_X12_digits N (2 : Int32) s) fun r4 s5 =>
    if inb x1 8 then
    sb (iS s5 221 x1.toNatClampNeg r4) fun s8 =>
    if (f_X12_isGood s8) = 0 then
      j_X12_part_92 x1 x2 (iG s 193 28) (1 : Int32) s8
    else
      ob (f_X12_here s8) fun r20 s21 =>
      if r20 = (42 : Int32) then
        sb (iS s21 193 28 ((iG s21 193 28) + (1 : Int32))) fun s24 =>
        ob (f_X12_digits N (4 : Int32) s24) fun r25 s26 =>
        j_X12_part_92 x1 x2 (iG s24 193 28) r25 s26
      else
        j_X12_part_92 x1 x2 (iG s 193 28) (1 : Int32) s21
    else none
set_option maxRecDepth 20000 in
set_option maxHeartbeats 4000000 in
theorem ok_j_X12_part_26 {g : pG} {l : Launch} {F : pF} {N : Nat} {x1 : Int32} {x2 : Int32} {s : cS} {x : (Int32 × cS)} (h : j_X12_part_26 N x1 x2 s = some x) (hx : (fun q => F = pE g (some (.int q.1)) (tS q.2) 0 0) x) : PW g l (pRoom 4 0 0) M_X12_part F 26 [(0, .ref 193), (1, .int x1), (2, .int x2)] [] (tS s) 0 0 := by
  unfold j_X12_part_26 at h
  refine PW.aload_n 0 0 dX12_part_26 rfl rfl rfl ?_
  refine CW.callVi (ci := 12) (st := []) [] dX12_part_27 (p_X12_isGood rfl) MV_X12_isGood mL_X12_201 (by decide) rfl LA_193 rfl rfl (Nat.le_of_ble_eq_true rfl) (by first | decide | omega) ?_
  refine PW.if_ne (tgt := 35) dX12_part_30 (by decide) (fun c3 => ?_) (fun c3 => ?_)
  · replace h := ifn h c3
    refine PW.aload_n 0 0 dX12_part_35 rfl rfl rfl ?_
    refine CW.geti dX12_part_36 fL_X12_192 LA_193 (Or.inl rfl) ?_
    refine PW.istore_n dX12_part_39 rfl (Nat.le_of_ble_eq_true rfl) rfl ?_
    refine PW.aload_n 1 0 dX12_part_40 rfl rfl rfl ?_
    refine CW.getr dX12_part_41 fL_X12_93 LA_193 (Or.inr ⟨_, rfl⟩) rfl ?_
    refine PW.iload_n 2 1 dX12_part_44 rfl rfl ?_
    refine PW.aload_n 1 0 dX12_part_45 rfl rfl rfl ?_
    refine PW.iconst (v := 2) dX12_part_46 (by decide) ?_
    obtain ⟨r4, s5, q6, h⟩ := obnd h
    refine CW.callVi (ci := 12) (st := [.int x1, .ref 221]) [.int (2 : Int32)] dX12_part_47 (p_X12_digits q6) MV_X12_digits mL_X12_351 (by decide) rfl LA_193 rfl rfl (Nat.le_of_ble_eq_true rfl) (by first | decide | omega) ?_
    by_cases c7 : inb x1 8
    rotate_left
    · have h := ifn h c7; cases h
    replace h := ifp h c7
    refine CW.iast dX12_part_50 LA_221 c7 ?_
    obtain ⟨s8, es8, h⟩ := sbnd h
    refine PW.sbe es8 ?_
    clear es8
    refine PW.iconst (v := 1) dX12_part_51 (by decide) ?_
    refine PW.istore dX12_part_52 (Nat.le_of_ble_eq_true rfl) rfl ?_
    refine PW.aload_n 2 0 dX12_part_54 rfl rfl rfl ?_
    refine CW.callVi (ci := 12) (st := []) [] dX12_part_55 (p_X12_isGood rfl) MV_X12_isGood mL_X12_201 (by decide) rfl LA_193 rfl rfl (Nat.le_of_ble_eq_true rfl) (by first | decide | omega) ?_
    refine PW.if_eq (tgt := 92) dX12_part_58 (by decide) (fun c10 => ?_) (fun c10 => ?_)
    · replace h := ifp h c10
      exact PW.pick [2, 3, 4, 1, 0] rfl (ok_j_X12_part_92 h hx)
    · replace h := ifn h c10
      refine PW.aload_n 2 0 dX12_part_61 rfl rfl rfl ?_
      obtain ⟨r20, s21, q22, h⟩ := obnd h
      refine CW.callVi (ci := 12) (st := []) [] dX12_part_62 (p_X12_here q22) MV_X12_here mL_X12_218 (by decide) rfl LA_193 rfl rfl (Nat.le_of_ble_eq_true rfl) (by first | decide | omega) ?_
      refine PW.bipush (v := 42) dX12_part_65 (by decide) ?_
      refine PW.icmp_ne (tgt := 92) dX12_part_67 (by decide) (fun c23 => ?_) (fun c23 => ?_)
      · replace h := ifn h c23
        exact PW.pick [2, 3, 4, 1, 0] rfl (ok_j_X12_part_92 h hx)
      · replace h := ifp h c23
        refine PW.aload_n 2 0 dX12_part_70 rfl rfl rfl ?_
        refine PW.dup dX12_part_71 rfl ?_
        refine CW.geti dX12_part_72 fL_X12_192 LA_193 (Or.inl rfl) ?_
        refine PW.iconst (v := 1) dX12_part_75 (by decide) ?_
        refine PW.iadd dX12_part_76 ?_
        refine CW.puti dX12_part_77 fL_X12_192 rfl LA_193 rfl ?_
        obtain ⟨s24, es24, h⟩ := sbnd h
        refine PW.sbe es24 ?_
        clear es24
        refine PW.aload_n 2 0 dX12_part_80 rfl rfl rfl ?_
        refine CW.geti dX12_part_81 fL_X12_192 LA_193 (Or.inl rfl) ?_
        refine PW.istore_n dX12_part_84 rfl (Nat.le_of_ble_eq_true rfl) rfl ?_
        refine PW.aload_n 2 0 dX12_part_85 rfl rfl rfl ?_
        refine PW.iconst (v := 4) dX12_part_86 (by decide) ?_
        obtain ⟨r25, s26, q27, h⟩ := obnd h
        refine CW.callVi (ci := 12) (st := []) [.int (4 : Int32)] dX12_part_87 (p_X12_digits q27) MV_X12_digits mL_X12_351 (by decide) rfl LA_193 rfl rfl (Nat.le_of_ble_eq_true rfl) (by first | decide | omega) ?_
        refine PW.istore dX12_part_90 (Nat.le_of_ble_eq_true rfl) rfl ?_
        exact PW.pick [2, 3, 4, 1, 0] rfl (ok_j_X12_part_92 h hx)
  · replace h := ifp h c3
    refine PW.iload_n 2 2 dX12_part_33 rfl rfl ?_
    cases h
    subst hx
    exact PW.iret (v := x2) dX12_part_34 rfl rfl (Nat.le_refl 0) (Nat.le_refl 0)
def j_X12_part_19 (N : Nat) (x1 : Int32) (x2 : Int32) (y1 : Int32) (s : cS) : Option (Int32 × cS) :=
  tb (f_X12_wrongs y1 (iG s 193 28) s) fun r32 s33 =>
  j_X12_part_26 N x1 x2 s33
set_option maxRecDepth 20000 in
set_option maxHeartbeats 4000000 in
theorem ok_j_X12_part_19 {g : pG} {l : Launch} {F : pF} {N : Nat} {x1 : Int32} {x2 : Int32} {y1 : Int32} {s : cS} {x : (Int32 × cS)} (h : j_X12_part_19 N x1 x2 y1 s = some x) (hx : (fun q => F = pE g (some (.int q.1)) (tS q.2) 0 0) x) : PW g l (pRoom 4 0 0) M_X12_part F 19 [(0, .ref 193), (1, .int x1), (2, .int x2)] [.int y1, .ref 193] (tS s) 0 0 := by
  unfold j_X12_part_19 at h
  refine PW.aload_n 0 0 dX12_part_19 rfl rfl rfl ?_
  refine CW.geti dX12_part_20 fL_X12_192 LA_193 (Or.inl rfl) ?_
  obtain ⟨r32, s33, q34, h⟩ := tbnd h
  refine CW.callVv (ci := 12) (st := []) [.int y1, .int (iG s 193 28)] dX12_part_23 (p_X12_wrongs q34) MV_X12_wrongs mL_X12_214 (by decide) rfl LA_193 rfl rfl (Nat.le_of_ble_eq_true rfl) (by first | decide | omega) ?_
  exact PW.pick [0, 1, 2] rfl (ok_j_X12_part_26 h hx)
def f_X12_part (N : Nat) (a0 : Int32) (a1 : Int32) (s : cS) : Option (Int32 × cS) :=
  if a0 = (8 : Int32) then
    ob (f_X12_seesDigit s) fun r28 s29 =>
    if r28 = 0 then
      j_X12_part_19 N a0 a1 (1 : Int32) s29
    else
      j_X12_part_19 N a0 a1 (4 : Int32) s29
  else
    j_X12_part_26 N a0 a1 s
set_option maxRecDepth 20000 in
set_option maxHeartbeats 4000000 in
theorem p_X12_part {g : pG} {l : Launch} {N : Nat} {a0 : Int32} {a1 : Int32} {s : cS} {q : Int32 × cS} (h : f_X12_part N a0 a1 s = some q) : PM g l 4 M_X12_part [.ref 193, .int a0, .int a1] (tS s) (some (.int q.1)) (tS q.2) 0 0 := by
  refine PM.of (by decide +kernel) (Nat.le_of_ble_eq_true rfl) ?_
  show PW g l (pRoom 4 0 0) M_X12_part _ 0 [(0, .ref 193), (1, .int a0), (2, .int a1)] [] (tS s) 0 0
  unfold f_X12_part at h
  generalize hF : pE g (some (.int q.1)) (tS q.2) 0 0 = F
  have hx := hF.symm
  refine PW.iload_n 1 1 dX12_part_0 rfl rfl ?_
  refine PW.bipush (v := 8) dX12_part_1 (by decide) ?_
  refine PW.icmp_ne (tgt := 26) dX12_part_3 (by decide) (fun c1 => ?_) (fun c1 => ?_)
  · replace h := ifn h c1
    exact PW.pick [0, 1, 2] rfl (ok_j_X12_part_26 h hx)
  · replace h := ifp h c1
    refine PW.aload_n 0 0 dX12_part_6 rfl rfl rfl ?_
    refine PW.aload_n 0 0 dX12_part_7 rfl rfl rfl ?_
    obtain ⟨r28, s29, q30, h⟩ := obnd h
    refine CW.callVi (ci := 12) (st := [.ref 193]) [] dX12_part_8 (p_X12_seesDigit q30) MV_X12_seesDigit mL_X12_229 (by decide) rfl LA_193 rfl rfl (Nat.le_of_ble_eq_true rfl) (by first | decide | omega) ?_
    refine PW.if_eq (tgt := 18) dX12_part_11 (by decide) (fun c31 => ?_) (fun c31 => ?_)
    · replace h := ifp h c31
      refine PW.iconst (v := 1) dX12_part_18 (by decide) ?_
      exact PW.pick [0, 1, 2] rfl (ok_j_X12_part_19 h hx)
    · replace h := ifn h c31
      refine PW.iconst (v := 4) dX12_part_14 (by decide) ?_
      refine PW.goto (tgt := 19) dX12_part_15 (by decide) ?_
      exact PW.pick [0, 1, 2] rfl (ok_j_X12_part_19 h hx)
/-! X12_isProgram -/
def f_X12_isProgram (a0 : Int32) (s : cS) : Int32 :=
  (lIn a0.toInt64 (0 : Int64) (7 : Int64))
set_option maxRecDepth 20000 in
set_option maxHeartbeats 4000000 in
theorem p_X12_isProgram {g : pG} {l : Launch} {a0 : Int32} {s : cS} {q : Int32} (h : f_X12_isProgram a0 s = q) : PM g l 2 M_X12_isProgram [.int a0] (tS s) (some (.int q)) (tS s) 0 0 := by
  refine PM.of (by decide +kernel) (Nat.le_of_ble_eq_true rfl) ?_
  show PW g l (pRoom 2 0 0) M_X12_isProgram _ 0 [(0, .int a0)] [] (tS s) 0 0
  unfold f_X12_isProgram at h
  generalize hF : pE g (some (.int q)) (tS s) 0 0 = F
  have hx := hF.symm
  refine PW.iload_n 0 0 dX12_isProgram_0 rfl rfl ?_
  refine PW.i2l dX12_isProgram_1 ?_
  refine PW.lconst (v := 0) dX12_isProgram_2 (by decide) ?_
  refine PW.ldc2_w dX12_isProgram_3 kL_X12_354 ?_
  refine CW.callSi (st := []) [.long a0.toInt64, .long (0 : Int64), .long (7 : Int64)] dX12_isProgram_6 (ps_isIn rfl) MS_X12_isIn mL_X12_164 rfl rfl (Nat.le_of_ble_eq_true rfl) (by first | decide | omega) ?_
  cases h
  subst hx
  exact PW.iret (v := (lIn a0.toInt64 (0 : Int64) (7 : Int64))) dX12_isProgram_9 rfl (narZ (lIn_bool _ _ _)) (Nat.le_refl 0) (Nat.le_refl 0)
theorem f_X12_isProgram_bool {a0 : Int32} {s : cS} : f_X12_isProgram a0 s = 0 ∨ f_X12_isProgram a0 s = 1 := by
  unfold f_X12_isProgram
  repeat' split
  all_goals first | exact Or.inl rfl | exact Or.inr rfl | exact lIn_bool _ _ _
/-! X12_program -/
def b_X12_program_157 (x1 : Int32) (x3 : Int32) (x4 : Int32) (x6 : Int32) (s : cS) : Option ((Int32 × cS) ⊕ (Int32 × cS)) :=
  if x3 ≤ x6 then
    oR (
      if inb x1 16 then
      sb (iS s 217 x1.toNatClampNeg x3) fun s14 =>
      sb (iS s14 220 x1.toNatClampNeg x4) fun s15 =>
      some ((x4, s15))
      else none)
  else
    if inb x6 8 then
    if inb (((8 : Int32) * x1) + x6) 128 then
    sb (iS s 218 (((8 : Int32) * x1) + x6).toNatClampNeg (iG s 221 x6.toNatClampNeg)) fun s18 =>
    sb (iS s18 219 (((8 : Int32) * x1) + x6).toNatClampNeg (iG s18 222 x6.toNatClampNeg)) fun s19 =>
    some (.inl ((x6 + (1 : Int32)), s19))
    else none
    else none
set_option maxRecDepth 20000 in
set_option maxHeartbeats 4000000 in
theorem ok_b_X12_program_157 {g : pG} {l : Launch} {F : pF} {x1 : Int32} {x3 : Int32} {x4 : Int32} {x6 : Int32} {s : cS} {x : ((Int32 × cS) ⊕ (Int32 × cS))} (h : b_X12_program_157 x1 x3 x4 x6 s = some x) (hx : (KL (fun (v : Int32 × cS) => PW g l (pRoom 5 0 0) M_X12_program F 157 [(0, .ref 193), (1, .int x1), (3, .int x3), (4, .int x4), (6, .int v.1)] [] (tS v.2) 0 0) (fun q => F = pE g (some (.int q.1)) (tS q.2) 0 0)) x) : PW g l (pRoom 5 0 0) M_X12_program F 157 [(0, .ref 193), (1, .int x1), (3, .int x3), (4, .int x4), (6, .int x6)] [] (tS s) 0 0 := by
  unfold b_X12_program_157 at h
  refine PW.iload 4 dX12_program_157 rfl ?_
  refine PW.iload_n 2 3 dX12_program_159 rfl rfl ?_
  refine PW.icmp_ge (tgt := 207) dX12_program_160 (by decide) (fun c12 => ?_) (fun c12 => ?_)
  · replace h := ifp h c12
    obtain ⟨xo, hy, hxo⟩ := oRb h
    clear h
    subst hxo
    replace hx := KLr hx
    have h := hy
    clear hy
    refine PW.aload_n 0 0 dX12_program_207 rfl rfl rfl ?_
    refine CW.getr dX12_program_208 fL_X12_81 LA_193 (Or.inr ⟨_, rfl⟩) rfl ?_
    refine PW.iload_n 1 1 dX12_program_211 rfl rfl ?_
    refine PW.iload_n 2 3 dX12_program_212 rfl rfl ?_
    by_cases c13 : inb x1 16
    rotate_left
    · have h := ifn h c13; cases h
    replace h := ifp h c13
    refine CW.iast dX12_program_213 LA_217 c13 ?_
    obtain ⟨s14, es14, h⟩ := sbnd h
    refine PW.sbe es14 ?_
    clear es14
    refine PW.aload_n 0 0 dX12_program_214 rfl rfl rfl ?_
    refine CW.getr dX12_program_215 fL_X12_90 LA_193 (Or.inr ⟨_, rfl⟩) rfl ?_
    refine PW.iload_n 1 1 dX12_program_218 rfl rfl ?_
    refine PW.iload 3 dX12_program_219 rfl ?_
    refine CW.iast dX12_program_221 LA_220 c13 ?_
    obtain ⟨s15, es15, h⟩ := sbnd h
    refine PW.sbe es15 ?_
    clear es15
    refine PW.iload 3 dX12_program_222 rfl ?_
    cases h
    subst hx
    exact PW.iret (v := x4) dX12_program_224 rfl rfl (Nat.le_refl 0) (Nat.le_refl 0)
  · replace h := ifn h c12
    refine PW.aload_n 0 0 dX12_program_163 rfl rfl rfl ?_
    refine CW.getr dX12_program_164 fL_X12_84 LA_193 (Or.inr ⟨_, rfl⟩) rfl ?_
    refine PW.bipush (v := 8) dX12_program_167 (by decide) ?_
    refine PW.iload_n 1 1 dX12_program_169 rfl rfl ?_
    refine PW.imul dX12_program_170 ?_
    refine PW.iload 4 dX12_program_171 rfl ?_
    refine PW.iadd dX12_program_173 ?_
    refine PW.aload_n 0 0 dX12_program_174 rfl rfl rfl ?_
    refine CW.getr dX12_program_175 fL_X12_93 LA_193 (Or.inr ⟨_, rfl⟩) rfl ?_
    refine PW.iload 4 dX12_program_178 rfl ?_
    by_cases c16 : inb x6 8
    rotate_left
    · have h := ifn h c16; cases h
    replace h := ifp h c16
    refine CW.iald dX12_program_180 LA_221 c16 ?_
    by_cases c17 : inb (((8 : Int32) * x1) + x6) 128
    rotate_left
    · have h := ifn h c17; cases h
    replace h := ifp h c17
    refine CW.iast dX12_program_181 LA_218 c17 ?_
    obtain ⟨s18, es18, h⟩ := sbnd h
    refine PW.sbe es18 ?_
    clear es18
    refine PW.aload_n 0 0 dX12_program_182 rfl rfl rfl ?_
    refine CW.getr dX12_program_183 fL_X12_87 LA_193 (Or.inr ⟨_, rfl⟩) rfl ?_
    refine PW.bipush (v := 8) dX12_program_186 (by decide) ?_
    refine PW.iload_n 1 1 dX12_program_188 rfl rfl ?_
    refine PW.imul dX12_program_189 ?_
    refine PW.iload 4 dX12_program_190 rfl ?_
    refine PW.iadd dX12_program_192 ?_
    refine PW.aload_n 0 0 dX12_program_193 rfl rfl rfl ?_
    refine CW.getr dX12_program_194 fL_X12_96 LA_193 (Or.inr ⟨_, rfl⟩) rfl ?_
    refine PW.iload 4 dX12_program_197 rfl ?_
    refine CW.iald dX12_program_199 LA_222 c16 ?_
    refine CW.iast dX12_program_200 LA_219 c17 ?_
    obtain ⟨s19, es19, h⟩ := sbnd h
    refine PW.sbe es19 ?_
    clear es19
    refine PW.iinc (v := (x6 + (1 : Int32))) 4 dX12_program_201 rfl (by first | rfl | decide) (Nat.le_of_ble_eq_true rfl) rfl ?_
    refine PW.goto (tgt := 157) dX12_program_204 (by decide) ?_
    cases h
    exact PW.pick [1, 2, 3, 4, 0] rfl hx
def w_X12_program_157 (N : Nat) (x1 : Int32) (x3 : Int32) (x4 : Int32) (x6 : Int32) (s : cS) : Option (Int32 × cS) := itr (fun (v : Int32 × cS) => b_X12_program_157 x1 x3 x4 v.1 v.2) N (x6, s)
theorem ok_w_X12_program_157 {g : pG} {l : Launch} {F : pF} {N : Nat} {x1 : Int32} {x3 : Int32} {x4 : Int32} {x6 : Int32} {s : cS} {x : (Int32 × cS)} (h : w_X12_program_157 N x1 x3 x4 x6 s = some x) (hx : (fun q => F = pE g (some (.int q.1)) (tS q.2) 0 0) x) : PW g l (pRoom 5 0 0) M_X12_program F 157 [(0, .ref 193), (1, .int x1), (3, .int x3), (4, .int x4), (6, .int x6)] [] (tS s) 0 0 :=
  okIter (P := (fun (v : Int32 × cS) => PW g l (pRoom 5 0 0) M_X12_program F 157 [(0, .ref 193), (1, .int x1), (3, .int x3), (4, .int x4), (6, .int v.1)] [] (tS v.2) 0 0)) (K := (fun q => F = pE g (some (.int q.1)) (tS q.2) 0 0)) (fun v y hB hy => ok_b_X12_program_157 hB hy) N (x6, s) x h hx
def j_X12_program_142 (N : Nat) (x1 : Int32) (x3 : Int32) (x4 : Int32) (s : cS) : Option (Int32 × cS) :=
  if 0 ≤ (iG s 193 30) then
    w_X12_program_157 N x1 x3 x4 (0 : Int32) s
  else
    some (((iG s 193 30), s))
set_option maxRecDepth 20000 in
set_option maxHeartbeats 4000000 in
theorem ok_j_X12_program_142 {g : pG} {l : Launch} {F : pF} {N : Nat} {x1 : Int32} {x3 : Int32} {x4 : Int32} {s : cS} {x : (Int32 × cS)} (h : j_X12_program_142 N x1 x3 x4 s = some x) (hx : (fun q => F = pE g (some (.int q.1)) (tS q.2) 0 0) x) : PW g l (pRoom 5 0 0) M_X12_program F 142 [(0, .ref 193), (1, .int x1), (3, .int x3), (4, .int x4)] [] (tS s) 0 0 := by
  unfold j_X12_program_142 at h
  refine PW.aload_n 0 0 dX12_program_142 rfl rfl rfl ?_
  refine CW.geti dX12_program_143 fL_X12_198 LA_193 (Or.inl rfl) ?_
  refine PW.if_ge (tgt := 154) dX12_program_146 (by decide) (fun c11 => ?_) (fun c11 => ?_)
  · replace h := ifp h c11
    refine PW.iconst (v := 0) dX12_program_154 (by decide) ?_
    refine PW.istore dX12_program_155 (Nat.le_of_ble_eq_true rfl) rfl ?_
    exact PW.pick [1, 2, 3, 4, 0] rfl (ok_w_X12_program_157 h hx)
  · replace h := ifn h c11
    refine PW.aload_n 0 0 dX12_program_149 rfl rfl rfl ?_
    refine CW.geti dX12_program_150 fL_X12_198 LA_193 (Or.inl rfl) ?_
    cases h
    subst hx
    exact PW.iret (v := (iG s 193 30)) dX12_program_153 rfl rfl (Nat.le_refl 0) (Nat.le_refl 0)
def j_X12_program_129 (x1 : Int32) (x3 : Int32) (x4 : Int32) (x5 : Int32) (s : cS) : Option (((Int32 × Int32 × Int32) × cS) ⊕ (Int32 × cS)) :=
  sb (iS s 193 28 ((iG s 193 28) + (1 : Int32))) fun s32 =>
  some (.inl ((x3, x4, x5), s32))
set_option maxRecDepth 20000 in
set_option maxHeartbeats 4000000 in
theorem ok_j_X12_program_129 {g : pG} {l : Launch} {F : pF} {x1 : Int32} {x3 : Int32} {x4 : Int32} {x5 : Int32} {s : cS} {x : (((Int32 × Int32 × Int32) × cS) ⊕ (Int32 × cS))} (h : j_X12_program_129 x1 x3 x4 x5 s = some x) (hx : (KL (fun (v : (Int32 × Int32 × Int32) × cS) => PW g l (pRoom 5 0 0) M_X12_program F 57 [(0, .ref 193), (1, .int x1), (3, .int v.1.1), (4, .int v.1.2.1), (5, .int v.1.2.2)] [] (tS v.2) 0 0) (fun q => F = pE g (some (.int q.1)) (tS q.2) 0 0)) x) : PW g l (pRoom 5 0 0) M_X12_program F 129 [(0, .ref 193), (1, .int x1), (3, .int x3), (4, .int x4), (5, .int x5)] [] (tS s) 0 0 := by
  unfold j_X12_program_129 at h
  refine PW.aload_n 0 0 dX12_program_129 rfl rfl rfl ?_
  refine PW.dup dX12_program_130 rfl ?_
  refine CW.geti dX12_program_131 fL_X12_192 LA_193 (Or.inl rfl) ?_
  refine PW.iconst (v := 1) dX12_program_134 (by decide) ?_
  refine PW.iadd dX12_program_135 ?_
  refine CW.puti dX12_program_136 fL_X12_192 rfl LA_193 rfl ?_
  obtain ⟨s32, es32, h⟩ := sbnd h
  refine PW.sbe es32 ?_
  clear es32
  refine PW.goto (tgt := 57) dX12_program_139 (by decide) ?_
  cases h
  exact PW.pick [0, 1, 2, 3, 4] rfl hx
def j_X12_program_104 (x1 : Int32) (x3 : Int32) (x4 : Int32) (y0 : Int32) (s : cS) : Option (((Int32 × Int32 × Int32) × cS) ⊕ (Int32 × cS)) :=
  if y0 = 0 then
    some (.inl ((x3, x4, y0), s))
  else
    ob (f_X12_here s) fun r28 s29 =>
    if r28 = (59 : Int32) then
      j_X12_program_129 x1 x3 x4 y0 s29
    else
      tb (f_X12_wrongs (1 : Int32) (iG s29 193 28) s29) fun r33 s34 =>
      j_X12_program_129 x1 x3 x4 y0 s34
set_option maxRecDepth 20000 in
set_option maxHeartbeats 4000000 in
theorem ok_j_X12_program_104 {g : pG} {l : Launch} {F : pF} {x1 : Int32} {x3 : Int32} {x4 : Int32} {y0 : Int32} {s : cS} {x : (((Int32 × Int32 × Int32) × cS) ⊕ (Int32 × cS))} (h : j_X12_program_104 x1 x3 x4 y0 s = some x) (hx : (KL (fun (v : (Int32 × Int32 × Int32) × cS) => PW g l (pRoom 5 0 0) M_X12_program F 57 [(0, .ref 193), (1, .int x1), (3, .int v.1.1), (4, .int v.1.2.1), (5, .int v.1.2.2)] [] (tS v.2) 0 0) (fun q => F = pE g (some (.int q.1)) (tS q.2) 0 0)) x) : PW g l (pRoom 5 0 0) M_X12_program F 104 [(0, .ref 193), (1, .int x1), (3, .int x3), (4, .int x4)] [.int y0] (tS s) 0 0 := by
  unfold j_X12_program_104 at h
  refine PW.istore dX12_program_104 (Nat.le_of_ble_eq_true rfl) rfl ?_
  refine PW.iload 0 dX12_program_106 rfl ?_
  refine PW.if_eq (tgt := 57) dX12_program_108 (by decide) (fun c27 => ?_) (fun c27 => ?_)
  · replace h := ifp h c27
    cases h
    exact PW.pick [1, 2, 3, 4, 0] rfl hx
  · replace h := ifn h c27
    refine PW.aload_n 1 0 dX12_program_111 rfl rfl rfl ?_
    obtain ⟨r28, s29, q30, h⟩ := obnd h
    refine CW.callVi (ci := 12) (st := []) [] dX12_program_112 (p_X12_here q30) MV_X12_here mL_X12_218 (by decide) rfl LA_193 rfl rfl (Nat.le_of_ble_eq_true rfl) (by first | decide | omega) ?_
    refine PW.bipush (v := 59) dX12_program_115 (by decide) ?_
    refine PW.icmp_eq (tgt := 129) dX12_program_117 (by decide) (fun c31 => ?_) (fun c31 => ?_)
    · replace h := ifp h c31
      exact PW.pick [1, 2, 3, 4, 0] rfl (ok_j_X12_program_129 h hx)
    · replace h := ifn h c31
      refine PW.aload_n 1 0 dX12_program_120 rfl rfl rfl ?_
      refine PW.iconst (v := 1) dX12_program_121 (by decide) ?_
      refine PW.aload_n 1 0 dX12_program_122 rfl rfl rfl ?_
      refine CW.geti dX12_program_123 fL_X12_192 LA_193 (Or.inl rfl) ?_
      obtain ⟨r33, s34, q35, h⟩ := tbnd h
      refine CW.callVv (ci := 12) (st := []) [.int (1 : Int32), .int (iG s29 193 28)] dX12_program_126 (p_X12_wrongs q35) MV_X12_wrongs mL_X12_214 (by decide) rfl LA_193 rfl rfl (Nat.le_of_ble_eq_true rfl) (by first | decide | omega) ?_
      exact PW.pick [1, 2, 3, 4, 0] rfl (ok_j_X12_program_129 h hx)
def j_X12_program_103 (x1 : Int32) (x3 : Int32) (x4 : Int32) (s : cS) : Option (((Int32 × Int32 × Int32) × cS) ⊕ (Int32 × cS)) :=
  j_X12_program_104 x1 x3 x4 (0 : Int32) s
set_option maxRecDepth 20000 in
set_option maxHeartbeats 4000000 in
theorem ok_j_X12_program_103 {g : pG} {l : Launch} {F : pF} {x1 : Int32} {x3 : Int32} {x4 : Int32} {s : cS} {x : (((Int32 × Int32 × Int32) × cS) ⊕ (Int32 × cS))} (h : j_X12_program_103 x1 x3 x4 s = some x) (hx : (KL (fun (v : (Int32 × Int32 × Int32) × cS) => PW g l (pRoom 5 0 0) M_X12_program F 57 [(0, .ref 193), (1, .int x1), (3, .int v.1.1), (4, .int v.1.2.1), (5, .int v.1.2.2)] [] (tS v.2) 0 0) (fun q => F = pE g (some (.int q.1)) (tS q.2) 0 0)) x) : PW g l (pRoom 5 0 0) M_X12_program F 103 [(0, .ref 193), (1, .int x1), (3, .int x3), (4, .int x4)] [] (tS s) 0 0 := by
  unfold j_X12_program_103 at h
  refine PW.iconst (v := 0) dX12_program_103 (by decide) ?_
  exact PW.pick [0, 1, 2, 3] rfl (ok_j_X12_program_104 h hx)
def b_X12_program_57 (N : Nat) (x1 : Int32) (x3 : Int32) (x4 : Int32) (x5 : Int32) (s : cS) : Option (((Int32 × Int32 × Int32) × cS) ⊕ (Int32 × cS)) :=
  if x5 = 0 then
    oR (
      j_X12_program_142 N x1 x3 x4 s)
  else
    if (f_X12_isGood s) = 0 then
      oR (
        j_X12_program_142 N x1 x3 x4 s)
    else
      ob (f_X12_part N x3 x4 s) fun r22 s23 =>
      if (f_X12_isGood s23) = 0 then
        j_X12_program_103 x1 (x3 + (1 : Int32)) r22 s23
      else
        if (iG s23 193 29) ≤ (iG s23 193 28) then
          j_X12_program_103 x1 (x3 + (1 : Int32)) r22 s23
        else
          j_X12_program_104 x1 (x3 + (1 : Int32)) r22 (1 : Int32) s23
set_option maxRecDepth 20000 in
set_option maxHeartbeats 4000000 in
theorem ok_b_X12_program_57 {g : pG} {l : Launch} {F : pF} {N : Nat} {x1 : Int32} {x3 : Int32} {x4 : Int32} {x5 : Int32} {s : cS} {x : (((Int32 × Int32 × Int32) × cS) ⊕ (Int32 × cS))} (h : b_X12_program_57 N x1 x3 x4 x5 s = some x) (hx : (KL (fun (v : (Int32 × Int32 × Int32) × cS) => PW g l (pRoom 5 0 0) M_X12_program F 57 [(0, .ref 193), (1, .int x1), (3, .int v.1.1), (4, .int v.1.2.1), (5, .int v.1.2.2)] [] (tS v.2) 0 0) (fun q => F = pE g (some (.int q.1)) (tS q.2) 0 0)) x) : PW g l (pRoom 5 0 0) M_X12_program F 57 [(0, .ref 193), (1, .int x1), (3, .int x3), (4, .int x4), (5, .int x5)] [] (tS s) 0 0 := by
  unfold b_X12_program_57 at h
  refine PW.iload 4 dX12_program_57 rfl ?_
  refine PW.if_eq (tgt := 142) dX12_program_59 (by decide) (fun c10 => ?_) (fun c10 => ?_)
  · replace h := ifp h c10
    obtain ⟨xo, hy, hxo⟩ := oRb h
    clear h
    subst hxo
    replace hx := KLr hx
    have h := hy
    clear hy
    exact PW.pick [0, 1, 2, 3] rfl (ok_j_X12_program_142 h hx)
  · replace h := ifn h c10
    refine PW.aload_n 0 0 dX12_program_62 rfl rfl rfl ?_
    refine CW.callVi (ci := 12) (st := []) [] dX12_program_63 (p_X12_isGood rfl) MV_X12_isGood mL_X12_201 (by decide) rfl LA_193 rfl rfl (Nat.le_of_ble_eq_true rfl) (by first | decide | omega) ?_
    refine PW.if_eq (tgt := 142) dX12_program_66 (by decide) (fun c21 => ?_) (fun c21 => ?_)
    · replace h := ifp h c21
      obtain ⟨xo, hy, hxo⟩ := oRb h
      clear h
      subst hxo
      replace hx := KLr hx
      have h := hy
      clear hy
      exact PW.pick [0, 1, 2, 3] rfl (ok_j_X12_program_142 h hx)
    · replace h := ifn h c21
      refine PW.aload_n 0 0 dX12_program_69 rfl rfl rfl ?_
      refine PW.iload_n 2 3 dX12_program_70 rfl rfl ?_
      refine PW.iload 3 dX12_program_71 rfl ?_
      obtain ⟨r22, s23, q24, h⟩ := obnd h
      refine CW.callVi (ci := 12) (st := []) [.int x3, .int x4] dX12_program_73 (p_X12_part q24) MV_X12_part mL_X12_361 (by decide) rfl LA_193 rfl rfl (Nat.le_of_ble_eq_true rfl) (by first | decide | omega) ?_
      refine PW.istore dX12_program_76 (Nat.le_of_ble_eq_true rfl) rfl ?_
      refine PW.iinc (v := (x3 + (1 : Int32))) 3 dX12_program_78 rfl (by first | rfl | decide) (Nat.le_of_ble_eq_true rfl) rfl ?_
      refine PW.aload_n 2 0 dX12_program_81 rfl rfl rfl ?_
      refine CW.callVi (ci := 12) (st := []) [] dX12_program_82 (p_X12_isGood rfl) MV_X12_isGood mL_X12_201 (by decide) rfl LA_193 rfl rfl (Nat.le_of_ble_eq_true rfl) (by first | decide | omega) ?_
      refine PW.if_eq (tgt := 103) dX12_program_85 (by decide) (fun c26 => ?_) (fun c26 => ?_)
      · replace h := ifp h c26
        exact PW.pick [2, 3, 0, 1] rfl (ok_j_X12_program_103 h hx)
      · replace h := ifn h c26
        refine PW.aload_n 2 0 dX12_program_88 rfl rfl rfl ?_
        refine CW.geti dX12_program_89 fL_X12_192 LA_193 (Or.inl rfl) ?_
        refine PW.aload_n 2 0 dX12_program_92 rfl rfl rfl ?_
        refine CW.geti dX12_program_93 fL_X12_195 LA_193 (Or.inl rfl) ?_
        refine PW.icmp_ge (tgt := 103) dX12_program_96 (by decide) (fun c36 => ?_) (fun c36 => ?_)
        · replace h := ifp h c36
          exact PW.pick [2, 3, 0, 1] rfl (ok_j_X12_program_103 h hx)
        · replace h := ifn h c36
          refine PW.iconst (v := 1) dX12_program_99 (by decide) ?_
          refine PW.goto (tgt := 104) dX12_program_100 (by decide) ?_
          exact PW.pick [2, 3, 0, 1] rfl (ok_j_X12_program_104 h hx)
def w_X12_program_57 (N : Nat) (x1 : Int32) (x3 : Int32) (x4 : Int32) (x5 : Int32) (s : cS) : Option (Int32 × cS) := itr (fun (v : (Int32 × Int32 × Int32) × cS) => b_X12_program_57 N x1 v.1.1 v.1.2.1 v.1.2.2 v.2) N ((x3, x4, x5), s)
theorem ok_w_X12_program_57 {g : pG} {l : Launch} {F : pF} {N : Nat} {x1 : Int32} {x3 : Int32} {x4 : Int32} {x5 : Int32} {s : cS} {x : (Int32 × cS)} (h : w_X12_program_57 N x1 x3 x4 x5 s = some x) (hx : (fun q => F = pE g (some (.int q.1)) (tS q.2) 0 0) x) : PW g l (pRoom 5 0 0) M_X12_program F 57 [(0, .ref 193), (1, .int x1), (3, .int x3), (4, .int x4), (5, .int x5)] [] (tS s) 0 0 :=
  okIter (P := (fun (v : (Int32 × Int32 × Int32) × cS) => PW g l (pRoom 5 0 0) M_X12_program F 57 [(0, .ref 193), (1, .int x1), (3, .int v.1.1), (4, .int v.1.2.1), (5, .int v.1.2.2)] [] (tS v.2) 0 0)) (K := (fun q => F = pE g (some (.int q.1)) (tS q.2) 0 0)) (fun v y hB hy => ok_b_X12_program_57 hB hy) N ((x3, x4, x5), s) x h hx
def f_X12_program (N : Nat) (a0 : Int32) (a1 : Int32) (s : cS) : Option (Int32 × cS) :=
  if (f_X12_isProgram a0 s) = 0 then
    some (((-1 : Int32), s))
  else
    if (lIn a1.toInt64 (1 : Int64) (60 : Int64)) = 0 then
      some (((-1 : Int32), s))
    else
      if a1 ≤ (iG s 193 1) then
        sb (iS s 193 1 (0 : Int32)) fun s6 =>
        sb (iS s6 193 28 (0 : Int32)) fun s7 =>
        sb (iS s7 193 29 a1) fun s8 =>
        sb (iS s8 193 30 (0 : Int32)) fun s9 =>
        w_X12_program_57 N a0 (0 : Int32) (0 : Int32) (1 : Int32) s9
      else
        some (((-1 : Int32), s))
set_option maxRecDepth 20000 in
set_option maxHeartbeats 4000000 in
theorem p_X12_program {g : pG} {l : Launch} {N : Nat} {a0 : Int32} {a1 : Int32} {s : cS} {q : Int32 × cS} (h : f_X12_program N a0 a1 s = some q) : PM g l 5 M_X12_program [.ref 193, .int a0, .int a1] (tS s) (some (.int q.1)) (tS q.2) 0 0 := by
  refine PM.of (by decide +kernel) (Nat.le_of_ble_eq_true rfl) ?_
  show PW g l (pRoom 5 0 0) M_X12_program _ 0 [(0, .ref 193), (1, .int a0), (2, .int a1)] [] (tS s) 0 0
  unfold f_X12_program at h
  generalize hF : pE g (some (.int q.1)) (tS q.2) 0 0 = F
  have hx := hF.symm
  refine PW.iload_n 1 1 dX12_program_0 rfl rfl ?_
  refine CW.callSi (st := []) [.int a0] dX12_program_1 (p_X12_isProgram rfl) MS_X12_isProgram mL_X12_356 rfl rfl (Nat.le_of_ble_eq_true rfl) (by first | decide | omega) ?_
  refine PW.if_eq (tgt := 27) dX12_program_4 (by decide) (fun c2 => ?_) (fun c2 => ?_)
  · replace h := ifp h c2
    refine PW.iconst (v := (-1)) dX12_program_27 (by decide) ?_
    cases h
    subst hx
    exact PW.iret (v := (-1 : Int32)) dX12_program_28 rfl rfl (Nat.le_refl 0) (Nat.le_refl 0)
  · replace h := ifn h c2
    refine PW.iload_n 2 2 dX12_program_7 rfl rfl ?_
    refine PW.i2l dX12_program_8 ?_
    refine PW.lconst (v := 1) dX12_program_9 (by decide) ?_
    refine PW.ldc2_w dX12_program_10 kL_X12_359 ?_
    refine CW.callSi (st := []) [.long a1.toInt64, .long (1 : Int64), .long (60 : Int64)] dX12_program_13 (ps_isIn rfl) MS_X12_isIn mL_X12_164 rfl rfl (Nat.le_of_ble_eq_true rfl) (by first | decide | omega) ?_
    refine PW.if_eq (tgt := 27) dX12_program_16 (by decide) (fun c4 => ?_) (fun c4 => ?_)
    · replace h := ifp h c4
      refine PW.iconst (v := (-1)) dX12_program_27 (by decide) ?_
      cases h
      subst hx
      exact PW.iret (v := (-1 : Int32)) dX12_program_28 rfl rfl (Nat.le_refl 0) (Nat.le_refl 0)
    · replace h := ifn h c4
      refine PW.iload_n 2 2 dX12_program_19 rfl rfl ?_
      refine PW.aload_n 0 0 dX12_program_20 rfl rfl rfl ?_
      refine CW.geti dX12_program_21 fL_X12_185 LA_193 (Or.inl rfl) ?_
      refine PW.icmp_le (tgt := 29) dX12_program_24 (by decide) (fun c5 => ?_) (fun c5 => ?_)
      · replace h := ifp h c5
        refine PW.aload_n 0 0 dX12_program_29 rfl rfl rfl ?_
        refine PW.iconst (v := 0) dX12_program_30 (by decide) ?_
        refine CW.puti dX12_program_31 fL_X12_185 rfl LA_193 rfl ?_
        obtain ⟨s6, es6, h⟩ := sbnd h
        refine PW.sbe es6 ?_
        clear es6
        refine PW.aload_n 0 0 dX12_program_34 rfl rfl rfl ?_
        refine PW.iconst (v := 0) dX12_program_35 (by decide) ?_
        refine CW.puti dX12_program_36 fL_X12_192 rfl LA_193 rfl ?_
        obtain ⟨s7, es7, h⟩ := sbnd h
        refine PW.sbe es7 ?_
        clear es7
        refine PW.aload_n 0 0 dX12_program_39 rfl rfl rfl ?_
        refine PW.iload_n 2 2 dX12_program_40 rfl rfl ?_
        refine CW.puti dX12_program_41 fL_X12_195 rfl LA_193 rfl ?_
        obtain ⟨s8, es8, h⟩ := sbnd h
        refine PW.sbe es8 ?_
        clear es8
        refine PW.aload_n 0 0 dX12_program_44 rfl rfl rfl ?_
        refine PW.iconst (v := 0) dX12_program_45 (by decide) ?_
        refine CW.puti dX12_program_46 fL_X12_198 rfl LA_193 rfl ?_
        obtain ⟨s9, es9, h⟩ := sbnd h
        refine PW.sbe es9 ?_
        clear es9
        refine PW.iconst (v := 0) dX12_program_49 (by decide) ?_
        refine PW.istore_n dX12_program_50 rfl (Nat.le_of_ble_eq_true rfl) rfl ?_
        refine PW.iconst (v := 0) dX12_program_51 (by decide) ?_
        refine PW.istore dX12_program_52 (Nat.le_of_ble_eq_true rfl) rfl ?_
        refine PW.iconst (v := 1) dX12_program_54 (by decide) ?_
        refine PW.istore dX12_program_55 (Nat.le_of_ble_eq_true rfl) rfl ?_
        exact PW.pick [3, 4, 2, 1, 0] rfl (ok_w_X12_program_57 h hx)
      · replace h := ifn h c5
        refine PW.iconst (v := (-1)) dX12_program_27 (by decide) ?_
        cases h
        subst hx
        exact PW.iret (v := (-1 : Int32)) dX12_program_28 rfl rfl (Nat.le_refl 0) (Nat.le_refl 0)
/-! X12_goes -/
def j_X12_goes_178 (x2 : Int32) (x3 : Int32) (x4 : Int32) (x5 : Int32) (x6 : Int32) (x7 : Int32) (s : cS) : Option ((Int32 × cS) ⊕ (Unit × cS)) :=
  some (.inl ((x7 + (1 : Int32)), s))
set_option maxRecDepth 20000 in
set_option maxHeartbeats 4000000 in
theorem ok_j_X12_goes_178 {g : pG} {l : Launch} {F : pF} {x2 : Int32} {x3 : Int32} {x4 : Int32} {x5 : Int32} {x6 : Int32} {x7 : Int32} {s : cS} {x : ((Int32 × cS) ⊕ (Unit × cS))} (h : j_X12_goes_178 x2 x3 x4 x5 x6 x7 s = some x) (hx : (KL (fun (v : Int32 × cS) => PW g l (pRoom 6 0 0) M_X12_goes F 35 [(0, .ref 193), (2, .int x2), (3, .int x3), (4, .int x4), (5, .int x5), (6, .int x6), (7, .int v.1)] [] (tS v.2) 0 0) (fun q => F = pE g none (tS q.2) 0 0)) x) : PW g l (pRoom 6 0 0) M_X12_goes F 178 [(0, .ref 193), (2, .int x2), (3, .int x3), (4, .int x4), (5, .int x5), (6, .int x6), (7, .int x7)] [] (tS s) 0 0 := by
  unfold j_X12_goes_178 at h
  refine PW.iinc (v := (x7 + (1 : Int32))) 6 dX12_goes_178 rfl (by first | rfl | decide) (Nat.le_of_ble_eq_true rfl) rfl ?_
  refine PW.goto (tgt := 35) dX12_goes_181 (by decide) ?_
  cases h
  exact PW.pick [1, 2, 3, 4, 5, 6, 0] rfl hx
def j_X12_goes_172 (x2 : Int32) (x3 : Int32) (x4 : Int32) (x5 : Int32) (x6 : Int32) (x7 : Int32) (x8 : Int32) (x9 : Int32) (s : cS) : Option ((Int32 × cS) ⊕ ((Int32 × cS) ⊕ (Unit × cS))) :=
  some (.inl ((x9 + (1 : Int32)), s))
set_option maxRecDepth 20000 in
set_option maxHeartbeats 4000000 in
theorem ok_j_X12_goes_172 {g : pG} {l : Launch} {F : pF} {x2 : Int32} {x3 : Int32} {x4 : Int32} {x5 : Int32} {x6 : Int32} {x7 : Int32} {x8 : Int32} {x9 : Int32} {s : cS} {x : ((Int32 × cS) ⊕ ((Int32 × cS) ⊕ (Unit × cS)))} (h : j_X12_goes_172 x2 x3 x4 x5 x6 x7 x8 x9 s = some x) (hx : (KL (fun (v : Int32 × cS) => PW g l (pRoom 6 0 0) M_X12_goes F 106 [(0, .ref 193), (2, .int x2), (3, .int x3), (4, .int x4), (5, .int x5), (6, .int x6), (7, .int x7), (8, .int x8), (9, .int v.1)] [] (tS v.2) 0 0) (KL (fun (v : Int32 × cS) => PW g l (pRoom 6 0 0) M_X12_goes F 35 [(0, .ref 193), (2, .int x2), (3, .int x3), (4, .int x4), (5, .int x5), (6, .int x6), (7, .int v.1)] [] (tS v.2) 0 0) (fun q => F = pE g none (tS q.2) 0 0))) x) : PW g l (pRoom 6 0 0) M_X12_goes F 172 [(0, .ref 193), (2, .int x2), (3, .int x3), (4, .int x4), (5, .int x5), (6, .int x6), (7, .int x7), (8, .int x8), (9, .int x9)] [] (tS s) 0 0 := by
  unfold j_X12_goes_172 at h
  refine PW.iinc (v := (x9 + (1 : Int32))) 8 dX12_goes_172 rfl (by first | rfl | decide) (Nat.le_of_ble_eq_true rfl) rfl ?_
  refine PW.goto (tgt := 106) dX12_goes_175 (by decide) ?_
  cases h
  exact PW.pick [1, 2, 3, 4, 5, 6, 7, 8, 0] rfl hx
def j_X12_goes_157 (x2 : Int32) (x3 : Int32) (x4 : Int32) (x5 : Int32) (x6 : Int32) (x7 : Int32) (x8 : Int32) (x9 : Int32) (s : cS) : Option ((Int32 × cS) ⊕ ((Int32 × cS) ⊕ (Unit × cS))) :=
  ob (f_X12_runsNow s) fun r22 s23 =>
  if r22 = 0 then
    j_X12_goes_172 x2 x3 x4 x5 x6 x7 x8 x9 s23
  else
    sb (iS s23 193 54 (iG s23 193 40)) fun s26 =>
    j_X12_goes_172 x2 x3 x4 x5 x6 x7 x8 x9 s26
set_option maxRecDepth 20000 in
set_option maxHeartbeats 4000000 in
theorem ok_j_X12_goes_157 {g : pG} {l : Launch} {F : pF} {x2 : Int32} {x3 : Int32} {x4 : Int32} {x5 : Int32} {x6 : Int32} {x7 : Int32} {x8 : Int32} {x9 : Int32} {s : cS} {x : ((Int32 × cS) ⊕ ((Int32 × cS) ⊕ (Unit × cS)))} (h : j_X12_goes_157 x2 x3 x4 x5 x6 x7 x8 x9 s = some x) (hx : (KL (fun (v : Int32 × cS) => PW g l (pRoom 6 0 0) M_X12_goes F 106 [(0, .ref 193), (2, .int x2), (3, .int x3), (4, .int x4), (5, .int x5), (6, .int x6), (7, .int x7), (8, .int x8), (9, .int v.1)] [] (tS v.2) 0 0) (KL (fun (v : Int32 × cS) => PW g l (pRoom 6 0 0) M_X12_goes F 35 [(0, .ref 193), (2, .int x2), (3, .int x3), (4, .int x4), (5, .int x5), (6, .int x6), (7, .int v.1)] [] (tS v.2) 0 0) (fun q => F = pE g none (tS q.2) 0 0))) x) : PW g l (pRoom 6 0 0) M_X12_goes F 157 [(0, .ref 193), (2, .int x2), (3, .int x3), (4, .int x4), (5, .int x5), (6, .int x6), (7, .int x7), (8, .int x8), (9, .int x9)] [] (tS s) 0 0 := by
  unfold j_X12_goes_157 at h
  refine PW.aload_n 0 0 dX12_goes_157 rfl rfl rfl ?_
  obtain ⟨r22, s23, q24, h⟩ := obnd h
  refine CW.callVi (ci := 12) (st := []) [] dX12_goes_158 (p_X12_runsNow q24) MV_X12_runsNow mL_X12_373 (by decide) rfl LA_193 rfl rfl (Nat.le_of_ble_eq_true rfl) (by first | decide | omega) ?_
  refine PW.if_eq (tgt := 172) dX12_goes_161 (by decide) (fun c25 => ?_) (fun c25 => ?_)
  · replace h := ifp h c25
    exact PW.pick [0, 1, 2, 3, 4, 5, 6, 7, 8] rfl (ok_j_X12_goes_172 h hx)
  · replace h := ifn h c25
    refine PW.aload_n 0 0 dX12_goes_164 rfl rfl rfl ?_
    refine PW.aload_n 0 0 dX12_goes_165 rfl rfl rfl ?_
    refine CW.geti dX12_goes_166 fL_X12_308 LA_193 (Or.inl rfl) ?_
    refine CW.puti dX12_goes_169 fL_X12_367 rfl LA_193 rfl ?_
    obtain ⟨s26, es26, h⟩ := sbnd h
    refine PW.sbe es26 ?_
    clear es26
    exact PW.pick [0, 1, 2, 3, 4, 5, 6, 7, 8] rfl (ok_j_X12_goes_172 h hx)
def b_X12_goes_106 (N : Nat) (x2 : Int32) (x3 : Int32) (x4 : Int32) (x5 : Int32) (x6 : Int32) (x7 : Int32) (x8 : Int32) (x9 : Int32) (s : cS) : Option ((Int32 × cS) ⊕ ((Int32 × cS) ⊕ (Unit × cS))) :=
  if x8 ≤ x9 then
    oR (
      j_X12_goes_178 x2 x3 x4 x5 x6 x7 s)
  else
    if (iG s 193 54) = 0 then
      ob (f_X12_isPulled N x2 s) fun r17 s18 =>
      sb (iS s18 193 40 ((iG s18 193 40) + (1 : Int32))) fun s20 =>
      if (iG s20 193 43) ≤ 0 then
        j_X12_goes_157 x2 x3 x4 x5 x6 x7 x8 x9 s20
      else
        if (iG s20 193 53) = 0 then
          sb (iS s20 193 53 (iG s20 193 40)) fun s28 =>
          j_X12_goes_157 x2 x3 x4 x5 x6 x7 x8 x9 s28
        else
          j_X12_goes_157 x2 x3 x4 x5 x6 x7 x8 x9 s20
    else
      oR (
        j_X12_goes_178 x2 x3 x4 x5 x6 x7 s)
set_option maxRecDepth 20000 in
set_option maxHeartbeats 4000000 in
theorem ok_b_X12_goes_106 {g : pG} {l : Launch} {F : pF} {N : Nat} {x2 : Int32} {x3 : Int32} {x4 : Int32} {x5 : Int32} {x6 : Int32} {x7 : Int32} {x8 : Int32} {x9 : Int32} {s : cS} {x : ((Int32 × cS) ⊕ ((Int32 × cS) ⊕ (Unit × cS)))} (h : b_X12_goes_106 N x2 x3 x4 x5 x6 x7 x8 x9 s = some x) (hx : (KL (fun (v : Int32 × cS) => PW g l (pRoom 6 0 0) M_X12_goes F 106 [(0, .ref 193), (2, .int x2), (3, .int x3), (4, .int x4), (5, .int x5), (6, .int x6), (7, .int x7), (8, .int x8), (9, .int v.1)] [] (tS v.2) 0 0) (KL (fun (v : Int32 × cS) => PW g l (pRoom 6 0 0) M_X12_goes F 35 [(0, .ref 193), (2, .int x2), (3, .int x3), (4, .int x4), (5, .int x5), (6, .int x6), (7, .int v.1)] [] (tS v.2) 0 0) (fun q => F = pE g none (tS q.2) 0 0))) x) : PW g l (pRoom 6 0 0) M_X12_goes F 106 [(0, .ref 193), (2, .int x2), (3, .int x3), (4, .int x4), (5, .int x5), (6, .int x6), (7, .int x7), (8, .int x8), (9, .int x9)] [] (tS s) 0 0 := by
  unfold b_X12_goes_106 at h
  refine PW.iload 8 dX12_goes_106 rfl ?_
  refine PW.iload 7 dX12_goes_108 rfl ?_
  refine PW.icmp_ge (tgt := 178) dX12_goes_110 (by decide) (fun c15 => ?_) (fun c15 => ?_)
  · replace h := ifp h c15
    obtain ⟨xo, hy, hxo⟩ := oRb h
    clear h
    subst hxo
    replace hx := KLr hx
    have h := hy
    clear hy
    exact PW.pick [0, 1, 2, 3, 4, 5, 6] rfl (ok_j_X12_goes_178 h hx)
  · replace h := ifn h c15
    refine PW.aload_n 0 0 dX12_goes_113 rfl rfl rfl ?_
    refine CW.geti dX12_goes_114 fL_X12_367 LA_193 (Or.inl rfl) ?_
    refine PW.if_ne (tgt := 178) dX12_goes_117 (by decide) (fun c16 => ?_) (fun c16 => ?_)
    · replace h := ifn h c16
      obtain ⟨xo, hy, hxo⟩ := oRb h
      clear h
      subst hxo
      replace hx := KLr hx
      have h := hy
      clear hy
      exact PW.pick [0, 1, 2, 3, 4, 5, 6] rfl (ok_j_X12_goes_178 h hx)
    · replace h := ifp h c16
      refine PW.aload_n 0 0 dX12_goes_120 rfl rfl rfl ?_
      refine PW.iload_n 1 2 dX12_goes_121 rfl rfl ?_
      obtain ⟨r17, s18, q19, h⟩ := obnd h
      refine CW.callVv (ci := 12) (st := []) [.int x2] dX12_goes_122 (p_X12_isPulled q19) MV_X12_isPulled mL_X12_370 (by decide) rfl LA_193 rfl rfl (Nat.le_of_ble_eq_true rfl) (by first | decide | omega) ?_
      refine PW.aload_n 0 0 dX12_goes_125 rfl rfl rfl ?_
      refine PW.dup dX12_goes_126 rfl ?_
      refine CW.geti dX12_goes_127 fL_X12_308 LA_193 (Or.inl rfl) ?_
      refine PW.iconst (v := 1) dX12_goes_130 (by decide) ?_
      refine PW.iadd dX12_goes_131 ?_
      refine CW.puti dX12_goes_132 fL_X12_308 rfl LA_193 rfl ?_
      obtain ⟨s20, es20, h⟩ := sbnd h
      refine PW.sbe es20 ?_
      clear es20
      refine PW.aload_n 0 0 dX12_goes_135 rfl rfl rfl ?_
      refine CW.geti dX12_goes_136 fL_X12_317 LA_193 (Or.inl rfl) ?_
      refine PW.if_le (tgt := 157) dX12_goes_139 (by decide) (fun c21 => ?_) (fun c21 => ?_)
      · replace h := ifp h c21
        exact PW.pick [0, 1, 2, 3, 4, 5, 6, 7, 8] rfl (ok_j_X12_goes_157 h hx)
      · replace h := ifn h c21
        refine PW.aload_n 0 0 dX12_goes_142 rfl rfl rfl ?_
        refine CW.geti dX12_goes_143 fL_X12_364 LA_193 (Or.inl rfl) ?_
        refine PW.if_ne (tgt := 157) dX12_goes_146 (by decide) (fun c27 => ?_) (fun c27 => ?_)
        · replace h := ifn h c27
          exact PW.pick [0, 1, 2, 3, 4, 5, 6, 7, 8] rfl (ok_j_X12_goes_157 h hx)
        · replace h := ifp h c27
          refine PW.aload_n 0 0 dX12_goes_149 rfl rfl rfl ?_
          refine PW.aload_n 0 0 dX12_goes_150 rfl rfl rfl ?_
          refine CW.geti dX12_goes_151 fL_X12_308 LA_193 (Or.inl rfl) ?_
          refine CW.puti dX12_goes_154 fL_X12_364 rfl LA_193 rfl ?_
          obtain ⟨s28, es28, h⟩ := sbnd h
          refine PW.sbe es28 ?_
          clear es28
          exact PW.pick [0, 1, 2, 3, 4, 5, 6, 7, 8] rfl (ok_j_X12_goes_157 h hx)
def w_X12_goes_106 (N : Nat) (x2 : Int32) (x3 : Int32) (x4 : Int32) (x5 : Int32) (x6 : Int32) (x7 : Int32) (x8 : Int32) (x9 : Int32) (s : cS) : Option ((Int32 × cS) ⊕ (Unit × cS)) := itr (fun (v : Int32 × cS) => b_X12_goes_106 N x2 x3 x4 x5 x6 x7 x8 v.1 v.2) N (x9, s)
theorem ok_w_X12_goes_106 {g : pG} {l : Launch} {F : pF} {N : Nat} {x2 : Int32} {x3 : Int32} {x4 : Int32} {x5 : Int32} {x6 : Int32} {x7 : Int32} {x8 : Int32} {x9 : Int32} {s : cS} {x : ((Int32 × cS) ⊕ (Unit × cS))} (h : w_X12_goes_106 N x2 x3 x4 x5 x6 x7 x8 x9 s = some x) (hx : (KL (fun (v : Int32 × cS) => PW g l (pRoom 6 0 0) M_X12_goes F 35 [(0, .ref 193), (2, .int x2), (3, .int x3), (4, .int x4), (5, .int x5), (6, .int x6), (7, .int v.1)] [] (tS v.2) 0 0) (fun q => F = pE g none (tS q.2) 0 0)) x) : PW g l (pRoom 6 0 0) M_X12_goes F 106 [(0, .ref 193), (2, .int x2), (3, .int x3), (4, .int x4), (5, .int x5), (6, .int x6), (7, .int x7), (8, .int x8), (9, .int x9)] [] (tS s) 0 0 :=
  okIter (P := (fun (v : Int32 × cS) => PW g l (pRoom 6 0 0) M_X12_goes F 106 [(0, .ref 193), (2, .int x2), (3, .int x3), (4, .int x4), (5, .int x5), (6, .int x6), (7, .int x7), (8, .int x8), (9, .int v.1)] [] (tS v.2) 0 0)) (K := (KL (fun (v : Int32 × cS) => PW g l (pRoom 6 0 0) M_X12_goes F 35 [(0, .ref 193), (2, .int x2), (3, .int x3), (4, .int x4), (5, .int x5), (6, .int x6), (7, .int v.1)] [] (tS v.2) 0 0) (fun q => F = pE g none (tS q.2) 0 0))) (fun v y hB hy => ok_b_X12_goes_106 hB hy) N (x9, s) x h hx
def j_X12_goes_101 (N : Nat) (x2 : Int32) (x3 : Int32) (x4 : Int32) (x5 : Int32) (x6 : Int32) (x7 : Int32) (y0 : Int32) (s : cS) : Option ((Int32 × cS) ⊕ (Unit × cS)) :=
  w_X12_goes_106 N x2 x3 x4 x5 x6 x7 y0 (0 : Int32) s
set_option maxRecDepth 20000 in
set_option maxHeartbeats 4000000 in
theorem ok_j_X12_goes_101 {g : pG} {l : Launch} {F : pF} {N : Nat} {x2 : Int32} {x3 : Int32} {x4 : Int32} {x5 : Int32} {x6 : Int32} {x7 : Int32} {y0 : Int32} {s : cS} {x : ((Int32 × cS) ⊕ (Unit × cS))} (h : j_X12_goes_101 N x2 x3 x4 x5 x6 x7 y0 s = some x) (hx : (KL (fun (v : Int32 × cS) => PW g l (pRoom 6 0 0) M_X12_goes F 35 [(0, .ref 193), (2, .int x2), (3, .int x3), (4, .int x4), (5, .int x5), (6, .int x6), (7, .int v.1)] [] (tS v.2) 0 0) (fun q => F = pE g none (tS q.2) 0 0)) x) : PW g l (pRoom 6 0 0) M_X12_goes F 101 [(0, .ref 193), (2, .int x2), (3, .int x3), (4, .int x4), (5, .int x5), (6, .int x6), (7, .int x7)] [.int y0] (tS s) 0 0 := by
  unfold j_X12_goes_101 at h
  refine PW.istore dX12_goes_101 (Nat.le_of_ble_eq_true rfl) rfl ?_
  refine PW.iconst (v := 0) dX12_goes_103 (by decide) ?_
  refine PW.istore dX12_goes_104 (Nat.le_of_ble_eq_true rfl) rfl ?_
  exact PW.pick [2, 3, 4, 5, 6, 7, 8, 1, 0] rfl (ok_w_X12_goes_106 h hx)
def j_X12_goes_74 (N : Nat) (x2 : Int32) (x3 : Int32) (x4 : Int32) (x5 : Int32) (x6 : Int32) (x7 : Int32) (y1 : Int32) (s : cS) : Option ((Int32 × cS) ⊕ (Unit × cS)) :=
  sb (iS s 193 39 y1) fun s12 =>
  if x7 = x6 then
    j_X12_goes_101 N x2 x3 x4 x5 x6 x7 x5 s12
  else
    if inb (((8 : Int32) * x3) + x7) 128 then
    j_X12_goes_101 N x2 x3 x4 x5 x6 x7 (iG s12 219 (((8 : Int32) * x3) + x7).toNatClampNeg) s12
    else none
set_option maxRecDepth 20000 in
set_option maxHeartbeats 4000000 in
theorem ok_j_X12_goes_74 {g : pG} {l : Launch} {F : pF} {N : Nat} {x2 : Int32} {x3 : Int32} {x4 : Int32} {x5 : Int32} {x6 : Int32} {x7 : Int32} {y1 : Int32} {s : cS} {x : ((Int32 × cS) ⊕ (Unit × cS))} (h : j_X12_goes_74 N x2 x3 x4 x5 x6 x7 y1 s = some x) (hx : (KL (fun (v : Int32 × cS) => PW g l (pRoom 6 0 0) M_X12_goes F 35 [(0, .ref 193), (2, .int x2), (3, .int x3), (4, .int x4), (5, .int x5), (6, .int x6), (7, .int v.1)] [] (tS v.2) 0 0) (fun q => F = pE g none (tS q.2) 0 0)) x) : PW g l (pRoom 6 0 0) M_X12_goes F 74 [(0, .ref 193), (2, .int x2), (3, .int x3), (4, .int x4), (5, .int x5), (6, .int x6), (7, .int x7)] [.int y1, .ref 193] (tS s) 0 0 := by
  unfold j_X12_goes_74 at h
  refine CW.puti dX12_goes_74 fL_X12_302 rfl LA_193 rfl ?_
  obtain ⟨s12, es12, h⟩ := sbnd h
  refine PW.sbe es12 ?_
  clear es12
  refine PW.iload 6 dX12_goes_77 rfl ?_
  refine PW.iload 5 dX12_goes_79 rfl ?_
  refine PW.icmp_ne (tgt := 89) dX12_goes_81 (by decide) (fun c13 => ?_) (fun c13 => ?_)
  · replace h := ifn h c13
    refine PW.aload_n 0 0 dX12_goes_89 rfl rfl rfl ?_
    refine CW.getr dX12_goes_90 fL_X12_87 LA_193 (Or.inr ⟨_, rfl⟩) rfl ?_
    refine PW.bipush (v := 8) dX12_goes_93 (by decide) ?_
    refine PW.iload_n 2 3 dX12_goes_95 rfl rfl ?_
    refine PW.imul dX12_goes_96 ?_
    refine PW.iload 6 dX12_goes_97 rfl ?_
    refine PW.iadd dX12_goes_99 ?_
    by_cases c14 : inb (((8 : Int32) * x3) + x7) 128
    rotate_left
    · have h := ifn h c14; cases h
    replace h := ifp h c14
    refine CW.iald dX12_goes_100 LA_219 c14 ?_
    exact PW.pick [0, 1, 2, 3, 4, 5, 6] rfl (ok_j_X12_goes_101 h hx)
  · replace h := ifp h c13
    refine PW.iload 4 dX12_goes_84 rfl ?_
    refine PW.goto (tgt := 101) dX12_goes_86 (by decide) ?_
    exact PW.pick [0, 1, 2, 3, 4, 5, 6] rfl (ok_j_X12_goes_101 h hx)
def b_X12_goes_35 (N : Nat) (x2 : Int32) (x3 : Int32) (x4 : Int32) (x5 : Int32) (x6 : Int32) (x7 : Int32) (s : cS) : Option ((Int32 × cS) ⊕ (Unit × cS)) :=
  if x6 < x7 then
    oR (
      some (((), s)))
  else
    if (iG s 193 54) = 0 then
      if x7 = x6 then
        j_X12_goes_74 N x2 x3 x4 x5 x6 x7 x4 s
      else
        if inb (((8 : Int32) * x3) + x7) 128 then
        j_X12_goes_74 N x2 x3 x4 x5 x6 x7 (iG s 218 (((8 : Int32) * x3) + x7).toNatClampNeg) s
        else none
    else
      oR (
        some (((), s)))
set_option maxRecDepth 20000 in
set_option maxHeartbeats 4000000 in
theorem ok_b_X12_goes_35 {g : pG} {l : Launch} {F : pF} {N : Nat} {x2 : Int32} {x3 : Int32} {x4 : Int32} {x5 : Int32} {x6 : Int32} {x7 : Int32} {s : cS} {x : ((Int32 × cS) ⊕ (Unit × cS))} (h : b_X12_goes_35 N x2 x3 x4 x5 x6 x7 s = some x) (hx : (KL (fun (v : Int32 × cS) => PW g l (pRoom 6 0 0) M_X12_goes F 35 [(0, .ref 193), (2, .int x2), (3, .int x3), (4, .int x4), (5, .int x5), (6, .int x6), (7, .int v.1)] [] (tS v.2) 0 0) (fun q => F = pE g none (tS q.2) 0 0)) x) : PW g l (pRoom 6 0 0) M_X12_goes F 35 [(0, .ref 193), (2, .int x2), (3, .int x3), (4, .int x4), (5, .int x5), (6, .int x6), (7, .int x7)] [] (tS s) 0 0 := by
  unfold b_X12_goes_35 at h
  refine PW.iload 6 dX12_goes_35 rfl ?_
  refine PW.iload 5 dX12_goes_37 rfl ?_
  refine PW.icmp_gt (tgt := 184) dX12_goes_39 (by decide) (fun c8 => ?_) (fun c8 => ?_)
  · replace h := ifp h c8
    obtain ⟨xo, hy, hxo⟩ := oRb h
    clear h
    subst hxo
    replace hx := KLr hx
    have h := hy
    clear hy
    cases h
    subst hx
    exact PW.vret dX12_goes_184 rfl (Nat.le_refl 0) (Nat.le_refl 0)
  · replace h := ifn h c8
    refine PW.aload_n 0 0 dX12_goes_42 rfl rfl rfl ?_
    refine CW.geti dX12_goes_43 fL_X12_367 LA_193 (Or.inl rfl) ?_
    refine PW.if_ne (tgt := 184) dX12_goes_46 (by decide) (fun c9 => ?_) (fun c9 => ?_)
    · replace h := ifn h c9
      obtain ⟨xo, hy, hxo⟩ := oRb h
      clear h
      subst hxo
      replace hx := KLr hx
      have h := hy
      clear hy
      cases h
      subst hx
      exact PW.vret dX12_goes_184 rfl (Nat.le_refl 0) (Nat.le_refl 0)
    · replace h := ifp h c9
      refine PW.aload_n 0 0 dX12_goes_49 rfl rfl rfl ?_
      refine PW.iload 6 dX12_goes_50 rfl ?_
      refine PW.iload 5 dX12_goes_52 rfl ?_
      refine PW.icmp_ne (tgt := 62) dX12_goes_54 (by decide) (fun c10 => ?_) (fun c10 => ?_)
      · replace h := ifn h c10
        refine PW.aload_n 0 0 dX12_goes_62 rfl rfl rfl ?_
        refine CW.getr dX12_goes_63 fL_X12_84 LA_193 (Or.inr ⟨_, rfl⟩) rfl ?_
        refine PW.bipush (v := 8) dX12_goes_66 (by decide) ?_
        refine PW.iload_n 2 3 dX12_goes_68 rfl rfl ?_
        refine PW.imul dX12_goes_69 ?_
        refine PW.iload 6 dX12_goes_70 rfl ?_
        refine PW.iadd dX12_goes_72 ?_
        by_cases c11 : inb (((8 : Int32) * x3) + x7) 128
        rotate_left
        · have h := ifn h c11; cases h
        replace h := ifp h c11
        refine CW.iald dX12_goes_73 LA_218 c11 ?_
        exact PW.pick [0, 1, 2, 3, 4, 5, 6] rfl (ok_j_X12_goes_74 h hx)
      · replace h := ifp h c10
        refine PW.iload 3 dX12_goes_57 rfl ?_
        refine PW.goto (tgt := 74) dX12_goes_59 (by decide) ?_
        exact PW.pick [0, 1, 2, 3, 4, 5, 6] rfl (ok_j_X12_goes_74 h hx)
def w_X12_goes_35 (N : Nat) (x2 : Int32) (x3 : Int32) (x4 : Int32) (x5 : Int32) (x6 : Int32) (x7 : Int32) (s : cS) : Option (Unit × cS) := itr (fun (v : Int32 × cS) => b_X12_goes_35 N x2 x3 x4 x5 x6 v.1 v.2) N (x7, s)
theorem ok_w_X12_goes_35 {g : pG} {l : Launch} {F : pF} {N : Nat} {x2 : Int32} {x3 : Int32} {x4 : Int32} {x5 : Int32} {x6 : Int32} {x7 : Int32} {s : cS} {x : (Unit × cS)} (h : w_X12_goes_35 N x2 x3 x4 x5 x6 x7 s = some x) (hx : (fun q => F = pE g none (tS q.2) 0 0) x) : PW g l (pRoom 6 0 0) M_X12_goes F 35 [(0, .ref 193), (2, .int x2), (3, .int x3), (4, .int x4), (5, .int x5), (6, .int x6), (7, .int x7)] [] (tS s) 0 0 :=
  okIter (P := (fun (v : Int32 × cS) => PW g l (pRoom 6 0 0) M_X12_goes F 35 [(0, .ref 193), (2, .int x2), (3, .int x3), (4, .int x4), (5, .int x5), (6, .int x6), (7, .int v.1)] [] (tS v.2) 0 0)) (K := (fun q => F = pE g none (tS q.2) 0 0)) (fun v y hB hy => ok_b_X12_goes_35 hB hy) N (x7, s) x h hx
def j_X12_goes_30 (N : Nat) (x2 : Int32) (x3 : Int32) (x4 : Int32) (x5 : Int32) (y0 : Int32) (s : cS) : Option (Unit × cS) :=
  w_X12_goes_35 N x2 x3 x4 x5 y0 (0 : Int32) s
set_option maxRecDepth 20000 in
set_option maxHeartbeats 4000000 in
theorem ok_j_X12_goes_30 {g : pG} {l : Launch} {F : pF} {N : Nat} {x2 : Int32} {x3 : Int32} {x4 : Int32} {x5 : Int32} {y0 : Int32} {s : cS} {x : (Unit × cS)} (h : j_X12_goes_30 N x2 x3 x4 x5 y0 s = some x) (hx : (fun q => F = pE g none (tS q.2) 0 0) x) : PW g l (pRoom 6 0 0) M_X12_goes F 30 [(0, .ref 193), (2, .int x2), (3, .int x3), (4, .int x4), (5, .int x5)] [.int y0] (tS s) 0 0 := by
  unfold j_X12_goes_30 at h
  refine PW.istore dX12_goes_30 (Nat.le_of_ble_eq_true rfl) rfl ?_
  refine PW.iconst (v := 0) dX12_goes_32 (by decide) ?_
  refine PW.istore dX12_goes_33 (Nat.le_of_ble_eq_true rfl) rfl ?_
  exact PW.pick [2, 3, 4, 5, 6, 1, 0] rfl (ok_w_X12_goes_35 h hx)
def f_X12_goes (N : Nat) (a0 : Int32) (a1 : Int32) (a2 : Int32) (a3 : Int32) (a4 : Int32) (s : cS) : Option (Unit × cS) :=
  tb (f_X12_takes a0 s) fun r1 s2 =>
  sb (iS s2 193 53 (0 : Int32)) fun s4 =>
  sb (iS s4 193 54 (0 : Int32)) fun s5 =>
  if a2 = (-1 : Int32) then
    j_X12_goes_30 N a1 a2 a3 a4 (0 : Int32) s5
  else
    if inb a2 16 then
    j_X12_goes_30 N a1 a2 a3 a4 (iG s5 217 a2.toNatClampNeg) s5
    else none
set_option maxRecDepth 20000 in
set_option maxHeartbeats 4000000 in
theorem p_X12_goes {g : pG} {l : Launch} {N : Nat} {a0 : Int32} {a1 : Int32} {a2 : Int32} {a3 : Int32} {a4 : Int32} {s : cS} {q : Unit × cS} (h : f_X12_goes N a0 a1 a2 a3 a4 s = some q) : PM g l 6 M_X12_goes [.ref 193, .int a0, .int a1, .int a2, .int a3, .int a4] (tS s) none (tS q.2) 0 0 := by
  refine PM.of (by decide +kernel) (Nat.le_of_ble_eq_true rfl) ?_
  show PW g l (pRoom 6 0 0) M_X12_goes _ 0 [(0, .ref 193), (1, .int a0), (2, .int a1), (3, .int a2), (4, .int a3), (5, .int a4)] [] (tS s) 0 0
  unfold f_X12_goes at h
  generalize hF : pE g none (tS q.2) 0 0 = F
  have hx := hF.symm
  refine PW.aload_n 0 0 dX12_goes_0 rfl rfl rfl ?_
  refine PW.iload_n 1 1 dX12_goes_1 rfl rfl ?_
  obtain ⟨r1, s2, q3, h⟩ := tbnd h
  refine CW.callVv (ci := 12) (st := []) [.int a0] dX12_goes_2 (p_X12_takes q3) MV_X12_takes mL_X12_348 (by decide) rfl LA_193 rfl rfl (Nat.le_of_ble_eq_true rfl) (by first | decide | omega) ?_
  refine PW.aload_n 0 0 dX12_goes_5 rfl rfl rfl ?_
  refine PW.iconst (v := 0) dX12_goes_6 (by decide) ?_
  refine CW.puti dX12_goes_7 fL_X12_364 rfl LA_193 rfl ?_
  obtain ⟨s4, es4, h⟩ := sbnd h
  refine PW.sbe es4 ?_
  clear es4
  refine PW.aload_n 0 0 dX12_goes_10 rfl rfl rfl ?_
  refine PW.iconst (v := 0) dX12_goes_11 (by decide) ?_
  refine CW.puti dX12_goes_12 fL_X12_367 rfl LA_193 rfl ?_
  obtain ⟨s5, es5, h⟩ := sbnd h
  refine PW.sbe es5 ?_
  clear es5
  refine PW.iload_n 3 3 dX12_goes_15 rfl rfl ?_
  refine PW.iconst (v := (-1)) dX12_goes_16 (by decide) ?_
  refine PW.icmp_ne (tgt := 24) dX12_goes_17 (by decide) (fun c6 => ?_) (fun c6 => ?_)
  · replace h := ifn h c6
    refine PW.aload_n 0 0 dX12_goes_24 rfl rfl rfl ?_
    refine CW.getr dX12_goes_25 fL_X12_81 LA_193 (Or.inr ⟨_, rfl⟩) rfl ?_
    refine PW.iload_n 3 3 dX12_goes_28 rfl rfl ?_
    by_cases c7 : inb a2 16
    rotate_left
    · have h := ifn h c7; cases h
    replace h := ifp h c7
    refine CW.iald dX12_goes_29 LA_217 c7 ?_
    exact PW.pick [0, 2, 3, 4, 5] rfl (ok_j_X12_goes_30 h hx)
  · replace h := ifp h c6
    refine PW.iconst (v := 0) dX12_goes_20 (by decide) ?_
    refine PW.goto (tgt := 30) dX12_goes_21 (by decide) ?_
    exact PW.pick [0, 2, 3, 4, 5] rfl (ok_j_X12_goes_30 h hx)
/-! X12_runs -/
def f_X12_runs (N : Nat) (a0 : Int32) (a1 : Int32) (a2 : Int32) (a3 : Int32) (s : cS) : Option (Int32 × cS) :=
  if (f_X12_isProgram a0 s) = 0 then
    some (((-1 : Int32), s))
  else
    if (f_X12_isCorner a1 s) = 0 then
      some (((-1 : Int32), s))
    else
      if inb a1 8 then
      if (lIn a2.toInt64 (0 : Int64) (((iG s 199 a1.toNatClampNeg) - (1 : Int32)).toInt64)) = 0 then
        some (((-1 : Int32), s))
      else
        if (lIn a3.toInt64 (0 : Int64) (1 : Int64)) = 0 then
          some (((-1 : Int32), s))
        else
          if inb (((4 : Int32) * a1) + a2) 32 then
          ob (f_X12_goes N a1 (iG s 200 (((4 : Int32) * a1) + a2).toNatClampNeg) a0 (0 : Int32) (0 : Int32) s) fun r11 s12 =>
          if a3 = 0 then
            some (((iG s12 193 53), s12))
          else
            some (((iG s12 193 54), s12))
          else none
      else none
set_option maxRecDepth 20000 in
set_option maxHeartbeats 4000000 in
theorem p_X12_runs {g : pG} {l : Launch} {N : Nat} {a0 : Int32} {a1 : Int32} {a2 : Int32} {a3 : Int32} {s : cS} {q : Int32 × cS} (h : f_X12_runs N a0 a1 a2 a3 s = some q) : PM g l 7 M_X12_runs [.ref 193, .int a0, .int a1, .int a2, .int a3] (tS s) (some (.int q.1)) (tS q.2) 0 0 := by
  refine PM.of (by decide +kernel) (Nat.le_of_ble_eq_true rfl) ?_
  show PW g l (pRoom 7 0 0) M_X12_runs _ 0 [(0, .ref 193), (1, .int a0), (2, .int a1), (3, .int a2), (4, .int a3)] [] (tS s) 0 0
  unfold f_X12_runs at h
  generalize hF : pE g (some (.int q.1)) (tS q.2) 0 0 = F
  have hx := hF.symm
  refine PW.iload_n 1 1 dX12_runs_0 rfl rfl ?_
  refine CW.callSi (st := []) [.int a0] dX12_runs_1 (p_X12_isProgram rfl) MS_X12_isProgram mL_X12_356 rfl rfl (Nat.le_of_ble_eq_true rfl) (by first | decide | omega) ?_
  refine PW.if_eq (tgt := 44) dX12_runs_4 (by decide) (fun c2 => ?_) (fun c2 => ?_)
  · replace h := ifp h c2
    refine PW.iconst (v := (-1)) dX12_runs_44 (by decide) ?_
    cases h
    subst hx
    exact PW.iret (v := (-1 : Int32)) dX12_runs_45 rfl rfl (Nat.le_refl 0) (Nat.le_refl 0)
  · replace h := ifn h c2
    refine PW.aload_n 0 0 dX12_runs_7 rfl rfl rfl ?_
    refine PW.iload_n 2 2 dX12_runs_8 rfl rfl ?_
    refine CW.callVi (ci := 12) (st := []) [.int a1] dX12_runs_9 (p_X12_isCorner rfl) MV_X12_isCorner mL_X12_177 (by decide) rfl LA_193 rfl rfl (Nat.le_of_ble_eq_true rfl) (by first | decide | omega) ?_
    refine PW.if_eq (tgt := 44) dX12_runs_12 (by decide) (fun c4 => ?_) (fun c4 => ?_)
    · replace h := ifp h c4
      refine PW.iconst (v := (-1)) dX12_runs_44 (by decide) ?_
      cases h
      subst hx
      exact PW.iret (v := (-1 : Int32)) dX12_runs_45 rfl rfl (Nat.le_refl 0) (Nat.le_refl 0)
    · replace h := ifn h c4
      refine PW.iload_n 3 3 dX12_runs_15 rfl rfl ?_
      refine PW.i2l dX12_runs_16 ?_
      refine PW.lconst (v := 0) dX12_runs_17 (by decide) ?_
      refine PW.aload_n 0 0 dX12_runs_18 rfl rfl rfl ?_
      refine CW.getr dX12_runs_19 fL_X12_26 LA_193 (Or.inr ⟨_, rfl⟩) rfl ?_
      refine PW.iload_n 2 2 dX12_runs_22 rfl rfl ?_
      by_cases c5 : inb a1 8
      rotate_left
      · have h := ifn h c5; cases h
      replace h := ifp h c5
      refine CW.iald dX12_runs_23 LA_199 c5 ?_
      refine PW.iconst (v := 1) dX12_runs_24 (by decide) ?_
      refine PW.isub dX12_runs_25 ?_
      refine PW.i2l dX12_runs_26 ?_
      refine CW.callSi (st := []) [.long a2.toInt64, .long (0 : Int64), .long ((iG s 199 a1.toNatClampNeg) - (1 : Int32)).toInt64] dX12_runs_27 (ps_isIn rfl) MS_X12_isIn mL_X12_164 rfl rfl (Nat.le_of_ble_eq_true rfl) (by first | decide | omega) ?_
      refine PW.if_eq (tgt := 44) dX12_runs_30 (by decide) (fun c7 => ?_) (fun c7 => ?_)
      · replace h := ifp h c7
        refine PW.iconst (v := (-1)) dX12_runs_44 (by decide) ?_
        cases h
        subst hx
        exact PW.iret (v := (-1 : Int32)) dX12_runs_45 rfl rfl (Nat.le_refl 0) (Nat.le_refl 0)
      · replace h := ifn h c7
        refine PW.iload 4 dX12_runs_33 rfl ?_
        refine PW.i2l dX12_runs_35 ?_
        refine PW.lconst (v := 0) dX12_runs_36 (by decide) ?_
        refine PW.lconst (v := 1) dX12_runs_37 (by decide) ?_
        refine CW.callSi (st := []) [.long a3.toInt64, .long (0 : Int64), .long (1 : Int64)] dX12_runs_38 (ps_isIn rfl) MS_X12_isIn mL_X12_164 rfl rfl (Nat.le_of_ble_eq_true rfl) (by first | decide | omega) ?_
        refine PW.if_ne (tgt := 46) dX12_runs_41 (by decide) (fun c9 => ?_) (fun c9 => ?_)
        · replace h := ifn h c9
          refine PW.aload_n 0 0 dX12_runs_46 rfl rfl rfl ?_
          refine PW.iload_n 2 2 dX12_runs_47 rfl rfl ?_
          refine PW.aload_n 0 0 dX12_runs_48 rfl rfl rfl ?_
          refine CW.getr dX12_runs_49 fL_X12_29 LA_193 (Or.inr ⟨_, rfl⟩) rfl ?_
          refine PW.iconst (v := 4) dX12_runs_52 (by decide) ?_
          refine PW.iload_n 2 2 dX12_runs_53 rfl rfl ?_
          refine PW.imul dX12_runs_54 ?_
          refine PW.iload_n 3 3 dX12_runs_55 rfl rfl ?_
          refine PW.iadd dX12_runs_56 ?_
          by_cases c10 : inb (((4 : Int32) * a1) + a2) 32
          rotate_left
          · have h := ifn h c10; cases h
          replace h := ifp h c10
          refine CW.iald dX12_runs_57 LA_200 c10 ?_
          refine PW.iload_n 1 1 dX12_runs_58 rfl rfl ?_
          refine PW.iconst (v := 0) dX12_runs_59 (by decide) ?_
          refine PW.iconst (v := 0) dX12_runs_60 (by decide) ?_
          obtain ⟨r11, s12, q13, h⟩ := obnd h
          refine CW.callVv (ci := 12) (st := []) [.int a1, .int (iG s 200 (((4 : Int32) * a1) + a2).toNatClampNeg), .int a0, .int (0 : Int32), .int (0 : Int32)] dX12_runs_61 (p_X12_goes q13) MV_X12_goes mL_X12_376 (by decide) rfl LA_193 rfl rfl (Nat.le_of_ble_eq_true rfl) (by first | decide | omega) ?_
          refine PW.iload 4 dX12_runs_64 rfl ?_
          refine PW.if_ne (tgt := 76) dX12_runs_66 (by decide) (fun c14 => ?_) (fun c14 => ?_)
          · replace h := ifn h c14
            refine PW.aload_n 0 0 dX12_runs_76 rfl rfl rfl ?_
            refine CW.geti dX12_runs_77 fL_X12_367 LA_193 (Or.inl rfl) ?_
            cases h
            subst hx
            exact PW.iret (v := (iG s12 193 54)) dX12_runs_80 rfl rfl (Nat.le_refl 0) (Nat.le_refl 0)
          · replace h := ifp h c14
            refine PW.aload_n 0 0 dX12_runs_69 rfl rfl rfl ?_
            refine CW.geti dX12_runs_70 fL_X12_364 LA_193 (Or.inl rfl) ?_
            refine PW.goto (tgt := 80) dX12_runs_73 (by decide) ?_
            cases h
            subst hx
            exact PW.iret (v := (iG s12 193 53)) dX12_runs_80 rfl rfl (Nat.le_refl 0) (Nat.le_refl 0)
        · replace h := ifp h c9
          refine PW.iconst (v := (-1)) dX12_runs_44 (by decide) ?_
          cases h
          subst hx
          exact PW.iret (v := (-1 : Int32)) dX12_runs_45 rfl rfl (Nat.le_refl 0) (Nat.le_refl 0)
/-! X12_pullsIn -/
def f_X12_pullsIn (a0 : Int32) (s : cS) : Option (Int32 × cS) :=
  if a0 = (-1 : Int32) then
    some (((0 : Int32), s))
  else
    if inb a0 16 then
    some (((iG s 220 a0.toNatClampNeg), s))
    else none
set_option maxRecDepth 20000 in
set_option maxHeartbeats 4000000 in
theorem p_X12_pullsIn {g : pG} {l : Launch} {a0 : Int32} {s : cS} {q : Int32 × cS} (h : f_X12_pullsIn a0 s = some q) : PM g l 1 M_X12_pullsIn [.ref 193, .int a0] (tS s) (some (.int q.1)) (tS q.2) 0 0 := by
  refine PM.of (by decide +kernel) (Nat.le_of_ble_eq_true rfl) ?_
  show PW g l (pRoom 1 0 0) M_X12_pullsIn _ 0 [(0, .ref 193), (1, .int a0)] [] (tS s) 0 0
  unfold f_X12_pullsIn at h
  generalize hF : pE g (some (.int q.1)) (tS q.2) 0 0 = F
  have hx := hF.symm
  refine PW.iload_n 1 1 dX12_pullsIn_0 rfl rfl ?_
  refine PW.iconst (v := (-1)) dX12_pullsIn_1 (by decide) ?_
  refine PW.icmp_ne (tgt := 9) dX12_pullsIn_2 (by decide) (fun c1 => ?_) (fun c1 => ?_)
  · replace h := ifn h c1
    refine PW.aload_n 0 0 dX12_pullsIn_9 rfl rfl rfl ?_
    refine CW.getr dX12_pullsIn_10 fL_X12_90 LA_193 (Or.inr ⟨_, rfl⟩) rfl ?_
    refine PW.iload_n 1 1 dX12_pullsIn_13 rfl rfl ?_
    by_cases c2 : inb a0 16
    rotate_left
    · have h := ifn h c2; cases h
    replace h := ifp h c2
    refine CW.iald dX12_pullsIn_14 LA_220 c2 ?_
    cases h
    subst hx
    exact PW.iret (v := (iG s 220 a0.toNatClampNeg)) dX12_pullsIn_15 rfl rfl (Nat.le_refl 0) (Nat.le_refl 0)
  · replace h := ifp h c1
    refine PW.iconst (v := 0) dX12_pullsIn_5 (by decide) ?_
    refine PW.goto (tgt := 15) dX12_pullsIn_6 (by decide) ?_
    cases h
    subst hx
    exact PW.iret (v := (0 : Int32)) dX12_pullsIn_15 rfl rfl (Nat.le_refl 0) (Nat.le_refl 0)
/-! X12_all -/
def j_X12_all_80 (x1 : Int32) (x2 : Int32) (x3 : Int32) (x4 : Int32) (x5 : Int32) (s : cS) : Option ((Int32 × cS) ⊕ (Unit × cS)) :=
  some (.inl ((x5 + (1 : Int32)), s))
set_option maxRecDepth 20000 in
set_option maxHeartbeats 4000000 in
theorem ok_j_X12_all_80 {g : pG} {l : Launch} {F : pF} {x1 : Int32} {x2 : Int32} {x3 : Int32} {x4 : Int32} {x5 : Int32} {s : cS} {x : ((Int32 × cS) ⊕ (Unit × cS))} (h : j_X12_all_80 x1 x2 x3 x4 x5 s = some x) (hx : (KL (fun (v : Int32 × cS) => PW g l (pRoom 7 0 0) M_X12_all F 3 [(0, .ref 193), (1, .int x1), (2, .int x2), (3, .int x3), (4, .int x4), (5, .int v.1)] [] (tS v.2) 0 0) (fun q => F = pE g none (tS q.2) 0 0)) x) : PW g l (pRoom 7 0 0) M_X12_all F 80 [(0, .ref 193), (1, .int x1), (2, .int x2), (3, .int x3), (4, .int x4), (5, .int x5)] [] (tS s) 0 0 := by
  unfold j_X12_all_80 at h
  refine PW.iinc (v := (x5 + (1 : Int32))) 5 dX12_all_80 rfl (by first | rfl | decide) (Nat.le_of_ble_eq_true rfl) rfl ?_
  refine PW.goto (tgt := 3) dX12_all_83 (by decide) ?_
  cases h
  exact PW.pick [1, 2, 3, 4, 5, 0] rfl hx
def b_X12_all_15 (N : Nat) (x1 : Int32) (x2 : Int32) (x3 : Int32) (x4 : Int32) (x5 : Int32) (x6 : Int32) (s : cS) : Option ((Int32 × cS) ⊕ ((Int32 × cS) ⊕ (Unit × cS))) :=
  if inb x5 8 then
  if (iG s 199 x5.toNatClampNeg) ≤ x6 then
    oR (
      j_X12_all_80 x1 x2 x3 x4 x5 s)
  else
    if (f_X12_has x1 x5 s) = 0 then
      oR (
        j_X12_all_80 x1 x2 x3 x4 x5 s)
    else
      if inb (((4 : Int32) * x5) + x6) 32 then
      ob (f_X12_goes N x5 (iG s 200 (((4 : Int32) * x5) + x6).toNatClampNeg) x2 x3 x4 s) fun r7 s8 =>
      sb (iS s8 223 (((4 : Int32) * x5) + x6).toNatClampNeg (iG s8 193 54)) fun s10 =>
      some (.inl ((x6 + (1 : Int32)), s10))
      else none
  else none
set_option maxRecDepth 20000 in
set_option maxHeartbeats 4000000 in
theorem ok_b_X12_all_15 {g : pG} {l : Launch} {F : pF} {N : Nat} {x1 : Int32} {x2 : Int32} {x3 : Int32} {x4 : Int32} {x5 : Int32} {x6 : Int32} {s : cS} {x : ((Int32 × cS) ⊕ ((Int32 × cS) ⊕ (Unit × cS)))} (h : b_X12_all_15 N x1 x2 x3 x4 x5 x6 s = some x) (hx : (KL (fun (v : Int32 × cS) => PW g l (pRoom 7 0 0) M_X12_all F 15 [(0, .ref 193), (1, .int x1), (2, .int x2), (3, .int x3), (4, .int x4), (5, .int x5), (6, .int v.1)] [] (tS v.2) 0 0) (KL (fun (v : Int32 × cS) => PW g l (pRoom 7 0 0) M_X12_all F 3 [(0, .ref 193), (1, .int x1), (2, .int x2), (3, .int x3), (4, .int x4), (5, .int v.1)] [] (tS v.2) 0 0) (fun q => F = pE g none (tS q.2) 0 0))) x) : PW g l (pRoom 7 0 0) M_X12_all F 15 [(0, .ref 193), (1, .int x1), (2, .int x2), (3, .int x3), (4, .int x4), (5, .int x5), (6, .int x6)] [] (tS s) 0 0 := by
  unfold b_X12_all_15 at h
  refine PW.iload 6 dX12_all_15 rfl ?_
  refine PW.aload_n 0 0 dX12_all_17 rfl rfl rfl ?_
  refine CW.getr dX12_all_18 fL_X12_26 LA_193 (Or.inr ⟨_, rfl⟩) rfl ?_
  refine PW.iload 5 dX12_all_21 rfl ?_
  by_cases c2 : inb x5 8
  rotate_left
  · have h := ifn h c2; cases h
  replace h := ifp h c2
  refine CW.iald dX12_all_23 LA_199 c2 ?_
  refine PW.icmp_ge (tgt := 80) dX12_all_24 (by decide) (fun c3 => ?_) (fun c3 => ?_)
  · replace h := ifp h c3
    obtain ⟨xo, hy, hxo⟩ := oRb h
    clear h
    subst hxo
    replace hx := KLr hx
    have h := hy
    clear hy
    exact PW.pick [0, 1, 2, 3, 4, 5] rfl (ok_j_X12_all_80 h hx)
  · replace h := ifn h c3
    refine PW.iload_n 1 1 dX12_all_27 rfl rfl ?_
    refine PW.iload 5 dX12_all_28 rfl ?_
    refine CW.callSi (st := []) [.int x1, .int x5] dX12_all_30 (p_X12_has rfl) MS_X12_has mL_X12_380 rfl rfl (Nat.le_of_ble_eq_true rfl) (by first | decide | omega) ?_
    refine PW.if_eq (tgt := 80) dX12_all_33 (by decide) (fun c5 => ?_) (fun c5 => ?_)
    · replace h := ifp h c5
      obtain ⟨xo, hy, hxo⟩ := oRb h
      clear h
      subst hxo
      replace hx := KLr hx
      have h := hy
      clear hy
      exact PW.pick [0, 1, 2, 3, 4, 5] rfl (ok_j_X12_all_80 h hx)
    · replace h := ifn h c5
      refine PW.aload_n 0 0 dX12_all_36 rfl rfl rfl ?_
      refine PW.iload 5 dX12_all_37 rfl ?_
      refine PW.aload_n 0 0 dX12_all_39 rfl rfl rfl ?_
      refine CW.getr dX12_all_40 fL_X12_29 LA_193 (Or.inr ⟨_, rfl⟩) rfl ?_
      refine PW.iconst (v := 4) dX12_all_43 (by decide) ?_
      refine PW.iload 5 dX12_all_44 rfl ?_
      refine PW.imul dX12_all_46 ?_
      refine PW.iload 6 dX12_all_47 rfl ?_
      refine PW.iadd dX12_all_49 ?_
      by_cases c6 : inb (((4 : Int32) * x5) + x6) 32
      rotate_left
      · have h := ifn h c6; cases h
      replace h := ifp h c6
      refine CW.iald dX12_all_50 LA_200 c6 ?_
      refine PW.iload_n 2 2 dX12_all_51 rfl rfl ?_
      refine PW.iload_n 3 3 dX12_all_52 rfl rfl ?_
      refine PW.iload 4 dX12_all_53 rfl ?_
      obtain ⟨r7, s8, q9, h⟩ := obnd h
      refine CW.callVv (ci := 12) (st := []) [.int x5, .int (iG s 200 (((4 : Int32) * x5) + x6).toNatClampNeg), .int x2, .int x3, .int x4] dX12_all_55 (p_X12_goes q9) MV_X12_goes mL_X12_376 (by decide) rfl LA_193 rfl rfl (Nat.le_of_ble_eq_true rfl) (by first | decide | omega) ?_
      refine PW.aload_n 0 0 dX12_all_58 rfl rfl rfl ?_
      refine CW.getr dX12_all_59 fL_X12_99 LA_193 (Or.inr ⟨_, rfl⟩) rfl ?_
      refine PW.iconst (v := 4) dX12_all_62 (by decide) ?_
      refine PW.iload 5 dX12_all_63 rfl ?_
      refine PW.imul dX12_all_65 ?_
      refine PW.iload 6 dX12_all_66 rfl ?_
      refine PW.iadd dX12_all_68 ?_
      refine PW.aload_n 0 0 dX12_all_69 rfl rfl rfl ?_
      refine CW.geti dX12_all_70 fL_X12_367 LA_193 (Or.inl rfl) ?_
      refine CW.iast dX12_all_73 LA_223 c6 ?_
      obtain ⟨s10, es10, h⟩ := sbnd h
      refine PW.sbe es10 ?_
      clear es10
      refine PW.iinc (v := (x6 + (1 : Int32))) 6 dX12_all_74 rfl (by first | rfl | decide) (Nat.le_of_ble_eq_true rfl) rfl ?_
      refine PW.goto (tgt := 15) dX12_all_77 (by decide) ?_
      cases h
      exact PW.pick [1, 2, 3, 4, 5, 6, 0] rfl hx
def w_X12_all_15 (N : Nat) (x1 : Int32) (x2 : Int32) (x3 : Int32) (x4 : Int32) (x5 : Int32) (x6 : Int32) (s : cS) : Option ((Int32 × cS) ⊕ (Unit × cS)) := itr (fun (v : Int32 × cS) => b_X12_all_15 N x1 x2 x3 x4 x5 v.1 v.2) N (x6, s)
theorem ok_w_X12_all_15 {g : pG} {l : Launch} {F : pF} {N : Nat} {x1 : Int32} {x2 : Int32} {x3 : Int32} {x4 : Int32} {x5 : Int32} {x6 : Int32} {s : cS} {x : ((Int32 × cS) ⊕ (Unit × cS))} (h : w_X12_all_15 N x1 x2 x3 x4 x5 x6 s = some x) (hx : (KL (fun (v : Int32 × cS) => PW g l (pRoom 7 0 0) M_X12_all F 3 [(0, .ref 193), (1, .int x1), (2, .int x2), (3, .int x3), (4, .int x4), (5, .int v.1)] [] (tS v.2) 0 0) (fun q => F = pE g none (tS q.2) 0 0)) x) : PW g l (pRoom 7 0 0) M_X12_all F 15 [(0, .ref 193), (1, .int x1), (2, .int x2), (3, .int x3), (4, .int x4), (5, .int x5), (6, .int x6)] [] (tS s) 0 0 :=
  okIter (P := (fun (v : Int32 × cS) => PW g l (pRoom 7 0 0) M_X12_all F 15 [(0, .ref 193), (1, .int x1), (2, .int x2), (3, .int x3), (4, .int x4), (5, .int x5), (6, .int v.1)] [] (tS v.2) 0 0)) (K := (KL (fun (v : Int32 × cS) => PW g l (pRoom 7 0 0) M_X12_all F 3 [(0, .ref 193), (1, .int x1), (2, .int x2), (3, .int x3), (4, .int x4), (5, .int v.1)] [] (tS v.2) 0 0) (fun q => F = pE g none (tS q.2) 0 0))) (fun v y hB hy => ok_b_X12_all_15 hB hy) N (x6, s) x h hx
def b_X12_all_3 (N : Nat) (x1 : Int32) (x2 : Int32) (x3 : Int32) (x4 : Int32) (x5 : Int32) (s : cS) : Option ((Int32 × cS) ⊕ (Unit × cS)) :=
  if (iG s 193 2) ≤ x5 then
    oR (
      some (((), s)))
  else
    w_X12_all_15 N x1 x2 x3 x4 x5 (0 : Int32) s
set_option maxRecDepth 20000 in
set_option maxHeartbeats 4000000 in
theorem ok_b_X12_all_3 {g : pG} {l : Launch} {F : pF} {N : Nat} {x1 : Int32} {x2 : Int32} {x3 : Int32} {x4 : Int32} {x5 : Int32} {s : cS} {x : ((Int32 × cS) ⊕ (Unit × cS))} (h : b_X12_all_3 N x1 x2 x3 x4 x5 s = some x) (hx : (KL (fun (v : Int32 × cS) => PW g l (pRoom 7 0 0) M_X12_all F 3 [(0, .ref 193), (1, .int x1), (2, .int x2), (3, .int x3), (4, .int x4), (5, .int v.1)] [] (tS v.2) 0 0) (fun q => F = pE g none (tS q.2) 0 0)) x) : PW g l (pRoom 7 0 0) M_X12_all F 3 [(0, .ref 193), (1, .int x1), (2, .int x2), (3, .int x3), (4, .int x4), (5, .int x5)] [] (tS s) 0 0 := by
  unfold b_X12_all_3 at h
  refine PW.iload 5 dX12_all_3 rfl ?_
  refine PW.aload_n 0 0 dX12_all_5 rfl rfl rfl ?_
  refine CW.geti dX12_all_6 fL_X12_161 LA_193 (Or.inl rfl) ?_
  refine PW.icmp_ge (tgt := 86) dX12_all_9 (by decide) (fun c1 => ?_) (fun c1 => ?_)
  · replace h := ifp h c1
    obtain ⟨xo, hy, hxo⟩ := oRb h
    clear h
    subst hxo
    replace hx := KLr hx
    have h := hy
    clear hy
    cases h
    subst hx
    exact PW.vret dX12_all_86 rfl (Nat.le_refl 0) (Nat.le_refl 0)
  · replace h := ifn h c1
    refine PW.iconst (v := 0) dX12_all_12 (by decide) ?_
    refine PW.istore dX12_all_13 (Nat.le_of_ble_eq_true rfl) rfl ?_
    exact PW.pick [1, 2, 3, 4, 5, 6, 0] rfl (ok_w_X12_all_15 h hx)
def w_X12_all_3 (N : Nat) (x1 : Int32) (x2 : Int32) (x3 : Int32) (x4 : Int32) (x5 : Int32) (s : cS) : Option (Unit × cS) := itr (fun (v : Int32 × cS) => b_X12_all_3 N x1 x2 x3 x4 v.1 v.2) N (x5, s)
theorem ok_w_X12_all_3 {g : pG} {l : Launch} {F : pF} {N : Nat} {x1 : Int32} {x2 : Int32} {x3 : Int32} {x4 : Int32} {x5 : Int32} {s : cS} {x : (Unit × cS)} (h : w_X12_all_3 N x1 x2 x3 x4 x5 s = some x) (hx : (fun q => F = pE g none (tS q.2) 0 0) x) : PW g l (pRoom 7 0 0) M_X12_all F 3 [(0, .ref 193), (1, .int x1), (2, .int x2), (3, .int x3), (4, .int x4), (5, .int x5)] [] (tS s) 0 0 :=
  okIter (P := (fun (v : Int32 × cS) => PW g l (pRoom 7 0 0) M_X12_all F 3 [(0, .ref 193), (1, .int x1), (2, .int x2), (3, .int x3), (4, .int x4), (5, .int v.1)] [] (tS v.2) 0 0)) (K := (fun q => F = pE g none (tS q.2) 0 0)) (fun v y hB hy => ok_b_X12_all_3 hB hy) N (x5, s) x h hx
def f_X12_all (N : Nat) (a0 : Int32) (a1 : Int32) (a2 : Int32) (a3 : Int32) (s : cS) : Option (Unit × cS) :=
  w_X12_all_3 N a0 a1 a2 a3 (0 : Int32) s
set_option maxRecDepth 20000 in
set_option maxHeartbeats 4000000 in
theorem p_X12_all {g : pG} {l : Launch} {N : Nat} {a0 : Int32} {a1 : Int32} {a2 : Int32} {a3 : Int32} {s : cS} {q : Unit × cS} (h : f_X12_all N a0 a1 a2 a3 s = some q) : PM g l 7 M_X12_all [.ref 193, .int a0, .int a1, .int a2, .int a3] (tS s) none (tS q.2) 0 0 := by
  refine PM.of (by decide +kernel) (Nat.le_of_ble_eq_true rfl) ?_
  show PW g l (pRoom 7 0 0) M_X12_all _ 0 [(0, .ref 193), (1, .int a0), (2, .int a1), (3, .int a2), (4, .int a3)] [] (tS s) 0 0
  unfold f_X12_all at h
  generalize hF : pE g none (tS q.2) 0 0 = F
  have hx := hF.symm
  refine PW.iconst (v := 0) dX12_all_0 (by decide) ?_
  refine PW.istore dX12_all_1 (Nat.le_of_ble_eq_true rfl) rfl ?_
  exact PW.pick [1, 2, 3, 4, 5, 0] rfl (ok_w_X12_all_3 h hx)
