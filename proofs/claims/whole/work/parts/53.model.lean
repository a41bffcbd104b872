/-! X12_isPlus -/
def f_X12_isPlus (a0 : Int32) (s : cS) : Int32 :=
  if a0 = (43 : Int32) then
    (1 : Int32)
  else
    if a0 = (45 : Int32) then
      (1 : Int32)
    else
      (0 : Int32)
set_option maxRecDepth 20000 in
set_option maxHeartbeats 4000000 in
theorem p_X12_isPlus {g : pG} {l : Launch} {a0 : Int32} {s : cS} {q : Int32} (h : f_X12_isPlus a0 s = q) : PM g l 1 M_X12_isPlus [.int a0] (tS s) (some (.int q)) (tS s) 0 0 := by
  refine PM.of (by decide +kernel) (Nat.le_of_ble_eq_true rfl) ?_
  show PW g l (pRoom 1 0 0) M_X12_isPlus _ 0 [(0, .int a0)] [] (tS s) 0 0
  unfold f_X12_isPlus at h
  generalize hF : pE g (some (.int q)) (tS s) 0 0 = F
  have hx := hF.symm
  refine PW.iload_n 0 0 dX12_isPlus_0 rfl rfl ?_
  refine PW.bipush (v := 43) dX12_isPlus_1 (by decide) ?_
  refine PW.icmp_eq (tgt := 12) dX12_isPlus_3 (by decide) (fun c1 => ?_) (fun c1 => ?_)
  · replace h := ifp h c1
    refine PW.iconst (v := 1) dX12_isPlus_12 (by decide) ?_
    refine PW.goto (tgt := 17) dX12_isPlus_13 (by decide) ?_
    cases h
    subst hx
    exact PW.iret (v := (1 : Int32)) dX12_isPlus_17 rfl (narZ (Or.inr rfl)) (Nat.le_refl 0) (Nat.le_refl 0)
  · replace h := ifn h c1
    refine PW.iload_n 0 0 dX12_isPlus_6 rfl rfl ?_
    refine PW.bipush (v := 45) dX12_isPlus_7 (by decide) ?_
    refine PW.icmp_ne (tgt := 16) dX12_isPlus_9 (by decide) (fun c2 => ?_) (fun c2 => ?_)
    · replace h := ifn h c2
      refine PW.iconst (v := 0) dX12_isPlus_16 (by decide) ?_
      cases h
      subst hx
      exact PW.iret (v := (0 : Int32)) dX12_isPlus_17 rfl (narZ (Or.inl rfl)) (Nat.le_refl 0) (Nat.le_refl 0)
    · replace h := ifp h c2
      refine PW.iconst (v := 1) dX12_isPlus_12 (by decide) ?_
      refine PW.goto (tgt := 17) dX12_isPlus_13 (by decide) ?_
      cases h
      subst hx
      exact PW.iret (v := (1 : Int32)) dX12_isPlus_17 rfl (narZ (Or.inr rfl)) (Nat.le_refl 0) (Nat.le_refl 0)
theorem f_X12_isPlus_bool {a0 : Int32} {s : cS} : f_X12_isPlus a0 s = 0 ∨ f_X12_isPlus a0 s = 1 := by
  unfold f_X12_isPlus
  repeat' split
  all_goals first | exact Or.inl rfl | exact Or.inr rfl
/-! X12_isSign -/
def f_X12_isSign (a0 : Int32) (s : cS) : Int32 :=
  if a0 = (60 : Int32) then
    (1 : Int32)
  else
    if a0 = (62 : Int32) then
      (1 : Int32)
    else
      if a0 = (61 : Int32) then
        (1 : Int32)
      else
        (0 : Int32)
set_option maxRecDepth 20000 in
set_option maxHeartbeats 4000000 in
theorem p_X12_isSign {g : pG} {l : Launch} {a0 : Int32} {s : cS} {q : Int32} (h : f_X12_isSign a0 s = q) : PM g l 1 M_X12_isSign [.int a0] (tS s) (some (.int q)) (tS s) 0 0 := by
  refine PM.of (by decide +kernel) (Nat.le_of_ble_eq_true rfl) ?_
  show PW g l (pRoom 1 0 0) M_X12_isSign _ 0 [(0, .int a0)] [] (tS s) 0 0
  unfold f_X12_isSign at h
  generalize hF : pE g (some (.int q)) (tS s) 0 0 = F
  have hx := hF.symm
  refine PW.iload_n 0 0 dX12_isSign_0 rfl rfl ?_
  refine PW.bipush (v := 60) dX12_isSign_1 (by decide) ?_
  refine PW.icmp_eq (tgt := 18) dX12_isSign_3 (by decide) (fun c1 => ?_) (fun c1 => ?_)
  · replace h := ifp h c1
    refine PW.iconst (v := 1) dX12_isSign_18 (by decide) ?_
    refine PW.goto (tgt := 23) dX12_isSign_19 (by decide) ?_
    cases h
    subst hx
    exact PW.iret (v := (1 : Int32)) dX12_isSign_23 rfl (narZ (Or.inr rfl)) (Nat.le_refl 0) (Nat.le_refl 0)
  · replace h := ifn h c1
    refine PW.iload_n 0 0 dX12_isSign_6 rfl rfl ?_
    refine PW.bipush (v := 62) dX12_isSign_7 (by decide) ?_
    refine PW.icmp_eq (tgt := 18) dX12_isSign_9 (by decide) (fun c2 => ?_) (fun c2 => ?_)
    · replace h := ifp h c2
      refine PW.iconst (v := 1) dX12_isSign_18 (by decide) ?_
      refine PW.goto (tgt := 23) dX12_isSign_19 (by decide) ?_
      cases h
      subst hx
      exact PW.iret (v := (1 : Int32)) dX12_isSign_23 rfl (narZ (Or.inr rfl)) (Nat.le_refl 0) (Nat.le_refl 0)
    · replace h := ifn h c2
      refine PW.iload_n 0 0 dX12_isSign_12 rfl rfl ?_
      refine PW.bipush (v := 61) dX12_isSign_13 (by decide) ?_
      refine PW.icmp_ne (tgt := 22) dX12_isSign_15 (by decide) (fun c3 => ?_) (fun c3 => ?_)
      · replace h := ifn h c3
        refine PW.iconst (v := 0) dX12_isSign_22 (by decide) ?_
        cases h
        subst hx
        exact PW.iret (v := (0 : Int32)) dX12_isSign_23 rfl (narZ (Or.inl rfl)) (Nat.le_refl 0) (Nat.le_refl 0)
      · replace h := ifp h c3
        refine PW.iconst (v := 1) dX12_isSign_18 (by decide) ?_
        refine PW.goto (tgt := 23) dX12_isSign_19 (by decide) ?_
        cases h
        subst hx
        exact PW.iret (v := (1 : Int32)) dX12_isSign_23 rfl (narZ (Or.inr rfl)) (Nat.le_refl 0) (Nat.le_refl 0)
theorem f_X12_isSign_bool {a0 : Int32} {s : cS} : f_X12_isSign a0 s = 0 ∨ f_X12_isSign a0 s = 1 := by
  unfold f_X12_isSign
  repeat' split
  all_goals first | exact Or.inl rfl | exact Or.inr rfl
/-! X12_isValue -/
def f_X12_isValue (a0 : Int32) (s : cS) : Int32 :=
  if a0 = (112 : Int32) then
    (1 : Int32)
  else
    if a0 = (114 : Int32) then
      (1 : Int32)
    else
      if a0 = (116 : Int32) then
        (1 : Int32)
      else
        if a0 = (107 : Int32) then
          (1 : Int32)
        else
          if a0 = (99 : Int32) then
            (1 : Int32)
          else
            if a0 = (110 : Int32) then
              (1 : Int32)
            else
              if a0 = (113 : Int32) then
                (1 : Int32)
              else
                if a0 = (104 : Int32) then
                  (1 : Int32)
                else
                  if a0 = (108 : Int32) then
                    (1 : Int32)
                  else
                    if a0 = (119 : Int32) then
                      (1 : Int32)
                    else
                      (0 : Int32)
set_option maxRecDepth 20000 in
set_option maxHeartbeats 4000000 in
theorem p_X12_isValue {g : pG} {l : Launch} {a0 : Int32} {s : cS} {q : Int32} (h : f_X12_isValue a0 s = q) : PM g l 1 M_X12_isValue [.int a0] (tS s) (some (.int q)) (tS s) 0 0 := by
  refine PM.of (by decide +kernel) (Nat.le_of_ble_eq_true rfl) ?_
  show PW g l (pRoom 1 0 0) M_X12_isValue _ 0 [(0, .int a0)] [] (tS s) 0 0
  unfold f_X12_isValue at h
  generalize hF : pE g (some (.int q)) (tS s) 0 0 = F
  have hx := hF.symm
  refine PW.iload_n 0 0 dX12_isValue_0 rfl rfl ?_
  refine PW.bipush (v := 112) dX12_isValue_1 (by decide) ?_
  refine PW.icmp_eq (tgt := 60) dX12_isValue_3 (by decide) (fun c1 => ?_) (fun c1 => ?_)
  · replace h := ifp h c1
    refine PW.iconst (v := 1) dX12_isValue_60 (by decide) ?_
    refine PW.goto (tgt := 65) dX12_isValue_61 (by decide) ?_
    cases h
    subst hx
    exact PW.iret (v := (1 : Int32)) dX12_isValue_65 rfl (narZ (Or.inr rfl)) (Nat.le_refl 0) (Nat.le_refl 0)
  · replace h := ifn h c1
    refine PW.iload_n 0 0 dX12_isValue_6 rfl rfl ?_
    refine PW.bipush (v := 114) dX12_isValue_7 (by decide) ?_
    refine PW.icmp_eq (tgt := 60) dX12_isValue_9 (by decide) (fun c2 => ?_) (fun c2 => ?_)
    · replace h := ifp h c2
      refine PW.iconst (v := 1) dX12_isValue_60 (by decide) ?_
      refine PW.goto (tgt := 65) dX12_isValue_61 (by decide) ?_
      cases h
      subst hx
      exact PW.iret (v := (1 : Int32)) dX12_isValue_65 rfl (narZ (Or.inr rfl)) (Nat.le_refl 0) (Nat.le_refl 0)
    · replace h := ifn h c2
      refine PW.iload_n 0 0 dX12_isValue_12 rfl rfl ?_
      refine PW.bipush (v := 116) dX12_isValue_13 (by decide) ?_
      refine PW.icmp_eq (tgt := 60) dX12_isValue_15 (by decide) (fun c3 => ?_) (fun c3 => ?_)
      · replace h := ifp h c3
        refine PW.iconst (v := 1) dX12_isValue_60 (by decide) ?_
        refine PW.goto (tgt := 65) dX12_isValue_61 (by decide) ?_
        cases h
        subst hx
        exact PW.iret (v := (1 : Int32)) dX12_isValue_65 rfl (narZ (Or.inr rfl)) (Nat.le_refl 0) (Nat.le_refl 0)
      · replace h := ifn h c3
        refine PW.iload_n 0 0 dX12_isValue_18 rfl rfl ?_
        refine PW.bipush (v := 107) dX12_isValue_19 (by decide) ?_
        refine PW.icmp_eq (tgt := 60) dX12_isValue_21 (by decide) (fun c4 => ?_) (fun c4 => ?_)
        · replace h := ifp h c4
          refine PW.iconst (v := 1) dX12_isValue_60 (by decide) ?_
          refine PW.goto (tgt := 65) dX12_isValue_61 (by decide) ?_
          cases h
          subst hx
          exact PW.iret (v := (1 : Int32)) dX12_isValue_65 rfl (narZ (Or.inr rfl)) (Nat.le_refl 0) (Nat.le_refl 0)
        · replace h := ifn h c4
          refine PW.iload_n 0 0 dX12_isValue_24 rfl rfl ?_
          refine PW.bipush (v := 99) dX12_isValue_25 (by decide) ?_
          refine PW.icmp_eq (tgt := 60) dX12_isValue_27 (by decide) (fun c5 => ?_) (fun c5 => ?_)
          · replace h := ifp h c5
            refine PW.iconst (v := 1) dX12_isValue_60 (by decide) ?_
            refine PW.goto (tgt := 65) dX12_isValue_61 (by decide) ?_
            cases h
            subst hx
            exact PW.iret (v := (1 : Int32)) dX12_isValue_65 rfl (narZ (Or.inr rfl)) (Nat.le_refl 0) (Nat.le_refl 0)
          · replace h := ifn h c5
            refine PW.iload_n 0 0 dX12_isValue_30 rfl rfl ?_
            refine PW.bipush (v := 110) dX12_isValue_31 (by decide) ?_
            refine PW.icmp_eq (tgt := 60) dX12_isValue_33 (by decide) (fun c6 => ?_) (fun c6 => ?_)
            · replace h := ifp h c6
              refine PW.iconst (v := 1) dX12_isValue_60 (by decide) ?_
              refine PW.goto (tgt := 65) dX12_isValue_61 (by decide) ?_
              cases h
              subst hx
              exact PW.iret (v := (1 : Int32)) dX12_isValue_65 rfl (narZ (Or.inr rfl)) (Nat.le_refl 0) (Nat.le_refl 0)
            · replace h := ifn h c6
              refine PW.iload_n 0 0 dX12_isValue_36 rfl rfl ?_
              refine PW.bipush (v := 113) dX12_isValue_37 (by decide) ?_
              refine PW.icmp_eq (tgt := 60) dX12_isValue_39 (by decide) (fun c7 => ?_) (fun c7 => ?_)
              · replace h := ifp h c7
                refine PW.iconst (v := 1) dX12_isValue_60 (by decide) ?_
                refine PW.goto (tgt := 65) dX12_isValue_61 (by decide) ?_
                cases h
                subst hx
                exact PW.iret (v := (1 : Int32)) dX12_isValue_65 rfl (narZ (Or.inr rfl)) (Nat.le_refl 0) (Nat.le_refl 0)
              · replace h := ifn h c7
                refine PW.iload_n 0 0 dX12_isValue_42 rfl rfl ?_
                refine PW.bipush (v := 104) dX12_isValue_43 (by decide) ?_
                refine PW.icmp_eq (tgt := 60) dX12_isValue_45 (by decide) (fun c8 => ?_) (fun c8 => ?_)
                · replace h := ifp h c8
                  refine PW.iconst (v := 1) dX12_isValue_60 (by decide) ?_
                  refine PW.goto (tgt := 65) dX12_isValue_61 (by decide) ?_
                  cases h
                  subst hx
                  exact PW.iret (v := (1 : Int32)) dX12_isValue_65 rfl (narZ (Or.inr rfl)) (Nat.le_refl 0) (Nat.le_refl 0)
                · replace h := ifn h c8
                  refine PW.iload_n 0 0 dX12_isValue_48 rfl rfl ?_
                  refine PW.bipush (v := 108) dX12_isValue_49 (by decide) ?_
                  refine PW.icmp_eq (tgt := 60) dX12_isValue_51 (by decide) (fun c9 => ?_) (fun c9 => ?_)
                  · replace h := ifp h c9
                    refine PW.iconst (v := 1) dX12_isValue_60 (by decide) ?_
                    refine PW.goto (tgt := 65) dX12_isValue_61 (by decide) ?_
                    cases h
                    subst hx
                    exact PW.iret (v := (1 : Int32)) dX12_isValue_65 rfl (narZ (Or.inr rfl)) (Nat.le_refl 0) (Nat.le_refl 0)
                  · replace h := ifn h c9
                    refine PW.iload_n 0 0 dX12_isValue_54 rfl rfl ?_
                    refine PW.bipush (v := 119) dX12_isValue_55 (by decide) ?_
                    refine PW.icmp_ne (tgt := 64) dX12_isValue_57 (by decide) (fun c10 => ?_) (fun c10 => ?_)
                    · replace h := ifn h c10
                      refine PW.iconst (v := 0) dX12_isValue_64 (by decide) ?_
                      cases h
                      subst hx
                      exact PW.iret (v := (0 : Int32)) dX12_isValue_65 rfl (narZ (Or.inl rfl)) (Nat.le_refl 0) (Nat.le_refl 0)
                    · replace h := ifp h c10
                      refine PW.iconst (v := 1) dX12_isValue_60 (by decide) ?_
                      refine PW.goto (tgt := 65) dX12_isValue_61 (by decide) ?_
                      cases h
                      subst hx
                      exact PW.iret (v := (1 : Int32)) dX12_isValue_65 rfl (narZ (Or.inr rfl)) (Nat.le_refl 0) (Nat.le_refl 0)
theorem f_X12_isValue_bool {a0 : Int32} {s : cS} : f_X12_isValue a0 s = 0 ∨ f_X12_isValue a0 s = 1 := by
  unfold f_X12_isValue
  repeat' split
  all_goals first | exact Or.inl rfl | exact Or.inr rfl
/-! X12_sums -/
def j_X12_sums_24b (x1 : Int32) (s : cS) : Option ((Unit × cS) ⊕ (Unit × cS)) :=
  ob (f_X12_top s) fun r18 s19 =>
  ob (f_X12_emit r18 (0 : Int32) s19) fun r21 s22 =>
  sb (iS s22 193 34 ((iG s22 193 34) - (1 : Int32))) fun s24 =>
  some (.inl ((), s24))
set_option maxRecDepth 20000 in
set_option maxHeartbeats 4000000 in
theorem ok_j_X12_sums_24b {g : pG} {l : Launch} {F : pF} {x1 : Int32} {s : cS} {x : ((Unit × cS) ⊕ (Unit × cS))} (h : j_X12_sums_24b x1 s = some x) (hx : (KL (fun (v : Unit × cS) => PW g l (pRoom 3 0 0) M_X12_sums F 0 [(0, .ref 193), (1, .int x1)] [] (tS v.2) 0 0) (fun q => F = pE g none (tS q.2) 0 0)) x) : PW g l (pRoom 3 0 0) M_X12_sums F 24 [(0, .ref 193), (1, .int x1)] [] (tS s) 0 0 := by
  unfold j_X12_sums_24b at h
  refine PW.aload_n 0 0 dX12_sums_24 rfl rfl rfl ?_
  refine PW.aload_n 0 0 dX12_sums_25 rfl rfl rfl ?_
  obtain ⟨r18, s19, q20, h⟩ := obnd h
  refine CW.callVi (ci := 12) (st := [.ref 193]) [] dX12_sums_26 (p_X12_top q20) MV_X12_top mL_X12_232 (by decide) rfl LA_193 rfl rfl (Nat.le_of_ble_eq_true rfl) (by first | decide | omega) ?_
  refine PW.iconst (v := 0) dX12_sums_29 (by decide) ?_
  obtain ⟨r21, s22, q23, h⟩ := obnd h
  refine CW.callVv (ci := 12) (st := []) [.int r18, .int (0 : Int32)] dX12_sums_30 (p_X12_emit q23) MV_X12_emit mL_X12_241 (by decide) rfl LA_193 rfl rfl (Nat.le_of_ble_eq_true rfl) (by first | decide | omega) ?_
  refine PW.aload_n 0 0 dX12_sums_33 rfl rfl rfl ?_
  refine PW.dup dX12_sums_34 rfl ?_
  refine CW.geti dX12_sums_35 fL_X12_208 LA_193 (Or.inl rfl) ?_
  refine PW.iconst (v := 1) dX12_sums_38 (by decide) ?_
  refine PW.isub dX12_sums_39 ?_
  refine CW.puti dX12_sums_40 fL_X12_208 rfl LA_193 rfl ?_
  obtain ⟨s24, es24, h⟩ := sbnd h
  refine PW.sbe es24 ?_
  clear es24
  refine PW.goto (tgt := 0) dX12_sums_43 (by decide) ?_
  cases h
  exact PW.pick [0, 1] rfl hx
def b_X12_sums_0 (x1 : Int32) (s : cS) : Option ((Unit × cS) ⊕ (Unit × cS)) :=
  ob (f_X12_top s) fun r13 s14 =>
  if (f_X12_isTimes r13 s14) = 0 then
    if x1 = 0 then
      oR (
        some (((), s14)))
    else
      ob (f_X12_top s14) fun r26 s27 =>
      if (f_X12_isPlus r26 s27) = 0 then
        oR (
          some (((), s27)))
      else
        j_X12_sums_24b x1 s27
  else
    j_X12_sums_24b x1 s14
set_option maxRecDepth 20000 in
set_option maxHeartbeats 4000000 in
theorem ok_b_X12_sums_0 {g : pG} {l : Launch} {F : pF} {x1 : Int32} {s : cS} {x : ((Unit × cS) ⊕ (Unit × cS))} (h : b_X12_sums_0 x1 s = some x) (hx : (KL (fun (v : Unit × cS) => PW g l (pRoom 3 0 0) M_X12_sums F 0 [(0, .ref 193), (1, .int x1)] [] (tS v.2) 0 0) (fun q => F = pE g none (tS q.2) 0 0)) x) : PW g l (pRoom 3 0 0) M_X12_sums F 0 [(0, .ref 193), (1, .int x1)] [] (tS s) 0 0 := by
  unfold b_X12_sums_0 at h
  refine PW.aload_n 0 0 dX12_sums_0 rfl rfl rfl ?_
  obtain ⟨r13, s14, q15, h⟩ := obnd h
  refine CW.callVi (ci := 12) (st := []) [] dX12_sums_1 (p_X12_top q15) MV_X12_top mL_X12_232 (by decide) rfl LA_193 rfl rfl (Nat.le_of_ble_eq_true rfl) (by first | decide | omega) ?_
  refine CW.callSi (st := []) [.int r13] dX12_sums_4 (p_X12_isTimes rfl) MS_X12_isTimes mL_X12_235 rfl rfl (Nat.le_of_ble_eq_true rfl) (by first | decide | omega) ?_
  refine PW.if_ne (tgt := 24) dX12_sums_7 (by decide) (fun c17 => ?_) (fun c17 => ?_)
  · replace h := ifn h c17
    exact PW.pick [0, 1] rfl (ok_j_X12_sums_24b h hx)
  · replace h := ifp h c17
    refine PW.iload_n 1 1 dX12_sums_10 rfl rfl ?_
    refine PW.if_eq (tgt := 46) dX12_sums_11 (by decide) (fun c25 => ?_) (fun c25 => ?_)
    · replace h := ifp h c25
      obtain ⟨xo, hy, hxo⟩ := oRb h
      clear h
      subst hxo
      replace hx := KLr hx
      have h := hy
      clear hy
      cases h
      subst hx
      exact PW.vret dX12_sums_46 rfl (Nat.le_refl 0) (Nat.le_refl 0)
    · replace h := ifn h c25
      refine PW.aload_n 0 0 dX12_sums_14 rfl rfl rfl ?_
      obtain ⟨r26, s27, q28, h⟩ := obnd h
      refine CW.callVi (ci := 12) (st := []) [] dX12_sums_15 (p_X12_top q28) MV_X12_top mL_X12_232 (by decide) rfl LA_193 rfl rfl (Nat.le_of_ble_eq_true rfl) (by first | decide | omega) ?_
      refine CW.callSi (st := []) [.int r26] dX12_sums_18 (p_X12_isPlus rfl) MS_X12_isPlus mL_X12_238 rfl rfl (Nat.le_of_ble_eq_true rfl) (by first | decide | omega) ?_
      refine PW.if_eq (tgt := 46) dX12_sums_21 (by decide) (fun c30 => ?_) (fun c30 => ?_)
      · replace h := ifp h c30
        obtain ⟨xo, hy, hxo⟩ := oRb h
        clear h
        subst hxo
        replace hx := KLr hx
        have h := hy
        clear hy
        cases h
        subst hx
        exact PW.vret dX12_sums_46 rfl (Nat.le_refl 0) (Nat.le_refl 0)
      · replace h := ifn h c30
        exact PW.pick [0, 1] rfl (ok_j_X12_sums_24b h hx)
def w_X12_sums_0 (N : Nat) (x1 : Int32) (s : cS) : Option (Unit × cS) := itr (fun (v : Unit × cS) => b_X12_sums_0 x1 v.2) N ((), s)
theorem ok_w_X12_sums_0 {g : pG} {l : Launch} {F : pF} {N : Nat} {x1 : Int32} {s : cS} {x : (Unit × cS)} (h : w_X12_sums_0 N x1 s = some x) (hx : (fun q => F = pE g none (tS q.2) 0 0) x) : PW g l (pRoom 3 0 0) M_X12_sums F 0 [(0, .ref 193), (1, .int x1)] [] (tS s) 0 0 :=
  okIter (P := (fun (v : Unit × cS) => PW g l (pRoom 3 0 0) M_X12_sums F 0 [(0, .ref 193), (1, .int x1)] [] (tS v.2) 0 0)) (K := (fun q => F = pE g none (tS q.2) 0 0)) (fun v y hB hy => ok_b_X12_sums_0 hB hy) N ((), s) x h hx
def j_X12_sums_24 (N : Nat) (x1 : Int32) (s : cS) : Option (Unit × cS) :=
  ob (f_X12_top s) fun r6 s7 =>
  ob (f_X12_emit r6 (0 : Int32) s7) fun r9 s10 =>
  sb (iS s10 193 34 ((iG s10 193 34) - (1 : Int32))) fun s12 =>
  w_X12_sums_0 N x1 s12
set_option maxRecDepth 20000 in
set_option maxHeartbeats 4000000 in
theorem ok_j_X12_sums_24 {g : pG} {l : Launch} {F : pF} {N : Nat} {x1 : Int32} {s : cS} {x : (Unit × cS)} (h : j_X12_sums_24 N x1 s = some x) (hx : (fun q => F = pE g none (tS q.2) 0 0) x) : PW g l (pRoom 3 0 0) M_X12_sums F 24 [(0, .ref 193), (1, .int x1)] [] (tS s) 0 0 := by
  unfold j_X12_sums_24 at h
  refine PW.aload_n 0 0 dX12_sums_24 rfl rfl rfl ?_
  refine PW.aload_n 0 0 dX12_sums_25 rfl rfl rfl ?_
  obtain ⟨r6, s7, q8, h⟩ := obnd h
  refine CW.callVi (ci := 12) (st := [.ref 193]) [] dX12_sums_26 (p_X12_top q8) MV_X12_top mL_X12_232 (by decide) rfl LA_193 rfl rfl (Nat.le_of_ble_eq_true rfl) (by first | decide | omega) ?_
  refine PW.iconst (v := 0) dX12_sums_29 (by decide) ?_
  obtain ⟨r9, s10, q11, h⟩ := obnd h
  refine CW.callVv (ci := 12) (st := []) [.int r6, .int (0 : Int32)] dX12_sums_30 (p_X12_emit q11) MV_X12_emit mL_X12_241 (by decide) rfl LA_193 rfl rfl (Nat.le_of_ble_eq_true rfl) (by first | decide | omega) ?_
  refine PW.aload_n 0 0 dX12_sums_33 rfl rfl rfl ?_
  refine PW.dup dX12_sums_34 rfl ?_
  refine CW.geti dX12_sums_35 fL_X12_208 LA_193 (Or.inl rfl) ?_
  refine PW.iconst (v := 1) dX12_sums_38 (by decide) ?_
  refine PW.isub dX12_sums_39 ?_
  refine CW.puti dX12_sums_40 fL_X12_208 rfl LA_193 rfl ?_
  obtain ⟨s12, es12, h⟩ := sbnd h
  refine PW.sbe es12 ?_
  clear es12
  refine PW.goto (tgt := 0) dX12_sums_43 (by decide) ?_
  exact PW.pick [0, 1] rfl (ok_w_X12_sums_0 h hx)
def f_X12_sums (N : Nat) (a0 : Int32) (s : cS) : Option (Unit × cS) :=
  ob (f_X12_top s) fun r1 s2 =>
  if (f_X12_isTimes r1 s2) = 0 then
    if a0 = 0 then
      some (((), s2))
    else
      ob (f_X12_top s2) fun r32 s33 =>
      if (f_X12_isPlus r32 s33) = 0 then
        some (((), s33))
      else
        j_X12_sums_24 N a0 s33
  else
    j_X12_sums_24 N a0 s2
set_option maxRecDepth 20000 in
set_option maxHeartbeats 4000000 in
theorem p_X12_sums {g : pG} {l : Launch} {N : Nat} {a0 : Int32} {s : cS} {q : Unit × cS} (h : f_X12_sums N a0 s = some q) : PM g l 3 M_X12_sums [.ref 193, .int a0] (tS s) none (tS q.2) 0 0 := by
  refine PM.of (by decide +kernel) (Nat.le_of_ble_eq_true rfl) ?_
  show PW g l (pRoom 3 0 0) M_X12_sums _ 0 [(0, .ref 193), (1, .int a0)] [] (tS s) 0 0
  unfold f_X12_sums at h
  generalize hF : pE g none (tS q.2) 0 0 = F
  have hx := hF.symm
  refine PW.aload_n 0 0 dX12_sums_0 rfl rfl rfl ?_
  obtain ⟨r1, s2, q3, h⟩ := obnd h
  refine CW.callVi (ci := 12) (st := []) [] dX12_sums_1 (p_X12_top q3) MV_X12_top mL_X12_232 (by decide) rfl LA_193 rfl rfl (Nat.le_of_ble_eq_true rfl) (by first | decide | omega) ?_
  refine CW.callSi (st := []) [.int r1] dX12_sums_4 (p_X12_isTimes rfl) MS_X12_isTimes mL_X12_235 rfl rfl (Nat.le_of_ble_eq_true rfl) (by first | decide | omega) ?_
  refine PW.if_ne (tgt := 24) dX12_sums_7 (by decide) (fun c5 => ?_) (fun c5 => ?_)
  · replace h := ifn h c5
    exact PW.pick [0, 1] rfl (ok_j_X12_sums_24 h hx)
  · replace h := ifp h c5
    refine PW.iload_n 1 1 dX12_sums_10 rfl rfl ?_
    refine PW.if_eq (tgt := 46) dX12_sums_11 (by decide) (fun c31 => ?_) (fun c31 => ?_)
    · replace h := ifp h c31
      cases h
      subst hx
      exact PW.vret dX12_sums_46 rfl (Nat.le_refl 0) (Nat.le_refl 0)
    · replace h := ifn h c31
      refine PW.aload_n 0 0 dX12_sums_14 rfl rfl rfl ?_
      obtain ⟨r32, s33, q34, h⟩ := obnd h
      refine CW.callVi (ci := 12) (st := []) [] dX12_sums_15 (p_X12_top q34) MV_X12_top mL_X12_232 (by decide) rfl LA_193 rfl rfl (Nat.le_of_ble_eq_true rfl) (by first | decide | omega) ?_
      refine CW.callSi (st := []) [.int r32] dX12_sums_18 (p_X12_isPlus rfl) MS_X12_isPlus mL_X12_238 rfl rfl (Nat.le_of_ble_eq_true rfl) (by first | decide | omega) ?_
      refine PW.if_eq (tgt := 46) dX12_sums_21 (by decide) (fun c36 => ?_) (fun c36 => ?_)
      · replace h := ifp h c36
        cases h
        subst hx
        exact PW.vret dX12_sums_46 rfl (Nat.le_refl 0) (Nat.le_refl 0)
      · replace h := ifn h c36
        exact PW.pick [0, 1] rfl (ok_j_X12_sums_24 h hx)
/-! X12_joins -/
def j_X12_joins_22b (x1 : Int32) (s : cS) : Option ((Unit × cS) ⊕ (Unit × cS)) :=
  ob (f_X12_top s) fun r16 s17 =>
  ob (f_X12_emit r16 (0 : Int32) s17) fun r19 s20 =>
  sb (iS s20 193 34 ((iG s20 193 34) - (1 : Int32))) fun s22 =>
  some (.inl ((), s22))
set_option maxRecDepth 20000 in
set_option maxHeartbeats 4000000 in
theorem ok_j_X12_joins_22b {g : pG} {l : Launch} {F : pF} {x1 : Int32} {s : cS} {x : ((Unit × cS) ⊕ (Unit × cS))} (h : j_X12_joins_22b x1 s = some x) (hx : (KL (fun (v : Unit × cS) => PW g l (pRoom 3 0 0) M_X12_joins F 0 [(0, .ref 193), (1, .int x1)] [] (tS v.2) 0 0) (fun q => F = pE g none (tS q.2) 0 0)) x) : PW g l (pRoom 3 0 0) M_X12_joins F 22 [(0, .ref 193), (1, .int x1)] [] (tS s) 0 0 := by
  unfold j_X12_joins_22b at h
  refine PW.aload_n 0 0 dX12_joins_22 rfl rfl rfl ?_
  refine PW.aload_n 0 0 dX12_joins_23 rfl rfl rfl ?_
  obtain ⟨r16, s17, q18, h⟩ := obnd h
  refine CW.callVi (ci := 12) (st := [.ref 193]) [] dX12_joins_24 (p_X12_top q18) MV_X12_top mL_X12_232 (by decide) rfl LA_193 rfl rfl (Nat.le_of_ble_eq_true rfl) (by first | decide | omega) ?_
  refine PW.iconst (v := 0) dX12_joins_27 (by decide) ?_
  obtain ⟨r19, s20, q21, h⟩ := obnd h
  refine CW.callVv (ci := 12) (st := []) [.int r16, .int (0 : Int32)] dX12_joins_28 (p_X12_emit q21) MV_X12_emit mL_X12_241 (by decide) rfl LA_193 rfl rfl (Nat.le_of_ble_eq_true rfl) (by first | decide | omega) ?_
  refine PW.aload_n 0 0 dX12_joins_31 rfl rfl rfl ?_
  refine PW.dup dX12_joins_32 rfl ?_
  refine CW.geti dX12_joins_33 fL_X12_208 LA_193 (Or.inl rfl) ?_
  refine PW.iconst (v := 1) dX12_joins_36 (by decide) ?_
  refine PW.isub dX12_joins_37 ?_
  refine CW.puti dX12_joins_38 fL_X12_208 rfl LA_193 rfl ?_
  obtain ⟨s22, es22, h⟩ := sbnd h
  refine PW.sbe es22 ?_
  clear es22
  refine PW.goto (tgt := 0) dX12_joins_41 (by decide) ?_
  cases h
  exact PW.pick [0, 1] rfl hx
def b_X12_joins_0 (x1 : Int32) (s : cS) : Option ((Unit × cS) ⊕ (Unit × cS)) :=
  ob (f_X12_top s) fun r12 s13 =>
  if r12 = (38 : Int32) then
    j_X12_joins_22b x1 s13
  else
    if x1 = 0 then
      oR (
        some (((), s13)))
    else
      ob (f_X12_top s13) fun r24 s25 =>
      if r24 = (124 : Int32) then
        j_X12_joins_22b x1 s25
      else
        oR (
          some (((), s25)))
set_option maxRecDepth 20000 in
set_option maxHeartbeats 4000000 in
theorem ok_b_X12_joins_0 {g : pG} {l : Launch} {F : pF} {x1 : Int32} {s : cS} {x : ((Unit × cS) ⊕ (Unit × cS))} (h : b_X12_joins_0 x1 s = some x) (hx : (KL (fun (v : Unit × cS) => PW g l (pRoom 3 0 0) M_X12_joins F 0 [(0, .ref 193), (1, .int x1)] [] (tS v.2) 0 0) (fun q => F = pE g none (tS q.2) 0 0)) x) : PW g l (pRoom 3 0 0) M_X12_joins F 0 [(0, .ref 193), (1, .int x1)] [] (tS s) 0 0 := by
  unfold b_X12_joins_0 at h
  refine PW.aload_n 0 0 dX12_joins_0 rfl rfl rfl ?_
  obtain ⟨r12, s13, q14, h⟩ := obnd h
  refine CW.callVi (ci := 12) (st := []) [] dX12_joins_1 (p_X12_top q14) MV_X12_top mL_X12_232 (by decide) rfl LA_193 rfl rfl (Nat.le_of_ble_eq_true rfl) (by first | decide | omega) ?_
  refine PW.bipush (v := 38) dX12_joins_4 (by decide) ?_
  refine PW.icmp_eq (tgt := 22) dX12_joins_6 (by decide) (fun c15 => ?_) (fun c15 => ?_)
  · replace h := ifp h c15
    exact PW.pick [0, 1] rfl (ok_j_X12_joins_22b h hx)
  · replace h := ifn h c15
    refine PW.iload_n 1 1 dX12_joins_9 rfl rfl ?_
    refine PW.if_eq (tgt := 44) dX12_joins_10 (by decide) (fun c23 => ?_) (fun c23 => ?_)
    · replace h := ifp h c23
      obtain ⟨xo, hy, hxo⟩ := oRb h
      clear h
      subst hxo
      replace hx := KLr hx
      have h := hy
      clear hy
      cases h
      subst hx
      exact PW.vret dX12_joins_44 rfl (Nat.le_refl 0) (Nat.le_refl 0)
    · replace h := ifn h c23
      refine PW.aload_n 0 0 dX12_joins_13 rfl rfl rfl ?_
      obtain ⟨r24, s25, q26, h⟩ := obnd h
      refine CW.callVi (ci := 12) (st := []) [] dX12_joins_14 (p_X12_top q26) MV_X12_top mL_X12_232 (by decide) rfl LA_193 rfl rfl (Nat.le_of_ble_eq_true rfl) (by first | decide | omega) ?_
      refine PW.bipush (v := 124) dX12_joins_17 (by decide) ?_
      refine PW.icmp_ne (tgt := 44) dX12_joins_19 (by decide) (fun c27 => ?_) (fun c27 => ?_)
      · replace h := ifn h c27
        obtain ⟨xo, hy, hxo⟩ := oRb h
        clear h
        subst hxo
        replace hx := KLr hx
        have h := hy
        clear hy
        cases h
        subst hx
        exact PW.vret dX12_joins_44 rfl (Nat.le_refl 0) (Nat.le_refl 0)
      · replace h := ifp h c27
        exact PW.pick [0, 1] rfl (ok_j_X12_joins_22b h hx)
def w_X12_joins_0 (N : Nat) (x1 : Int32) (s : cS) : Option (Unit × cS) := itr (fun (v : Unit × cS) => b_X12_joins_0 x1 v.2) N ((), s)
theorem ok_w_X12_joins_0 {g : pG} {l : Launch} {F : pF} {N : Nat} {x1 : Int32} {s : cS} {x : (Unit × cS)} (h : w_X12_joins_0 N x1 s = some x) (hx : (fun q => F = pE g none (tS q.2) 0 0) x) : PW g l (pRoom 3 0 0) M_X12_joins F 0 [(0, .ref 193), (1, .int x1)] [] (tS s) 0 0 :=
  okIter (P := (fun (v : Unit × cS) => PW g l (pRoom 3 0 0) M_X12_joins F 0 [(0, .ref 193), (1, .int x1)] [] (tS v.2) 0 0)) (K := (fun q => F = pE g none (tS q.2) 0 0)) (fun v y hB hy => ok_b_X12_joins_0 hB hy) N ((), s) x h hx
def j_X12_joins_22 (N : Nat) (x1 : Int32) (s : cS) : Option (Unit × cS) :=
  ob (f_X12_top s) fun r5 s6 =>
  ob (f_X12_emit r5 (0 : Int32) s6) fun r8 s9 =>
  sb (iS s9 193 34 ((iG s9 193 34) - (1 : Int32))) fun s11 =>
  w_X12_joins_0 N x1 s11
set_option maxRecDepth 20000 in
set_option maxHeartbeats 4000000 in
theorem ok_j_X12_joins_22 {g : pG} {l : Launch} {F : pF} {N : Nat} {x1 : Int32} {s : cS} {x : (Unit × cS)} (h : j_X12_joins_22 N x1 s = some x) (hx : (fun q => F = pE g none (tS q.2) 0 0) x) : PW g l (pRoom 3 0 0) M_X12_joins F 22 [(0, .ref 193), (1, .int x1)] [] (tS s) 0 0 := by
  unfold j_X12_joins_22 at h
  refine PW.aload_n 0 0 dX12_joins_22 rfl rfl rfl ?_
  refine PW.aload_n 0 0 dX12_joins_23 rfl rfl rfl ?_
  obtain ⟨r5, s6, q7, h⟩ := obnd h
  refine CW.callVi (ci := 12) (st := [.ref 193]) [] dX12_joins_24 (p_X12_top q7) MV_X12_top mL_X12_232 (by decide) rfl LA_193 rfl rfl (Nat.le_of_ble_eq_true rfl) (by first | decide | omega) ?_
  refine PW.iconst (v := 0) dX12_joins_27 (by decide) ?_
  obtain ⟨r8, s9, q10, h⟩ := obnd h
  refine CW.callVv (ci := 12) (st := []) [.int r5, .int (0 : Int32)] dX12_joins_28 (p_X12_emit q10) MV_X12_emit mL_X12_241 (by decide) rfl LA_193 rfl rfl (Nat.le_of_ble_eq_true rfl) (by first | decide | omega) ?_
  refine PW.aload_n 0 0 dX12_joins_31 rfl rfl rfl ?_
  refine PW.dup dX12_joins_32 rfl ?_
  refine CW.geti dX12_joins_33 fL_X12_208 LA_193 (Or.inl rfl) ?_
  refine PW.iconst (v := 1) dX12_joins_36 (by decide) ?_
  refine PW.isub dX12_joins_37 ?_
  refine CW.puti dX12_joins_38 fL_X12_208 rfl LA_193 rfl ?_
  obtain ⟨s11, es11, h⟩ := sbnd h
  refine PW.sbe es11 ?_
  clear es11
  refine PW.goto (tgt := 0) dX12_joins_41 (by decide) ?_
  exact PW.pick [0, 1] rfl (ok_w_X12_joins_0 h hx)
def f_X12_joins (N : Nat) (a0 : Int32) (s : cS) : Option (Unit × cS) :=
  ob (f_X12_top s) fun r1 s2 =>
  if r1 = (38 : Int32) then
    j_X12_joins_22 N a0 s2
  else
    if a0 = 0 then
      some (((), s2))
    else
      ob (f_X12_top s2) fun r29 s30 =>
      if r29 = (124 : Int32) then
        j_X12_joins_22 N a0 s30
      else
        some (((), s30))
set_option maxRecDepth 20000 in
set_option maxHeartbeats 4000000 in
theorem p_X12_joins {g : pG} {l : Launch} {N : Nat} {a0 : Int32} {s : cS} {q : Unit × cS} (h : f_X12_joins N a0 s = some q) : PM g l 3 M_X12_joins [.ref 193, .int a0] (tS s) none (tS q.2) 0 0 := by
  refine PM.of (by decide +kernel) (Nat.le_of_ble_eq_true rfl) ?_
  show PW g l (pRoom 3 0 0) M_X12_joins _ 0 [(0, .ref 193), (1, .int a0)] [] (tS s) 0 0
  unfold f_X12_joins at h
  generalize hF : pE g none (tS q.2) 0 0 = F
  have hx := hF.symm
  refine PW.aload_n 0 0 dX12_joins_0 rfl rfl rfl ?_
  obtain ⟨r1, s2, q3, h⟩ := obnd h
  refine CW.callVi (ci := 12) (st := []) [] dX12_joins_1 (p_X12_top q3) MV_X12_top mL_X12_232 (by decide) rfl LA_193 rfl rfl (Nat.le_of_ble_eq_true rfl) (by first | decide | omega) ?_
  refine PW.bipush (v := 38) dX12_joins_4 (by decide) ?_
  refine PW.icmp_eq (tgt := 22) dX12_joins_6 (by decide) (fun c4 => ?_) (fun c4 => ?_)
  · replace h := ifp h c4
    exact PW.pick [0, 1] rfl (ok_j_X12_joins_22 h hx)
  · replace h := ifn h c4
    refine PW.iload_n 1 1 dX12_joins_9 rfl rfl ?_
    refine PW.if_eq (tgt := 44) dX12_joins_10 (by decide) (fun c28 => ?_) (fun c28 => ?_)
    · replace h := ifp h c28
      cases h
      subst hx
      exact PW.vret dX12_joins_44 rfl (Nat.le_refl 0) (Nat.le_refl 0)
    · replace h := ifn h c28
      refine PW.aload_n 0 0 dX12_joins_13 rfl rfl rfl ?_
      obtain ⟨r29, s30, q31, h⟩ := obnd h
      refine CW.callVi (ci := 12) (st := []) [] dX12_joins_14 (p_X12_top q31) MV_X12_top mL_X12_232 (by decide) rfl LA_193 rfl rfl (Nat.le_of_ble_eq_true rfl) (by first | decide | omega) ?_
      refine PW.bipush (v := 124) dX12_joins_17 (by decide) ?_
      refine PW.icmp_ne (tgt := 44) dX12_joins_19 (by decide) (fun c32 => ?_) (fun c32 => ?_)
      · replace h := ifn h c32
        cases h
        subst hx
        exact PW.vret dX12_joins_44 rfl (Nat.le_refl 0) (Nat.le_refl 0)
      · replace h := ifp h c32
        exact PW.pick [0, 1] rfl (ok_j_X12_joins_22 h hx)
/-! X12_ends -/
def b_X12_ends_0 (s : cS) : Option ((Unit × cS) ⊕ (Unit × cS)) :=
  ob (f_X12_top s) fun r10 s11 =>
  if r10 = (33 : Int32) then
    ob (f_X12_emit (2 : Int32) (0 : Int32) s11) fun r14 s15 =>
    sb (iS s15 193 34 ((iG s15 193 34) - (1 : Int32))) fun s17 =>
    sb (iS s17 193 33 ((iG s17 193 33) - (1 : Int32))) fun s18 =>
    some (.inl ((), s18))
  else
    oR (
      some (((), s11)))
set_option maxRecDepth 20000 in
set_option maxHeartbeats 4000000 in
theorem ok_b_X12_ends_0 {g : pG} {l : Launch} {F : pF} {s : cS} {x : ((Unit × cS) ⊕ (Unit × cS))} (h : b_X12_ends_0 s = some x) (hx : (KL (fun (v : Unit × cS) => PW g l (pRoom 3 0 0) M_X12_ends F 0 [(0, .ref 193)] [] (tS v.2) 0 0) (fun q => F = pE g none (tS q.2) 0 0)) x) : PW g l (pRoom 3 0 0) M_X12_ends F 0 [(0, .ref 193)] [] (tS s) 0 0 := by
  unfold b_X12_ends_0 at h
  refine PW.aload_n 0 0 dX12_ends_0 rfl rfl rfl ?_
  obtain ⟨r10, s11, q12, h⟩ := obnd h
  refine CW.callVi (ci := 12) (st := []) [] dX12_ends_1 (p_X12_top q12) MV_X12_top mL_X12_232 (by decide) rfl LA_193 rfl rfl (Nat.le_of_ble_eq_true rfl) (by first | decide | omega) ?_
  refine PW.bipush (v := 33) dX12_ends_4 (by decide) ?_
  refine PW.icmp_ne (tgt := 38) dX12_ends_6 (by decide) (fun c13 => ?_) (fun c13 => ?_)
  · replace h := ifn h c13
    obtain ⟨xo, hy, hxo⟩ := oRb h
    clear h
    subst hxo
    replace hx := KLr hx
    have h := hy
    clear hy
    cases h
    subst hx
    exact PW.vret dX12_ends_38 rfl (Nat.le_refl 0) (Nat.le_refl 0)
  · replace h := ifp h c13
    refine PW.aload_n 0 0 dX12_ends_9 rfl rfl rfl ?_
    refine PW.iconst (v := 2) dX12_ends_10 (by decide) ?_
    refine PW.iconst (v := 0) dX12_ends_11 (by decide) ?_
    obtain ⟨r14, s15, q16, h⟩ := obnd h
    refine CW.callVv (ci := 12) (st := []) [.int (2 : Int32), .int (0 : Int32)] dX12_ends_12 (p_X12_emit q16) MV_X12_emit mL_X12_241 (by decide) rfl LA_193 rfl rfl (Nat.le_of_ble_eq_true rfl) (by first | decide | omega) ?_
    refine PW.aload_n 0 0 dX12_ends_15 rfl rfl rfl ?_
    refine PW.dup dX12_ends_16 rfl ?_
    refine CW.geti dX12_ends_17 fL_X12_208 LA_193 (Or.inl rfl) ?_
    refine PW.iconst (v := 1) dX12_ends_20 (by decide) ?_
    refine PW.isub dX12_ends_21 ?_
    refine CW.puti dX12_ends_22 fL_X12_208 rfl LA_193 rfl ?_
    obtain ⟨s17, es17, h⟩ := sbnd h
    refine PW.sbe es17 ?_
    clear es17
    refine PW.aload_n 0 0 dX12_ends_25 rfl rfl rfl ?_
    refine PW.dup dX12_ends_26 rfl ?_
    refine CW.geti dX12_ends_27 fL_X12_211 LA_193 (Or.inl rfl) ?_
    refine PW.iconst (v := 1) dX12_ends_30 (by decide) ?_
    refine PW.isub dX12_ends_31 ?_
    refine CW.puti dX12_ends_32 fL_X12_211 rfl LA_193 rfl ?_
    obtain ⟨s18, es18, h⟩ := sbnd h
    refine PW.sbe es18 ?_
    clear es18
    refine PW.goto (tgt := 0) dX12_ends_35 (by decide) ?_
    cases h
    exact PW.pick [0] rfl hx
def w_X12_ends_0 (N : Nat) (s : cS) : Option (Unit × cS) := itr (fun (v : Unit × cS) => b_X12_ends_0 v.2) N ((), s)
theorem ok_w_X12_ends_0 {g : pG} {l : Launch} {F : pF} {N : Nat} {s : cS} {x : (Unit × cS)} (h : w_X12_ends_0 N s = some x) (hx : (fun q => F = pE g none (tS q.2) 0 0) x) : PW g l (pRoom 3 0 0) M_X12_ends F 0 [(0, .ref 193)] [] (tS s) 0 0 :=
  okIter (P := (fun (v : Unit × cS) => PW g l (pRoom 3 0 0) M_X12_ends F 0 [(0, .ref 193)] [] (tS v.2) 0 0)) (K := (fun q => F = pE g none (tS q.2) 0 0)) (fun v y hB hy => ok_b_X12_ends_0 hB hy) N ((), s) x h hx
def f_X12_ends (N : Nat) (s : cS) : Option (Unit × cS) :=
  ob (f_X12_top s) fun r1 s2 =>
  if r1 = (33 : Int32) then
    ob (f_X12_emit (2 : Int32) (0 : Int32) s2) fun r5 s6 =>
    sb (iS s6 193 34 ((iG s6 193 34) - (1 : Int32))) fun s8 =>
    sb (iS s8 193 33 ((iG s8 193 33) - (1 : Int32))) fun s9 =>
    w_X12_ends_0 N s9
  else
    some (((), s2))
set_option maxRecDepth 20000 in
set_option maxHeartbeats 4000000 in
theorem p_X12_ends {g : pG} {l : Launch} {N : Nat} {s : cS} {q : Unit × cS} (h : f_X12_ends N s = some q) : PM g l 3 M_X12_ends [.ref 193] (tS s) none (tS q.2) 0 0 := by
  refine PM.of (by decide +kernel) (Nat.le_of_ble_eq_true rfl) ?_
  show PW g l (pRoom 3 0 0) M_X12_ends _ 0 [(0, .ref 193)] [] (tS s) 0 0
  unfold f_X12_ends at h
  generalize hF : pE g none (tS q.2) 0 0 = F
  have hx := hF.symm
  refine PW.aload_n 0 0 dX12_ends_0 rfl rfl rfl ?_
  obtain ⟨r1, s2, q3, h⟩ := obnd h
  refine CW.callVi (ci := 12) (st := []) [] dX12_ends_1 (p_X12_top q3) MV_X12_top mL_X12_232 (by decide) rfl LA_193 rfl rfl (Nat.le_of_ble_eq_true rfl) (by first | decide | omega) ?_
  refine PW.bipush (v := 33) dX12_ends_4 (by decide) ?_
  refine PW.icmp_ne (tgt := 38) dX12_ends_6 (by decide) (fun c4 => ?_) (fun c4 => ?_)
  · replace h := ifn h c4
    cases h
    subst hx
    exact PW.vret dX12_ends_38 rfl (Nat.le_refl 0) (Nat.le_refl 0)
  · replace h := ifp h c4
    refine PW.aload_n 0 0 dX12_ends_9 rfl rfl rfl ?_
    refine PW.iconst (v := 2) dX12_ends_10 (by decide) ?_
    refine PW.iconst (v := 0) dX12_ends_11 (by decide) ?_
    obtain ⟨r5, s6, q7, h⟩ := obnd h
    refine CW.callVv (ci := 12) (st := []) [.int (2 : Int32), .int (0 : Int32)] dX12_ends_12 (p_X12_emit q7) MV_X12_emit mL_X12_241 (by decide) rfl LA_193 rfl rfl (Nat.le_of_ble_eq_true rfl) (by first | decide | omega) ?_
    refine PW.aload_n 0 0 dX12_ends_15 rfl rfl rfl ?_
    refine PW.dup dX12_ends_16 rfl ?_
    refine CW.geti dX12_ends_17 fL_X12_208 LA_193 (Or.inl rfl) ?_
    refine PW.iconst (v := 1) dX12_ends_20 (by decide) ?_
    refine PW.isub dX12_ends_21 ?_
    refine CW.puti dX12_ends_22 fL_X12_208 rfl LA_193 rfl ?_
    obtain ⟨s8, es8, h⟩ := sbnd h
    refine PW.sbe es8 ?_
    clear es8
    refine PW.aload_n 0 0 dX12_ends_25 rfl rfl rfl ?_
    refine PW.dup dX12_ends_26 rfl ?_
    refine CW.geti dX12_ends_27 fL_X12_211 LA_193 (Or.inl rfl) ?_
    refine PW.iconst (v := 1) dX12_ends_30 (by decide) ?_
    refine PW.isub dX12_ends_31 ?_
    refine CW.puti dX12_ends_32 fL_X12_211 rfl LA_193 rfl ?_
    obtain ⟨s9, es9, h⟩ := sbnd h
    refine PW.sbe es9 ?_
    clear es9
    refine PW.goto (tgt := 0) dX12_ends_35 (by decide) ?_
    exact PW.pick [0] rfl (ok_w_X12_ends_0 h hx)
/-! X12_factor -/
def j_X12_factor_23 (N : Nat) (s : cS) : Option (Unit × cS) :=
  if (f_X12_isGood s) = 0 then
    some (((), s))
  else
    ob (f_X12_seesDigit s) fun r5 s6 =>
    if r5 = 0 then
      ob (f_X12_here s6) fun r9 s10 =>
      if (f_X12_isValue r9 s10) = 0 then
        tb (f_X12_wrongs (1 : Int32) (iG s10 193 28) s10) fun r14 s15 =>
        some (((), s15))
      else
        ob (f_X12_here s10) fun r17 s18 =>
        ob (f_X12_emit (1 : Int32) r17 s18) fun r20 s21 =>
        sb (iS s21 193 28 ((iG s21 193 28) + (1 : Int32))) fun s23 =>
        some (((), s23))
    else
      ob (f_X12_reads N s6) fun r24 s25 =>
      ob (f_X12_emit (0 : Int32) r24 s25) fun r27 s28 =>
      some (((), s28))
set_option maxRecDepth 20000 in
set_option maxHeartbeats 4000000 in
theorem ok_j_X12_factor_23 {g : pG} {l : Launch} {F : pF} {N : Nat} {s : cS} {x : (Unit × cS)} (h : j_X12_factor_23 N s = some x) (hx : (fun q => F = pE g none (tS q.2) 0 0) x) : PW g l (pRoom 4 0 0) M_X12_factor F 23 [(0, .ref 193)] [] (tS s) 0 0 := by
  unfold j_X12_factor_23 at h
  refine PW.aload_n 0 0 dX12_factor_23 rfl rfl rfl ?_
  refine CW.callVi (ci := 12) (st := []) [] dX12_factor_24 (p_X12_isGood rfl) MV_X12_isGood mL_X12_201 (by decide) rfl LA_193 rfl rfl (Nat.le_of_ble_eq_true rfl) (by first | decide | omega) ?_
  refine PW.if_ne (tgt := 31) dX12_factor_27 (by decide) (fun c4 => ?_) (fun c4 => ?_)
  · replace h := ifn h c4
    refine PW.aload_n 0 0 dX12_factor_31 rfl rfl rfl ?_
    obtain ⟨r5, s6, q7, h⟩ := obnd h
    refine CW.callVi (ci := 12) (st := []) [] dX12_factor_32 (p_X12_seesDigit q7) MV_X12_seesDigit mL_X12_229 (by decide) rfl LA_193 rfl rfl (Nat.le_of_ble_eq_true rfl) (by first | decide | omega) ?_
    refine PW.if_eq (tgt := 50) dX12_factor_35 (by decide) (fun c8 => ?_) (fun c8 => ?_)
    · replace h := ifp h c8
      refine PW.aload_n 0 0 dX12_factor_50 rfl rfl rfl ?_
      obtain ⟨r9, s10, q11, h⟩ := obnd h
      refine CW.callVi (ci := 12) (st := []) [] dX12_factor_51 (p_X12_here q11) MV_X12_here mL_X12_218 (by decide) rfl LA_193 rfl rfl (Nat.le_of_ble_eq_true rfl) (by first | decide | omega) ?_
      refine CW.callSi (st := []) [.int r9] dX12_factor_54 (p_X12_isValue rfl) MS_X12_isValue mL_X12_250 rfl rfl (Nat.le_of_ble_eq_true rfl) (by first | decide | omega) ?_
      refine PW.if_eq (tgt := 82) dX12_factor_57 (by decide) (fun c13 => ?_) (fun c13 => ?_)
      · replace h := ifp h c13
        refine PW.aload_n 0 0 dX12_factor_82 rfl rfl rfl ?_
        refine PW.iconst (v := 1) dX12_factor_83 (by decide) ?_
        refine PW.aload_n 0 0 dX12_factor_84 rfl rfl rfl ?_
        refine CW.geti dX12_factor_85 fL_X12_192 LA_193 (Or.inl rfl) ?_
        obtain ⟨r14, s15, q16, h⟩ := tbnd h
        refine CW.callVv (ci := 12) (st := []) [.int (1 : Int32), .int (iG s10 193 28)] dX12_factor_88 (p_X12_wrongs q16) MV_X12_wrongs mL_X12_214 (by decide) rfl LA_193 rfl rfl (Nat.le_of_ble_eq_true rfl) (by first | decide | omega) ?_
        cases h
        subst hx
        exact PW.vret dX12_factor_91 rfl (Nat.le_refl 0) (Nat.le_refl 0)
      · replace h := ifn h c13
        refine PW.aload_n 0 0 dX12_factor_60 rfl rfl rfl ?_
        refine PW.iconst (v := 1) dX12_factor_61 (by decide) ?_
        refine PW.aload_n 0 0 dX12_factor_62 rfl rfl rfl ?_
        obtain ⟨r17, s18, q19, h⟩ := obnd h
        refine CW.callVi (ci := 12) (st := [.int (1 : Int32), .ref 193]) [] dX12_factor_63 (p_X12_here q19) MV_X12_here mL_X12_218 (by decide) rfl LA_193 rfl rfl (Nat.le_of_ble_eq_true rfl) (by first | decide | omega) ?_
        obtain ⟨r20, s21, q22, h⟩ := obnd h
        refine CW.callVv (ci := 12) (st := []) [.int (1 : Int32), .int r17] dX12_factor_66 (p_X12_emit q22) MV_X12_emit mL_X12_241 (by decide) rfl LA_193 rfl rfl (Nat.le_of_ble_eq_true rfl) (by first | decide | omega) ?_
        refine PW.aload_n 0 0 dX12_factor_69 rfl rfl rfl ?_
        refine PW.dup dX12_factor_70 rfl ?_
        refine CW.geti dX12_factor_71 fL_X12_192 LA_193 (Or.inl rfl) ?_
        refine PW.iconst (v := 1) dX12_factor_74 (by decide) ?_
        refine PW.iadd dX12_factor_75 ?_
        refine CW.puti dX12_factor_76 fL_X12_192 rfl LA_193 rfl ?_
        obtain ⟨s23, es23, h⟩ := sbnd h
        refine PW.sbe es23 ?_
        clear es23
        refine PW.goto (tgt := 91) dX12_factor_79 (by decide) ?_
        cases h
        subst hx
        exact PW.vret dX12_factor_91 rfl (Nat.le_refl 0) (Nat.le_refl 0)
    · replace h := ifn h c8
      refine PW.aload_n 0 0 dX12_factor_38 rfl rfl rfl ?_
      refine PW.iconst (v := 0) dX12_factor_39 (by decide) ?_
      refine PW.aload_n 0 0 dX12_factor_40 rfl rfl rfl ?_
      obtain ⟨r24, s25, q26, h⟩ := obnd h
      refine CW.callVi (ci := 12) (st := [.int (0 : Int32), .ref 193]) [] dX12_factor_41 (p_X12_reads q26) MV_X12_reads mL_X12_247 (by decide) rfl LA_193 rfl rfl (Nat.le_of_ble_eq_true rfl) (by first | decide | omega) ?_
      obtain ⟨r27, s28, q29, h⟩ := obnd h
      refine CW.callVv (ci := 12) (st := []) [.int (0 : Int32), .int r24] dX12_factor_44 (p_X12_emit q29) MV_X12_emit mL_X12_241 (by decide) rfl LA_193 rfl rfl (Nat.le_of_ble_eq_true rfl) (by first | decide | omega) ?_
      refine PW.goto (tgt := 91) dX12_factor_47 (by decide) ?_
      cases h
      subst hx
      exact PW.vret dX12_factor_91 rfl (Nat.le_refl 0) (Nat.le_refl 0)
  · replace h := ifp h c4
    cases h
    subst hx
    exact PW.vret dX12_factor_30 rfl (Nat.le_refl 0) (Nat.le_refl 0)
def b_X12_factor_0 (N : Nat) (s : cS) : Option ((Unit × cS) ⊕ (Unit × cS)) :=
  if (f_X12_isGood s) = 0 then
    oR (
      j_X12_factor_23 N s)
  else
    ob (f_X12_here s) fun r39 s40 =>
    if r39 = (91 : Int32) then
      ob (f_X12_opens s40) fun r43 s44 =>
      some (.inl ((), s44))
    else
      oR (
        j_X12_factor_23 N s40)
set_option maxRecDepth 20000 in
set_option maxHeartbeats 4000000 in
theorem ok_b_X12_factor_0 {g : pG} {l : Launch} {F : pF} {N : Nat} {s : cS} {x : ((Unit × cS) ⊕ (Unit × cS))} (h : b_X12_factor_0 N s = some x) (hx : (KL (fun (v : Unit × cS) => PW g l (pRoom 4 0 0) M_X12_factor F 0 [(0, .ref 193)] [] (tS v.2) 0 0) (fun q => F = pE g none (tS q.2) 0 0)) x) : PW g l (pRoom 4 0 0) M_X12_factor F 0 [(0, .ref 193)] [] (tS s) 0 0 := by
  unfold b_X12_factor_0 at h
  refine PW.aload_n 0 0 dX12_factor_0 rfl rfl rfl ?_
  refine CW.callVi (ci := 12) (st := []) [] dX12_factor_1 (p_X12_isGood rfl) MV_X12_isGood mL_X12_201 (by decide) rfl LA_193 rfl rfl (Nat.le_of_ble_eq_true rfl) (by first | decide | omega) ?_
  refine PW.if_eq (tgt := 23) dX12_factor_4 (by decide) (fun c38 => ?_) (fun c38 => ?_)
  · replace h := ifp h c38
    obtain ⟨xo, hy, hxo⟩ := oRb h
    clear h
    subst hxo
    replace hx := KLr hx
    have h := hy
    clear hy
    exact PW.pick [0] rfl (ok_j_X12_factor_23 h hx)
  · replace h := ifn h c38
    refine PW.aload_n 0 0 dX12_factor_7 rfl rfl rfl ?_
    obtain ⟨r39, s40, q41, h⟩ := obnd h
    refine CW.callVi (ci := 12) (st := []) [] dX12_factor_8 (p_X12_here q41) MV_X12_here mL_X12_218 (by decide) rfl LA_193 rfl rfl (Nat.le_of_ble_eq_true rfl) (by first | decide | omega) ?_
    refine PW.bipush (v := 91) dX12_factor_11 (by decide) ?_
    refine PW.icmp_ne (tgt := 23) dX12_factor_13 (by decide) (fun c42 => ?_) (fun c42 => ?_)
    · replace h := ifn h c42
      obtain ⟨xo, hy, hxo⟩ := oRb h
      clear h
      subst hxo
      replace hx := KLr hx
      have h := hy
      clear hy
      exact PW.pick [0] rfl (ok_j_X12_factor_23 h hx)
    · replace h := ifp h c42
      refine PW.aload_n 0 0 dX12_factor_16 rfl rfl rfl ?_
      obtain ⟨r43, s44, q45, h⟩ := obnd h
      refine CW.callVv (ci := 12) (st := []) [] dX12_factor_17 (p_X12_opens q45) MV_X12_opens mL_X12_244 (by decide) rfl LA_193 rfl rfl (Nat.le_of_ble_eq_true rfl) (by first | decide | omega) ?_
      refine PW.goto (tgt := 0) dX12_factor_20 (by decide) ?_
      cases h
      exact PW.pick [0] rfl hx
def w_X12_factor_0 (N : Nat) (s : cS) : Option (Unit × cS) := itr (fun (v : Unit × cS) => b_X12_factor_0 N v.2) N ((), s)
theorem ok_w_X12_factor_0 {g : pG} {l : Launch} {F : pF} {N : Nat} {s : cS} {x : (Unit × cS)} (h : w_X12_factor_0 N s = some x) (hx : (fun q => F = pE g none (tS q.2) 0 0) x) : PW g l (pRoom 4 0 0) M_X12_factor F 0 [(0, .ref 193)] [] (tS s) 0 0 :=
  okIter (P := (fun (v : Unit × cS) => PW g l (pRoom 4 0 0) M_X12_factor F 0 [(0, .ref 193)] [] (tS v.2) 0 0)) (K := (fun q => F = pE g none (tS q.2) 0 0)) (fun v y hB hy => ok_b_X12_factor_0 hB hy) N ((), s) x h hx
def f_X12_factor (N : Nat) (s : cS) : Option (Unit × cS) :=
  if (f_X12_isGood s) = 0 then
    j_X12_factor_23 N s
  else
    ob (f_X12_here s) fun r30 s31 =>
    if r30 = (91 : Int32) then
      ob (f_X12_opens s31) fun r34 s35 =>
      w_X12_factor_0 N s35
    else
      j_X12_factor_23 N s31
set_option maxRecDepth 20000 in
set_option maxHeartbeats 4000000 in
theorem p_X12_factor {g : pG} {l : Launch} {N : Nat} {s : cS} {q : Unit × cS} (h : f_X12_factor N s = some q) : PM g l 4 M_X12_factor [.ref 193] (tS s) none (tS q.2) 0 0 := by
  refine PM.of (by decide +kernel) (Nat.le_of_ble_eq_true rfl) ?_
  show PW g l (pRoom 4 0 0) M_X12_factor _ 0 [(0, .ref 193)] [] (tS s) 0 0
  unfold f_X12_factor at h
  generalize hF : pE g none (tS q.2) 0 0 = F
  have hx := hF.symm
  refine PW.aload_n 0 0 dX12_factor_0 rfl rfl rfl ?_
  refine CW.callVi (ci := 12) (st := []) [] dX12_factor_1 (p_X12_isGood rfl) MV_X12_isGood mL_X12_201 (by decide) rfl LA_193 rfl rfl (Nat.le_of_ble_eq_true rfl) (by first | decide | omega) ?_
  refine PW.if_eq (tgt := 23) dX12_factor_4 (by decide) (fun c2 => ?_) (fun c2 => ?_)
  · replace h := ifp h c2
    exact PW.pick [0] rfl (ok_j_X12_factor_23 h hx)
  · replace h := ifn h c2
    refine PW.aload_n 0 0 dX12_factor_7 rfl rfl rfl ?_
    obtain ⟨r30, s31, q32, h⟩ := obnd h
    refine CW.callVi (ci := 12) (st := []) [] dX12_factor_8 (p_X12_here q32) MV_X12_here mL_X12_218 (by decide) rfl LA_193 rfl rfl (Nat.le_of_ble_eq_true rfl) (by first | decide | omega) ?_
    refine PW.bipush (v := 91) dX12_factor_11 (by decide) ?_
    refine PW.icmp_ne (tgt := 23) dX12_factor_13 (by decide) (fun c33 => ?_) (fun c33 => ?_)
    · replace h := ifn h c33
      exact PW.pick [0] rfl (ok_j_X12_factor_23 h hx)
    · replace h := ifp h c33
      refine PW.aload_n 0 0 dX12_factor_16 rfl rfl rfl ?_
      obtain ⟨r34, s35, q36, h⟩ := obnd h
      refine CW.callVv (ci := 12) (st := []) [] dX12_factor_17 (p_X12_opens q36) MV_X12_opens mL_X12_244 (by decide) rfl LA_193 rfl rfl (Nat.le_of_ble_eq_true rfl) (by first | decide | omega) ?_
      refine PW.goto (tgt := 0) dX12_factor_20 (by decide) ?_
      exact PW.pick [0] rfl (ok_w_X12_factor_0 h hx)
/-! X12_stays -/
def j_X12_stays_19 (N : Nat) (x1 : Int32) (s : cS) : Option (Int32 × cS) :=
  ob (f_X12_sums N (f_X12_isPlus x1 s) s) fun r7 s8 =>
  ob (f_X12_puts x1 s8) fun r10 s11 =>
  some (((1 : Int32), s11))
set_option maxRecDepth 20000 in
set_option maxHeartbeats 4000000 in
theorem ok_j_X12_stays_19 {g : pG} {l : Launch} {F : pF} {N : Nat} {x1 : Int32} {s : cS} {x : (Int32 × cS)} (h : j_X12_stays_19 N x1 s = some x) (hx : (fun q => F = pE g (some (.int q.1)) (tS q.2) 0 0) x) : PW g l (pRoom 4 0 0) M_X12_stays F 19 [(0, .ref 193), (1, .int x1)] [] (tS s) 0 0 := by
  unfold j_X12_stays_19 at h
  refine PW.aload_n 0 0 dX12_stays_19 rfl rfl rfl ?_
  refine PW.iload_n 1 1 dX12_stays_20 rfl rfl ?_
  refine CW.callSi (st := [.ref 193]) [.int x1] dX12_stays_21 (p_X12_isPlus rfl) MS_X12_isPlus mL_X12_238 rfl rfl (Nat.le_of_ble_eq_true rfl) (by first | decide | omega) ?_
  obtain ⟨r7, s8, q9, h⟩ := obnd h
  refine CW.callVv (ci := 12) (st := []) [.int (f_X12_isPlus x1 s)] dX12_stays_24 (p_X12_sums q9) MV_X12_sums mL_X12_253 (by decide) rfl LA_193 rfl rfl (Nat.le_of_ble_eq_true rfl) (by first | decide | omega) ?_
  refine PW.aload_n 0 0 dX12_stays_27 rfl rfl rfl ?_
  refine PW.iload_n 1 1 dX12_stays_28 rfl rfl ?_
  obtain ⟨r10, s11, q12, h⟩ := obnd h
  refine CW.callVv (ci := 12) (st := []) [.int x1] dX12_stays_29 (p_X12_puts q12) MV_X12_puts mL_X12_222 (by decide) rfl LA_193 rfl rfl (Nat.le_of_ble_eq_true rfl) (by first | decide | omega) ?_
  refine PW.iconst (v := 1) dX12_stays_32 (by decide) ?_
  cases h
  subst hx
  exact PW.iret (v := (1 : Int32)) dX12_stays_33 rfl (narZ (Or.inr rfl)) (Nat.le_refl 0) (Nat.le_refl 0)
def f_X12_stays (N : Nat) (s : cS) : Option (Int32 × cS) :=
  ob (f_X12_here s) fun r1 s2 =>
  if (f_X12_isTimes r1 s2) = 0 then
    if (f_X12_isPlus r1 s2) = 0 then
      ob (f_X12_sums N (1 : Int32) s2) fun r15 s16 =>
      if r1 = (93 : Int32) then
        ob (f_X12_top s16) fun r19 s20 =>
        if r19 = (91 : Int32) then
          sb (iS s20 193 34 ((iG s20 193 34) - (1 : Int32))) fun s23 =>
          sb (iS s23 193 33 ((iG s23 193 33) - (1 : Int32))) fun s24 =>
          sb (iS s24 193 28 ((iG s24 193 28) + (1 : Int32))) fun s25 =>
          sb (iS s25 193 36 (1 : Int32)) fun s26 =>
          some (((1 : Int32), s26))
        else
          tb (f_X12_wrongs (1 : Int32) (iG s20 193 28) s20) fun r27 s28 =>
          some (((0 : Int32), s28))
      else
        some (((0 : Int32), s16))
    else
      j_X12_stays_19 N r1 s2
  else
    j_X12_stays_19 N r1 s2
set_option maxRecDepth 20000 in
set_option maxHeartbeats 4000000 in
theorem p_X12_stays {g : pG} {l : Launch} {N : Nat} {s : cS} {q : Int32 × cS} (h : f_X12_stays N s = some q) : PM g l 4 M_X12_stays [.ref 193] (tS s) (some (.int q.1)) (tS q.2) 0 0 := by
  refine PM.of (by decide +kernel) (Nat.le_of_ble_eq_true rfl) ?_
  show PW g l (pRoom 4 0 0) M_X12_stays _ 0 [(0, .ref 193)] [] (tS s) 0 0
  unfold f_X12_stays at h
  generalize hF : pE g (some (.int q.1)) (tS q.2) 0 0 = F
  have hx := hF.symm
  refine PW.aload_n 0 0 dX12_stays_0 rfl rfl rfl ?_
  obtain ⟨r1, s2, q3, h⟩ := obnd h
  refine CW.callVi (ci := 12) (st := []) [] dX12_stays_1 (p_X12_here q3) MV_X12_here mL_X12_218 (by decide) rfl LA_193 rfl rfl (Nat.le_of_ble_eq_true rfl) (by first | decide | omega) ?_
  refine PW.istore_n dX12_stays_4 rfl (Nat.le_of_ble_eq_true rfl) rfl ?_
  refine PW.iload_n 0 1 dX12_stays_5 rfl rfl ?_
  refine CW.callSi (st := []) [.int r1] dX12_stays_6 (p_X12_isTimes rfl) MS_X12_isTimes mL_X12_235 rfl rfl (Nat.le_of_ble_eq_true rfl) (by first | decide | omega) ?_
  refine PW.if_ne (tgt := 19) dX12_stays_9 (by decide) (fun c5 => ?_) (fun c5 => ?_)
  · replace h := ifn h c5
    exact PW.pick [1, 0] rfl (ok_j_X12_stays_19 h hx)
  · replace h := ifp h c5
    refine PW.iload_n 0 1 dX12_stays_12 rfl rfl ?_
    refine CW.callSi (st := []) [.int r1] dX12_stays_13 (p_X12_isPlus rfl) MS_X12_isPlus mL_X12_238 rfl rfl (Nat.le_of_ble_eq_true rfl) (by first | decide | omega) ?_
    refine PW.if_eq (tgt := 34) dX12_stays_16 (by decide) (fun c14 => ?_) (fun c14 => ?_)
    · replace h := ifp h c14
      refine PW.aload_n 1 0 dX12_stays_34 rfl rfl rfl ?_
      refine PW.iconst (v := 1) dX12_stays_35 (by decide) ?_
      obtain ⟨r15, s16, q17, h⟩ := obnd h
      refine CW.callVv (ci := 12) (st := []) [.int (1 : Int32)] dX12_stays_36 (p_X12_sums q17) MV_X12_sums mL_X12_253 (by decide) rfl LA_193 rfl rfl (Nat.le_of_ble_eq_true rfl) (by first | decide | omega) ?_
      refine PW.iload_n 0 1 dX12_stays_39 rfl rfl ?_
      refine PW.bipush (v := 93) dX12_stays_40 (by decide) ?_
      refine PW.icmp_eq (tgt := 47) dX12_stays_42 (by decide) (fun c18 => ?_) (fun c18 => ?_)
      · replace h := ifp h c18
        refine PW.aload_n 1 0 dX12_stays_47 rfl rfl rfl ?_
        obtain ⟨r19, s20, q21, h⟩ := obnd h
        refine CW.callVi (ci := 12) (st := []) [] dX12_stays_48 (p_X12_top q21) MV_X12_top mL_X12_232 (by decide) rfl LA_193 rfl rfl (Nat.le_of_ble_eq_true rfl) (by first | decide | omega) ?_
        refine PW.bipush (v := 91) dX12_stays_51 (by decide) ?_
        refine PW.icmp_eq (tgt := 67) dX12_stays_53 (by decide) (fun c22 => ?_) (fun c22 => ?_)
        · replace h := ifp h c22
          refine PW.aload_n 1 0 dX12_stays_67 rfl rfl rfl ?_
          refine PW.dup dX12_stays_68 rfl ?_
          refine CW.geti dX12_stays_69 fL_X12_208 LA_193 (Or.inl rfl) ?_
          refine PW.iconst (v := 1) dX12_stays_72 (by decide) ?_
          refine PW.isub dX12_stays_73 ?_
          refine CW.puti dX12_stays_74 fL_X12_208 rfl LA_193 rfl ?_
          obtain ⟨s23, es23, h⟩ := sbnd h
          refine PW.sbe es23 ?_
          clear es23
          refine PW.aload_n 1 0 dX12_stays_77 rfl rfl rfl ?_
          refine PW.dup dX12_stays_78 rfl ?_
          refine CW.geti dX12_stays_79 fL_X12_211 LA_193 (Or.inl rfl) ?_
          refine PW.iconst (v := 1) dX12_stays_82 (by decide) ?_
          refine PW.isub dX12_stays_83 ?_
          refine CW.puti dX12_stays_84 fL_X12_211 rfl LA_193 rfl ?_
          obtain ⟨s24, es24, h⟩ := sbnd h
          refine PW.sbe es24 ?_
          clear es24
          refine PW.aload_n 1 0 dX12_stays_87 rfl rfl rfl ?_
          refine PW.dup dX12_stays_88 rfl ?_
          refine CW.geti dX12_stays_89 fL_X12_192 LA_193 (Or.inl rfl) ?_
          refine PW.iconst (v := 1) dX12_stays_92 (by decide) ?_
          refine PW.iadd dX12_stays_93 ?_
          refine CW.puti dX12_stays_94 fL_X12_192 rfl LA_193 rfl ?_
          obtain ⟨s25, es25, h⟩ := sbnd h
          refine PW.sbe es25 ?_
          clear es25
          refine PW.aload_n 1 0 dX12_stays_97 rfl rfl rfl ?_
          refine PW.iconst (v := 1) dX12_stays_98 (by decide) ?_
          refine CW.putz dX12_stays_99 fL_X12_257 rfl LA_193 rfl (Or.inr rfl) ?_
          obtain ⟨s26, es26, h⟩ := sbnd h
          refine PW.sbe es26 ?_
          clear es26
          refine PW.iconst (v := 1) dX12_stays_102 (by decide) ?_
          cases h
          subst hx
          exact PW.iret (v := (1 : Int32)) dX12_stays_103 rfl (narZ (Or.inr rfl)) (Nat.le_refl 0) (Nat.le_refl 0)
        · replace h := ifn h c22
          refine PW.aload_n 1 0 dX12_stays_56 rfl rfl rfl ?_
          refine PW.iconst (v := 1) dX12_stays_57 (by decide) ?_
          refine PW.aload_n 1 0 dX12_stays_58 rfl rfl rfl ?_
          refine CW.geti dX12_stays_59 fL_X12_192 LA_193 (Or.inl rfl) ?_
          obtain ⟨r27, s28, q29, h⟩ := tbnd h
          refine CW.callVv (ci := 12) (st := []) [.int (1 : Int32), .int (iG s20 193 28)] dX12_stays_62 (p_X12_wrongs q29) MV_X12_wrongs mL_X12_214 (by decide) rfl LA_193 rfl rfl (Nat.le_of_ble_eq_true rfl) (by first | decide | omega) ?_
          refine PW.iconst (v := 0) dX12_stays_65 (by decide) ?_
          cases h
          subst hx
          exact PW.iret (v := (0 : Int32)) dX12_stays_66 rfl (narZ (Or.inl rfl)) (Nat.le_refl 0) (Nat.le_refl 0)
      · replace h := ifn h c18
        refine PW.iconst (v := 0) dX12_stays_45 (by decide) ?_
        cases h
        subst hx
        exact PW.iret (v := (0 : Int32)) dX12_stays_46 rfl (narZ (Or.inl rfl)) (Nat.le_refl 0) (Nat.le_refl 0)
    · replace h := ifn h c14
      exact PW.pick [1, 0] rfl (ok_j_X12_stays_19 h hx)
/-! X12_value -/
def j_X12_value_57 (s : cS) : Option (Unit × cS) :=
  if (f_X12_isGood s) = 0 then
    some (((), s))
  else
    ob (f_X12_top s) fun r5 s6 =>
    if r5 = (91 : Int32) then
      tb (f_X12_wrongs (1 : Int32) (iG s6 193 28) s6) fun r9 s10 =>
      some (((), s10))
    else
      some (((), s6))
set_option maxRecDepth 20000 in
set_option maxHeartbeats 4000000 in
theorem ok_j_X12_value_57 {g : pG} {l : Launch} {F : pF} {s : cS} {x : (Unit × cS)} (h : j_X12_value_57 s = some x) (hx : (fun q => F = pE g none (tS q.2) 0 0) x) : PW g l (pRoom 5 0 0) M_X12_value F 57 [(0, .ref 193)] [] (tS s) 0 0 := by
  unfold j_X12_value_57 at h
  refine PW.aload_n 0 0 dX12_value_57 rfl rfl rfl ?_
  refine CW.callVi (ci := 12) (st := []) [] dX12_value_58 (p_X12_isGood rfl) MV_X12_isGood mL_X12_201 (by decide) rfl LA_193 rfl rfl (Nat.le_of_ble_eq_true rfl) (by first | decide | omega) ?_
  refine PW.if_eq (tgt := 82) dX12_value_61 (by decide) (fun c4 => ?_) (fun c4 => ?_)
  · replace h := ifp h c4
    cases h
    subst hx
    exact PW.vret dX12_value_82 rfl (Nat.le_refl 0) (Nat.le_refl 0)
  · replace h := ifn h c4
    refine PW.aload_n 0 0 dX12_value_64 rfl rfl rfl ?_
    obtain ⟨r5, s6, q7, h⟩ := obnd h
    refine CW.callVi (ci := 12) (st := []) [] dX12_value_65 (p_X12_top q7) MV_X12_top mL_X12_232 (by decide) rfl LA_193 rfl rfl (Nat.le_of_ble_eq_true rfl) (by first | decide | omega) ?_
    refine PW.bipush (v := 91) dX12_value_68 (by decide) ?_
    refine PW.icmp_ne (tgt := 82) dX12_value_70 (by decide) (fun c8 => ?_) (fun c8 => ?_)
    · replace h := ifn h c8
      cases h
      subst hx
      exact PW.vret dX12_value_82 rfl (Nat.le_refl 0) (Nat.le_refl 0)
    · replace h := ifp h c8
      refine PW.aload_n 0 0 dX12_value_73 rfl rfl rfl ?_
      refine PW.iconst (v := 1) dX12_value_74 (by decide) ?_
      refine PW.aload_n 0 0 dX12_value_75 rfl rfl rfl ?_
      refine CW.geti dX12_value_76 fL_X12_192 LA_193 (Or.inl rfl) ?_
      obtain ⟨r9, s10, q11, h⟩ := tbnd h
      refine CW.callVv (ci := 12) (st := []) [.int (1 : Int32), .int (iG s6 193 28)] dX12_value_79 (p_X12_wrongs q11) MV_X12_wrongs mL_X12_214 (by decide) rfl LA_193 rfl rfl (Nat.le_of_ble_eq_true rfl) (by first | decide | omega) ?_
      cases h
      subst hx
      exact PW.vret dX12_value_82 rfl (Nat.le_refl 0) (Nat.le_refl 0)
def j_X12_value_53 (y0 : Int32) (s : cS) : Option ((Int32 × cS) ⊕ (Unit × cS)) :=
  some (.inl (y0, s))
set_option maxRecDepth 20000 in
set_option maxHeartbeats 4000000 in
theorem ok_j_X12_value_53 {g : pG} {l : Launch} {F : pF} {y0 : Int32} {s : cS} {x : ((Int32 × cS) ⊕ (Unit × cS))} (h : j_X12_value_53 y0 s = some x) (hx : (KL (fun (v : Int32 × cS) => PW g l (pRoom 5 0 0) M_X12_value F 7 [(0, .ref 193), (1, .int v.1)] [] (tS v.2) 0 0) (fun q => F = pE g none (tS q.2) 0 0)) x) : PW g l (pRoom 5 0 0) M_X12_value F 53 [(0, .ref 193)] [.int y0] (tS s) 0 0 := by
  unfold j_X12_value_53 at h
  refine PW.istore_n dX12_value_53 rfl (Nat.le_of_ble_eq_true rfl) rfl ?_
  refine PW.goto (tgt := 7) dX12_value_54 (by decide) ?_
  cases h
  exact PW.pick [1, 0] rfl hx
def j_X12_value_52 (s : cS) : Option ((Int32 × cS) ⊕ (Unit × cS)) :=
  j_X12_value_53 (0 : Int32) s
set_option maxRecDepth 20000 in
set_option maxHeartbeats 4000000 in
theorem ok_j_X12_value_52 {g : pG} {l : Launch} {F : pF} {s : cS} {x : ((Int32 × cS) ⊕ (Unit × cS))} (h : j_X12_value_52 s = some x) (hx : (KL (fun (v : Int32 × cS) => PW g l (pRoom 5 0 0) M_X12_value F 7 [(0, .ref 193), (1, .int v.1)] [] (tS v.2) 0 0) (fun q => F = pE g none (tS q.2) 0 0)) x) : PW g l (pRoom 5 0 0) M_X12_value F 52 [(0, .ref 193)] [] (tS s) 0 0 := by
  unfold j_X12_value_52 at h
  refine PW.iconst (v := 0) dX12_value_52 (by decide) ?_
  exact PW.pick [0] rfl (ok_j_X12_value_53 h hx)
def j_X12_value_29 (N : Nat) (s : cS) : Option ((Int32 × cS) ⊕ (Unit × cS)) :=
  sb (iS s 193 36 (0 : Int32)) fun s15 =>
  if (f_X12_isGood s15) = 0 then
    j_X12_value_52 s15
  else
    ob (f_X12_stays N s15) fun r18 s19 =>
    if r18 = 0 then
      j_X12_value_52 s19
    else
      j_X12_value_53 (1 : Int32) s19
set_option maxRecDepth 20000 in
set_option maxHeartbeats 4000000 in
theorem ok_j_X12_value_29 {g : pG} {l : Launch} {F : pF} {N : Nat} {s : cS} {x : ((Int32 × cS) ⊕ (Unit × cS))} (h : j_X12_value_29 N s = some x) (hx : (KL (fun (v : Int32 × cS) => PW g l (pRoom 5 0 0) M_X12_value F 7 [(0, .ref 193), (1, .int v.1)] [] (tS v.2) 0 0) (fun q => F = pE g none (tS q.2) 0 0)) x) : PW g l (pRoom 5 0 0) M_X12_value F 29 [(0, .ref 193)] [] (tS s) 0 0 := by
  unfold j_X12_value_29 at h
  refine PW.aload_n 0 0 dX12_value_29 rfl rfl rfl ?_
  refine PW.iconst (v := 0) dX12_value_30 (by decide) ?_
  refine CW.putz dX12_value_31 fL_X12_257 rfl LA_193 rfl (Or.inl rfl) ?_
  obtain ⟨s15, es15, h⟩ := sbnd h
  refine PW.sbe es15 ?_
  clear es15
  refine PW.aload_n 0 0 dX12_value_34 rfl rfl rfl ?_
  refine CW.callVi (ci := 12) (st := []) [] dX12_value_35 (p_X12_isGood rfl) MV_X12_isGood mL_X12_201 (by decide) rfl LA_193 rfl rfl (Nat.le_of_ble_eq_true rfl) (by first | decide | omega) ?_
  refine PW.if_eq (tgt := 52) dX12_value_38 (by decide) (fun c17 => ?_) (fun c17 => ?_)
  · replace h := ifp h c17
    exact PW.pick [0] rfl (ok_j_X12_value_52 h hx)
  · replace h := ifn h c17
    refine PW.aload_n 0 0 dX12_value_41 rfl rfl rfl ?_
    obtain ⟨r18, s19, q20, h⟩ := obnd h
    refine CW.callVi (ci := 12) (st := []) [] dX12_value_42 (p_X12_stays q20) MV_X12_stays mL_X12_264 (by decide) rfl LA_193 rfl rfl (Nat.le_of_ble_eq_true rfl) (by first | decide | omega) ?_
    refine PW.if_eq (tgt := 52) dX12_value_45 (by decide) (fun c21 => ?_) (fun c21 => ?_)
    · replace h := ifp h c21
      exact PW.pick [0] rfl (ok_j_X12_value_52 h hx)
    · replace h := ifn h c21
      refine PW.iconst (v := 1) dX12_value_48 (by decide) ?_
      refine PW.goto (tgt := 53) dX12_value_49 (by decide) ?_
      exact PW.pick [0] rfl (ok_j_X12_value_53 h hx)
def b_X12_value_7 (N : Nat) (x1 : Int32) (s : cS) : Option ((Int32 × cS) ⊕ (Unit × cS)) :=
  if x1 = 0 then
    oR (
      j_X12_value_57 s)
  else
    if (f_X12_isGood s) = 0 then
      oR (
        j_X12_value_57 s)
    else
      if (iG s 193 36) = 0 then
        ob (f_X12_factor N s) fun r22 s23 =>
        j_X12_value_29 N s23
      else
        j_X12_value_29 N s
set_option maxRecDepth 20000 in
set_option maxHeartbeats 4000000 in
theorem ok_b_X12_value_7 {g : pG} {l : Launch} {F : pF} {N : Nat} {x1 : Int32} {s : cS} {x : ((Int32 × cS) ⊕ (Unit × cS))} (h : b_X12_value_7 N x1 s = some x) (hx : (KL (fun (v : Int32 × cS) => PW g l (pRoom 5 0 0) M_X12_value F 7 [(0, .ref 193), (1, .int v.1)] [] (tS v.2) 0 0) (fun q => F = pE g none (tS q.2) 0 0)) x) : PW g l (pRoom 5 0 0) M_X12_value F 7 [(0, .ref 193), (1, .int x1)] [] (tS s) 0 0 := by
  unfold b_X12_value_7 at h
  refine PW.iload_n 1 1 dX12_value_7 rfl rfl ?_
  refine PW.if_eq (tgt := 57) dX12_value_8 (by decide) (fun c2 => ?_) (fun c2 => ?_)
  · replace h := ifp h c2
    obtain ⟨xo, hy, hxo⟩ := oRb h
    clear h
    subst hxo
    replace hx := KLr hx
    have h := hy
    clear hy
    exact PW.pick [0] rfl (ok_j_X12_value_57 h hx)
  · replace h := ifn h c2
    refine PW.aload_n 0 0 dX12_value_11 rfl rfl rfl ?_
    refine CW.callVi (ci := 12) (st := []) [] dX12_value_12 (p_X12_isGood rfl) MV_X12_isGood mL_X12_201 (by decide) rfl LA_193 rfl rfl (Nat.le_of_ble_eq_true rfl) (by first | decide | omega) ?_
    refine PW.if_eq (tgt := 57) dX12_value_15 (by decide) (fun c13 => ?_) (fun c13 => ?_)
    · replace h := ifp h c13
      obtain ⟨xo, hy, hxo⟩ := oRb h
      clear h
      subst hxo
      replace hx := KLr hx
      have h := hy
      clear hy
      exact PW.pick [0] rfl (ok_j_X12_value_57 h hx)
    · replace h := ifn h c13
      refine PW.aload_n 0 0 dX12_value_18 rfl rfl rfl ?_
      refine CW.geti dX12_value_19 fL_X12_257 LA_193 (Or.inr rfl) ?_
      refine PW.if_ne (tgt := 29) dX12_value_22 (by decide) (fun c14 => ?_) (fun c14 => ?_)
      · replace h := ifn h c14
        exact PW.pick [0] rfl (ok_j_X12_value_29 h hx)
      · replace h := ifp h c14
        refine PW.aload_n 0 0 dX12_value_25 rfl rfl rfl ?_
        obtain ⟨r22, s23, q24, h⟩ := obnd h
        refine CW.callVv (ci := 12) (st := []) [] dX12_value_26 (p_X12_factor q24) MV_X12_factor mL_X12_261 (by decide) rfl LA_193 rfl rfl (Nat.le_of_ble_eq_true rfl) (by first | decide | omega) ?_
        exact PW.pick [0] rfl (ok_j_X12_value_29 h hx)
def w_X12_value_7 (N : Nat) (x1 : Int32) (s : cS) : Option (Unit × cS) := itr (fun (v : Int32 × cS) => b_X12_value_7 N v.1 v.2) N (x1, s)
theorem ok_w_X12_value_7 {g : pG} {l : Launch} {F : pF} {N : Nat} {x1 : Int32} {s : cS} {x : (Unit × cS)} (h : w_X12_value_7 N x1 s = some x) (hx : (fun q => F = pE g none (tS q.2) 0 0) x) : PW g l (pRoom 5 0 0) M_X12_value F 7 [(0, .ref 193), (1, .int x1)] [] (tS s) 0 0 :=
  okIter (P := (fun (v : Int32 × cS) => PW g l (pRoom 5 0 0) M_X12_value F 7 [(0, .ref 193), (1, .int v.1)] [] (tS v.2) 0 0)) (K := (fun q => F = pE g none (tS q.2) 0 0)) (fun v y hB hy => ok_b_X12_value_7 hB hy) N (x1, s) x h hx
def f_X12_value (N : Nat) (s : cS) : Option (Unit × cS) :=
  sb (iS s 193 36 (0 : Int32)) fun s1 =>
  w_X12_value_7 N (1 : Int32) s1
set_option maxRecDepth 20000 in
set_option maxHeartbeats 4000000 in
theorem p_X12_value {g : pG} {l : Launch} {N : Nat} {s : cS} {q : Unit × cS} (h : f_X12_value N s = some q) : PM g l 5 M_X12_value [.ref 193] (tS s) none (tS q.2) 0 0 := by
  refine PM.of (by decide +kernel) (Nat.le_of_ble_eq_true rfl) ?_
  show PW g l (pRoom 5 0 0) M_X12_value _ 0 [(0, .ref 193)] [] (tS s) 0 0
  unfold f_X12_value at h
  generalize hF : pE g none (tS q.2) 0 0 = F
  have hx := hF.symm
  refine PW.iconst (v := 1) dX12_value_0 (by decide) ?_
  refine PW.istore_n dX12_value_1 rfl (Nat.le_of_ble_eq_true rfl) rfl ?_
  refine PW.aload_n 1 0 dX12_value_2 rfl rfl rfl ?_
  refine PW.iconst (v := 0) dX12_value_3 (by decide) ?_
  refine CW.putz dX12_value_4 fL_X12_257 rfl LA_193 rfl (Or.inl rfl) ?_
  obtain ⟨s1, es1, h⟩ := sbnd h
  refine PW.sbe es1 ?_
  clear es1
  exact PW.pick [1, 0] rfl (ok_w_X12_value_7 h hx)
/-! X12_pieceOfC -/
def j_X12_pieceOfC_43 (N : Nat) (s : cS) : Option (Unit × cS) :=
  if (f_X12_isGood s) = 0 then
    some (((), s))
  else
    ob (f_X12_here s) fun r7 s8 =>
    if (f_X12_isSign r7 s8) = 0 then
      tb (f_X12_wrongs (1 : Int32) (iG s8 193 28) s8) fun r30 s31 =>
      some (((), s31))
    else
      ob (f_X12_puts r7 s8) fun r12 s13 =>
      ob (f_X12_value N s13) fun r15 s16 =>
      if (f_X12_isGood s16) = 0 then
        some (((), s16))
      else
        ob (f_X12_top s16) fun r20 s21 =>
        ob (f_X12_emit r20 (0 : Int32) s21) fun r23 s24 =>
        sb (iS s24 193 34 ((iG s24 193 34) - (1 : Int32))) fun s26 =>
        ob (f_X12_ends N s26) fun r27 s28 =>
        some (((), s28))
set_option maxRecDepth 20000 in
set_option maxHeartbeats 4000000 in
theorem ok_j_X12_pieceOfC_43 {g : pG} {l : Launch} {F : pF} {N : Nat} {s : cS} {x : (Unit × cS)} (h : j_X12_pieceOfC_43 N s = some x) (hx : (fun q => F = pE g none (tS q.2) 0 0) x) : PW g l (pRoom 6 0 0) M_X12_pieceOfC F 43 [(0, .ref 193)] [] (tS s) 0 0 := by
  unfold j_X12_pieceOfC_43 at h
  refine PW.aload_n 0 0 dX12_pieceOfC_43 rfl rfl rfl ?_
  refine CW.callVi (ci := 12) (st := []) [] dX12_pieceOfC_44 (p_X12_isGood rfl) MV_X12_isGood mL_X12_201 (by decide) rfl LA_193 rfl rfl (Nat.le_of_ble_eq_true rfl) (by first | decide | omega) ?_
  refine PW.if_ne (tgt := 51) dX12_pieceOfC_47 (by decide) (fun c6 => ?_) (fun c6 => ?_)
  · replace h := ifn h c6
    refine PW.aload_n 0 0 dX12_pieceOfC_51 rfl rfl rfl ?_
    obtain ⟨r7, s8, q9, h⟩ := obnd h
    refine CW.callVi (ci := 12) (st := []) [] dX12_pieceOfC_52 (p_X12_here q9) MV_X12_here mL_X12_218 (by decide) rfl LA_193 rfl rfl (Nat.le_of_ble_eq_true rfl) (by first | decide | omega) ?_
    refine PW.istore_n dX12_pieceOfC_55 rfl (Nat.le_of_ble_eq_true rfl) rfl ?_
    refine PW.iload_n 0 1 dX12_pieceOfC_56 rfl rfl ?_
    refine CW.callSi (st := []) [.int r7] dX12_pieceOfC_57 (p_X12_isSign rfl) MS_X12_isSign mL_X12_270 rfl rfl (Nat.le_of_ble_eq_true rfl) (by first | decide | omega) ?_
    refine PW.if_ne (tgt := 73) dX12_pieceOfC_60 (by decide) (fun c11 => ?_) (fun c11 => ?_)
    · replace h := ifn h c11
      refine PW.aload_n 1 0 dX12_pieceOfC_73 rfl rfl rfl ?_
      refine PW.iload_n 0 1 dX12_pieceOfC_74 rfl rfl ?_
      obtain ⟨r12, s13, q14, h⟩ := obnd h
      refine CW.callVv (ci := 12) (st := []) [.int r7] dX12_pieceOfC_75 (p_X12_puts q14) MV_X12_puts mL_X12_222 (by decide) rfl LA_193 rfl rfl (Nat.le_of_ble_eq_true rfl) (by first | decide | omega) ?_
      refine PW.aload_n 1 0 dX12_pieceOfC_78 rfl rfl rfl ?_
      obtain ⟨r15, s16, q17, h⟩ := obnd h
      refine CW.callVv (ci := 12) (st := []) [] dX12_pieceOfC_79 (p_X12_value q17) MV_X12_value mL_X12_267 (by decide) rfl LA_193 rfl rfl (Nat.le_of_ble_eq_true rfl) (by first | decide | omega) ?_
      refine PW.aload_n 1 0 dX12_pieceOfC_82 rfl rfl rfl ?_
      refine CW.callVi (ci := 12) (st := []) [] dX12_pieceOfC_83 (p_X12_isGood rfl) MV_X12_isGood mL_X12_201 (by decide) rfl LA_193 rfl rfl (Nat.le_of_ble_eq_true rfl) (by first | decide | omega) ?_
      refine PW.if_ne (tgt := 90) dX12_pieceOfC_86 (by decide) (fun c19 => ?_) (fun c19 => ?_)
      · replace h := ifn h c19
        refine PW.aload_n 1 0 dX12_pieceOfC_90 rfl rfl rfl ?_
        refine PW.aload_n 1 0 dX12_pieceOfC_91 rfl rfl rfl ?_
        obtain ⟨r20, s21, q22, h⟩ := obnd h
        refine CW.callVi (ci := 12) (st := [.ref 193]) [] dX12_pieceOfC_92 (p_X12_top q22) MV_X12_top mL_X12_232 (by decide) rfl LA_193 rfl rfl (Nat.le_of_ble_eq_true rfl) (by first | decide | omega) ?_
        refine PW.iconst (v := 0) dX12_pieceOfC_95 (by decide) ?_
        obtain ⟨r23, s24, q25, h⟩ := obnd h
        refine CW.callVv (ci := 12) (st := []) [.int r20, .int (0 : Int32)] dX12_pieceOfC_96 (p_X12_emit q25) MV_X12_emit mL_X12_241 (by decide) rfl LA_193 rfl rfl (Nat.le_of_ble_eq_true rfl) (by first | decide | omega) ?_
        refine PW.aload_n 1 0 dX12_pieceOfC_99 rfl rfl rfl ?_
        refine PW.dup dX12_pieceOfC_100 rfl ?_
        refine CW.geti dX12_pieceOfC_101 fL_X12_208 LA_193 (Or.inl rfl) ?_
        refine PW.iconst (v := 1) dX12_pieceOfC_104 (by decide) ?_
        refine PW.isub dX12_pieceOfC_105 ?_
        refine CW.puti dX12_pieceOfC_106 fL_X12_208 rfl LA_193 rfl ?_
        obtain ⟨s26, es26, h⟩ := sbnd h
        refine PW.sbe es26 ?_
        clear es26
        refine PW.aload_n 1 0 dX12_pieceOfC_109 rfl rfl rfl ?_
        obtain ⟨r27, s28, q29, h⟩ := obnd h
        refine CW.callVv (ci := 12) (st := []) [] dX12_pieceOfC_110 (p_X12_ends q29) MV_X12_ends mL_X12_273 (by decide) rfl LA_193 rfl rfl (Nat.le_of_ble_eq_true rfl) (by first | decide | omega) ?_
        cases h
        subst hx
        exact PW.vret dX12_pieceOfC_113 rfl (Nat.le_refl 0) (Nat.le_refl 0)
      · replace h := ifp h c19
        cases h
        subst hx
        exact PW.vret dX12_pieceOfC_89 rfl (Nat.le_refl 0) (Nat.le_refl 0)
    · replace h := ifp h c11
      refine PW.aload_n 1 0 dX12_pieceOfC_63 rfl rfl rfl ?_
      refine PW.iconst (v := 1) dX12_pieceOfC_64 (by decide) ?_
      refine PW.aload_n 1 0 dX12_pieceOfC_65 rfl rfl rfl ?_
      refine CW.geti dX12_pieceOfC_66 fL_X12_192 LA_193 (Or.inl rfl) ?_
      obtain ⟨r30, s31, q32, h⟩ := tbnd h
      refine CW.callVv (ci := 12) (st := []) [.int (1 : Int32), .int (iG s8 193 28)] dX12_pieceOfC_69 (p_X12_wrongs q32) MV_X12_wrongs mL_X12_214 (by decide) rfl LA_193 rfl rfl (Nat.le_of_ble_eq_true rfl) (by first | decide | omega) ?_
      cases h
      subst hx
      exact PW.vret dX12_pieceOfC_72 rfl (Nat.le_refl 0) (Nat.le_refl 0)
  · replace h := ifp h c6
    cases h
    subst hx
    exact PW.vret dX12_pieceOfC_50 rfl (Nat.le_refl 0) (Nat.le_refl 0)
def j_X12_pieceOfC_32 (N : Nat) (s : cS) : Option (Unit × cS) :=
  if (f_X12_isGood s) = 0 then
    j_X12_pieceOfC_43 N s
  else
    ob (f_X12_value N s) fun r33 s34 =>
    j_X12_pieceOfC_43 N s34
set_option maxRecDepth 20000 in
set_option maxHeartbeats 4000000 in
theorem ok_j_X12_pieceOfC_32 {g : pG} {l : Launch} {F : pF} {N : Nat} {s : cS} {x : (Unit × cS)} (h : j_X12_pieceOfC_32 N s = some x) (hx : (fun q => F = pE g none (tS q.2) 0 0) x) : PW g l (pRoom 6 0 0) M_X12_pieceOfC F 32 [(0, .ref 193)] [] (tS s) 0 0 := by
  unfold j_X12_pieceOfC_32 at h
  refine PW.aload_n 0 0 dX12_pieceOfC_32 rfl rfl rfl ?_
  refine CW.callVi (ci := 12) (st := []) [] dX12_pieceOfC_33 (p_X12_isGood rfl) MV_X12_isGood mL_X12_201 (by decide) rfl LA_193 rfl rfl (Nat.le_of_ble_eq_true rfl) (by first | decide | omega) ?_
  refine PW.if_eq (tgt := 43) dX12_pieceOfC_36 (by decide) (fun c4 => ?_) (fun c4 => ?_)
  · replace h := ifp h c4
    exact PW.pick [0] rfl (ok_j_X12_pieceOfC_43 h hx)
  · replace h := ifn h c4
    refine PW.aload_n 0 0 dX12_pieceOfC_39 rfl rfl rfl ?_
    obtain ⟨r33, s34, q35, h⟩ := obnd h
    refine CW.callVv (ci := 12) (st := []) [] dX12_pieceOfC_40 (p_X12_value q35) MV_X12_value mL_X12_267 (by decide) rfl LA_193 rfl rfl (Nat.le_of_ble_eq_true rfl) (by first | decide | omega) ?_
    exact PW.pick [0] rfl (ok_j_X12_pieceOfC_43 h hx)
def j_X12_pieceOfC_25b (s : cS) : Option ((Unit × cS) ⊕ (Unit × cS)) :=
  ob (f_X12_opens s) fun r49 s50 =>
  some (.inl ((), s50))
set_option maxRecDepth 20000 in
set_option maxHeartbeats 4000000 in
theorem ok_j_X12_pieceOfC_25b {g : pG} {l : Launch} {F : pF} {s : cS} {x : ((Unit × cS) ⊕ (Unit × cS))} (h : j_X12_pieceOfC_25b s = some x) (hx : (KL (fun (v : Unit × cS) => PW g l (pRoom 6 0 0) M_X12_pieceOfC F 0 [(0, .ref 193)] [] (tS v.2) 0 0) (fun q => F = pE g none (tS q.2) 0 0)) x) : PW g l (pRoom 6 0 0) M_X12_pieceOfC F 25 [(0, .ref 193)] [] (tS s) 0 0 := by
  unfold j_X12_pieceOfC_25b at h
  refine PW.aload_n 0 0 dX12_pieceOfC_25 rfl rfl rfl ?_
  obtain ⟨r49, s50, q51, h⟩ := obnd h
  refine CW.callVv (ci := 12) (st := []) [] dX12_pieceOfC_26 (p_X12_opens q51) MV_X12_opens mL_X12_244 (by decide) rfl LA_193 rfl rfl (Nat.le_of_ble_eq_true rfl) (by first | decide | omega) ?_
  refine PW.goto (tgt := 0) dX12_pieceOfC_29 (by decide) ?_
  cases h
  exact PW.pick [0] rfl hx
def b_X12_pieceOfC_0 (N : Nat) (s : cS) : Option ((Unit × cS) ⊕ (Unit × cS)) :=
  if (f_X12_isGood s) = 0 then
    oR (
      j_X12_pieceOfC_32 N s)
  else
    ob (f_X12_here s) fun r45 s46 =>
    if r45 = (33 : Int32) then
      j_X12_pieceOfC_25b s46
    else
      ob (f_X12_here s46) fun r52 s53 =>
      if r52 = (40 : Int32) then
        j_X12_pieceOfC_25b s53
      else
        oR (
          j_X12_pieceOfC_32 N s53)
set_option maxRecDepth 20000 in
set_option maxHeartbeats 4000000 in
theorem ok_b_X12_pieceOfC_0 {g : pG} {l : Launch} {F : pF} {N : Nat} {s : cS} {x : ((Unit × cS) ⊕ (Unit × cS))} (h : b_X12_pieceOfC_0 N s = some x) (hx : (KL (fun (v : Unit × cS) => PW g l (pRoom 6 0 0) M_X12_pieceOfC F 0 [(0, .ref 193)] [] (tS v.2) 0 0) (fun q => F = pE g none (tS q.2) 0 0)) x) : PW g l (pRoom 6 0 0) M_X12_pieceOfC F 0 [(0, .ref 193)] [] (tS s) 0 0 := by
  unfold b_X12_pieceOfC_0 at h
  refine PW.aload_n 0 0 dX12_pieceOfC_0 rfl rfl rfl ?_
  refine CW.callVi (ci := 12) (st := []) [] dX12_pieceOfC_1 (p_X12_isGood rfl) MV_X12_isGood mL_X12_201 (by decide) rfl LA_193 rfl rfl (Nat.le_of_ble_eq_true rfl) (by first | decide | omega) ?_
  refine PW.if_eq (tgt := 32) dX12_pieceOfC_4 (by decide) (fun c44 => ?_) (fun c44 => ?_)
  · replace h := ifp h c44
    obtain ⟨xo, hy, hxo⟩ := oRb h
    clear h
    subst hxo
    replace hx := KLr hx
    have h := hy
    clear hy
    exact PW.pick [0] rfl (ok_j_X12_pieceOfC_32 h hx)
  · replace h := ifn h c44
    refine PW.aload_n 0 0 dX12_pieceOfC_7 rfl rfl rfl ?_
    obtain ⟨r45, s46, q47, h⟩ := obnd h
    refine CW.callVi (ci := 12) (st := []) [] dX12_pieceOfC_8 (p_X12_here q47) MV_X12_here mL_X12_218 (by decide) rfl LA_193 rfl rfl (Nat.le_of_ble_eq_true rfl) (by first | decide | omega) ?_
    refine PW.bipush (v := 33) dX12_pieceOfC_11 (by decide) ?_
    refine PW.icmp_eq (tgt := 25) dX12_pieceOfC_13 (by decide) (fun c48 => ?_) (fun c48 => ?_)
    · replace h := ifp h c48
      exact PW.pick [0] rfl (ok_j_X12_pieceOfC_25b h hx)
    · replace h := ifn h c48
      refine PW.aload_n 0 0 dX12_pieceOfC_16 rfl rfl rfl ?_
      obtain ⟨r52, s53, q54, h⟩ := obnd h
      refine CW.callVi (ci := 12) (st := []) [] dX12_pieceOfC_17 (p_X12_here q54) MV_X12_here mL_X12_218 (by decide) rfl LA_193 rfl rfl (Nat.le_of_ble_eq_true rfl) (by first | decide | omega) ?_
      refine PW.bipush (v := 40) dX12_pieceOfC_20 (by decide) ?_
      refine PW.icmp_ne (tgt := 32) dX12_pieceOfC_22 (by decide) (fun c55 => ?_) (fun c55 => ?_)
      · replace h := ifn h c55
        obtain ⟨xo, hy, hxo⟩ := oRb h
        clear h
        subst hxo
        replace hx := KLr hx
        have h := hy
        clear hy
        exact PW.pick [0] rfl (ok_j_X12_pieceOfC_32 h hx)
      · replace h := ifp h c55
        exact PW.pick [0] rfl (ok_j_X12_pieceOfC_25b h hx)
def w_X12_pieceOfC_0 (N : Nat) (s : cS) : Option (Unit × cS) := itr (fun (v : Unit × cS) => b_X12_pieceOfC_0 N v.2) N ((), s)
theorem ok_w_X12_pieceOfC_0 {g : pG} {l : Launch} {F : pF} {N : Nat} {s : cS} {x : (Unit × cS)} (h : w_X12_pieceOfC_0 N s = some x) (hx : (fun q => F = pE g none (tS q.2) 0 0) x) : PW g l (pRoom 6 0 0) M_X12_pieceOfC F 0 [(0, .ref 193)] [] (tS s) 0 0 :=
  okIter (P := (fun (v : Unit × cS) => PW g l (pRoom 6 0 0) M_X12_pieceOfC F 0 [(0, .ref 193)] [] (tS v.2) 0 0)) (K := (fun q => F = pE g none (tS q.2) 0 0)) (fun v y hB hy => ok_b_X12_pieceOfC_0 hB hy) N ((), s) x h hx
def j_X12_pieceOfC_25 (N : Nat) (s : cS) : Option (Unit × cS) :=
  ob (f_X12_opens s) fun r40 s41 =>
  w_X12_pieceOfC_0 N s41
set_option maxRecDepth 20000 in
set_option maxHeartbeats 4000000 in
theorem ok_j_X12_pieceOfC_25 {g : pG} {l : Launch} {F : pF} {N : Nat} {s : cS} {x : (Unit × cS)} (h : j_X12_pieceOfC_25 N s = some x) (hx : (fun q => F = pE g none (tS q.2) 0 0) x) : PW g l (pRoom 6 0 0) M_X12_pieceOfC F 25 [(0, .ref 193)] [] (tS s) 0 0 := by
  unfold j_X12_pieceOfC_25 at h
  refine PW.aload_n 0 0 dX12_pieceOfC_25 rfl rfl rfl ?_
  obtain ⟨r40, s41, q42, h⟩ := obnd h
  refine CW.callVv (ci := 12) (st := []) [] dX12_pieceOfC_26 (p_X12_opens q42) MV_X12_opens mL_X12_244 (by decide) rfl LA_193 rfl rfl (Nat.le_of_ble_eq_true rfl) (by first | decide | omega) ?_
  refine PW.goto (tgt := 0) dX12_pieceOfC_29 (by decide) ?_
  exact PW.pick [0] rfl (ok_w_X12_pieceOfC_0 h hx)
def f_X12_pieceOfC (N : Nat) (s : cS) : Option (Unit × cS) :=
  if (f_X12_isGood s) = 0 then
    j_X12_pieceOfC_32 N s
  else
    ob (f_X12_here s) fun r36 s37 =>
    if r36 = (33 : Int32) then
      j_X12_pieceOfC_25 N s37
    else
      ob (f_X12_here s37) fun r56 s57 =>
      if r56 = (40 : Int32) then
        j_X12_pieceOfC_25 N s57
      else
        j_X12_pieceOfC_32 N s57
set_option maxRecDepth 20000 in
set_option maxHeartbeats 4000000 in
theorem p_X12_pieceOfC {g : pG} {l : Launch} {N : Nat} {s : cS} {q : Unit × cS} (h : f_X12_pieceOfC N s = some q) : PM g l 6 M_X12_pieceOfC [.ref 193] (tS s) none (tS q.2) 0 0 := by
  refine PM.of (by decide +kernel) (Nat.le_of_ble_eq_true rfl) ?_
  show PW g l (pRoom 6 0 0) M_X12_pieceOfC _ 0 [(0, .ref 193)] [] (tS s) 0 0
  unfold f_X12_pieceOfC at h
  generalize hF : pE g none (tS q.2) 0 0 = F
  have hx := hF.symm
  refine PW.aload_n 0 0 dX12_pieceOfC_0 rfl rfl rfl ?_
  refine CW.callVi (ci := 12) (st := []) [] dX12_pieceOfC_1 (p_X12_isGood rfl) MV_X12_isGood mL_X12_201 (by decide) rfl LA_193 rfl rfl (Nat.le_of_ble_eq_true rfl) (by first | decide | omega) ?_
  refine PW.if_eq (tgt := 32) dX12_pieceOfC_4 (by decide) (fun c2 => ?_) (fun c2 => ?_)
  · replace h := ifp h c2
    exact PW.pick [0] rfl (ok_j_X12_pieceOfC_32 h hx)
  · replace h := ifn h c2
    refine PW.aload_n 0 0 dX12_pieceOfC_7 rfl rfl rfl ?_
    obtain ⟨r36, s37, q38, h⟩ := obnd h
    refine CW.callVi (ci := 12) (st := []) [] dX12_pieceOfC_8 (p_X12_here q38) MV_X12_here mL_X12_218 (by decide) rfl LA_193 rfl rfl (Nat.le_of_ble_eq_true rfl) (by first | decide | omega) ?_
    refine PW.bipush (v := 33) dX12_pieceOfC_11 (by decide) ?_
    refine PW.icmp_eq (tgt := 25) dX12_pieceOfC_13 (by decide) (fun c39 => ?_) (fun c39 => ?_)
    · replace h := ifp h c39
      exact PW.pick [0] rfl (ok_j_X12_pieceOfC_25 h hx)
    · replace h := ifn h c39
      refine PW.aload_n 0 0 dX12_pieceOfC_16 rfl rfl rfl ?_
      obtain ⟨r56, s57, q58, h⟩ := obnd h
      refine CW.callVi (ci := 12) (st := []) [] dX12_pieceOfC_17 (p_X12_here q58) MV_X12_here mL_X12_218 (by decide) rfl LA_193 rfl rfl (Nat.le_of_ble_eq_true rfl) (by first | decide | omega) ?_
      refine PW.bipush (v := 40) dX12_pieceOfC_20 (by decide) ?_
      refine PW.icmp_ne (tgt := 32) dX12_pieceOfC_22 (by decide) (fun c59 => ?_) (fun c59 => ?_)
      · replace h := ifn h c59
        exact PW.pick [0] rfl (ok_j_X12_pieceOfC_32 h hx)
      · replace h := ifp h c59
        exact PW.pick [0] rfl (ok_j_X12_pieceOfC_25 h hx)
/-! X12_goesBehind -/
def j_X12_goesBehind_29 (N : Nat) (x1 : Int32) (y1 : Int32) (s : cS) : Option (Int32 × cS) :=
  ob (f_X12_joins N y1 s) fun r6 s7 =>
  ob (f_X12_puts x1 s7) fun r9 s10 =>
  some (((1 : Int32), s10))
set_option maxRecDepth 20000 in
set_option maxHeartbeats 4000000 in
theorem ok_j_X12_goesBehind_29 {g : pG} {l : Launch} {F : pF} {N : Nat} {x1 : Int32} {y1 : Int32} {s : cS} {x : (Int32 × cS)} (h : j_X12_goesBehind_29 N x1 y1 s = some x) (hx : (fun q => F = pE g (some (.int q.1)) (tS q.2) 0 0) x) : PW g l (pRoom 4 0 0) M_X12_goesBehind F 29 [(0, .ref 193), (1, .int x1)] [.int y1, .ref 193] (tS s) 0 0 := by
  unfold j_X12_goesBehind_29 at h
  obtain ⟨r6, s7, q8, h⟩ := obnd h
  refine CW.callVv (ci := 12) (st := []) [.int y1] dX12_goesBehind_29 (p_X12_joins q8) MV_X12_joins mL_X12_276 (by decide) rfl LA_193 rfl rfl (Nat.le_of_ble_eq_true rfl) (by first | decide | omega) ?_
  refine PW.aload_n 0 0 dX12_goesBehind_32 rfl rfl rfl ?_
  refine PW.iload_n 1 1 dX12_goesBehind_33 rfl rfl ?_
  obtain ⟨r9, s10, q11, h⟩ := obnd h
  refine CW.callVv (ci := 12) (st := []) [.int x1] dX12_goesBehind_34 (p_X12_puts q11) MV_X12_puts mL_X12_222 (by decide) rfl LA_193 rfl rfl (Nat.le_of_ble_eq_true rfl) (by first | decide | omega) ?_
  refine PW.iconst (v := 1) dX12_goesBehind_37 (by decide) ?_
  cases h
  subst hx
  exact PW.iret (v := (1 : Int32)) dX12_goesBehind_38 rfl (narZ (Or.inr rfl)) (Nat.le_refl 0) (Nat.le_refl 0)
def j_X12_goesBehind_17 (N : Nat) (x1 : Int32) (s : cS) : Option (Int32 × cS) :=
  if x1 = (124 : Int32) then
    j_X12_goesBehind_29 N x1 (1 : Int32) s
  else
    j_X12_goesBehind_29 N x1 (0 : Int32) s
set_option maxRecDepth 20000 in
set_option maxHeartbeats 4000000 in
theorem ok_j_X12_goesBehind_17 {g : pG} {l : Launch} {F : pF} {N : Nat} {x1 : Int32} {s : cS} {x : (Int32 × cS)} (h : j_X12_goesBehind_17 N x1 s = some x) (hx : (fun q => F = pE g (some (.int q.1)) (tS q.2) 0 0) x) : PW g l (pRoom 4 0 0) M_X12_goesBehind F 17 [(0, .ref 193), (1, .int x1)] [] (tS s) 0 0 := by
  unfold j_X12_goesBehind_17 at h
  refine PW.aload_n 0 0 dX12_goesBehind_17 rfl rfl rfl ?_
  refine PW.iload_n 1 1 dX12_goesBehind_18 rfl rfl ?_
  refine PW.bipush (v := 124) dX12_goesBehind_19 (by decide) ?_
  refine PW.icmp_ne (tgt := 28) dX12_goesBehind_21 (by decide) (fun c5 => ?_) (fun c5 => ?_)
  · replace h := ifn h c5
    refine PW.iconst (v := 0) dX12_goesBehind_28 (by decide) ?_
    exact PW.pick [0, 1] rfl (ok_j_X12_goesBehind_29 h hx)
  · replace h := ifp h c5
    refine PW.iconst (v := 1) dX12_goesBehind_24 (by decide) ?_
    refine PW.goto (tgt := 29) dX12_goesBehind_25 (by decide) ?_
    exact PW.pick [0, 1] rfl (ok_j_X12_goesBehind_29 h hx)
def j_X12_goesBehind_104 (N : Nat) (y1 : Int32) (s : cS) : Option (Int32 × cS) :=
  if y1 = 0 ∨ y1 = 1 then
  sb (iS s 193 35 y1) fun s22 =>
  if (iG s22 193 35) = 0 then
    ob (f_X12_ends N s22) fun r24 s25 =>
    some (((0 : Int32), s25))
  else
    some (((0 : Int32), s22))
  else none
set_option maxRecDepth 20000 in
set_option maxHeartbeats 4000000 in
theorem ok_j_X12_goesBehind_104 {g : pG} {l : Launch} {F : pF} {N : Nat} {y1 : Int32} {s : cS} {x : (Int32 × cS)} (h : j_X12_goesBehind_104 N y1 s = some x) (hx : (fun q => F = pE g (some (.int q.1)) (tS q.2) 0 0) x) : PW g l (pRoom 4 0 0) M_X12_goesBehind F 104 [(0, .ref 193)] [.int y1, .ref 193] (tS s) 0 0 := by
  unfold j_X12_goesBehind_104 at h
  by_cases c21 : y1 = 0 ∨ y1 = 1
  rotate_left
  · have h := ifn h c21; cases h
  replace h := ifp h c21
  refine CW.putz dX12_goesBehind_104 fL_X12_279 rfl LA_193 rfl c21 ?_
  obtain ⟨s22, es22, h⟩ := sbnd h
  refine PW.sbe es22 ?_
  clear es22
  refine PW.aload_n 0 0 dX12_goesBehind_107 rfl rfl rfl ?_
  refine CW.geti dX12_goesBehind_108 fL_X12_279 LA_193 (Or.inr rfl) ?_
  refine PW.if_ne (tgt := 118) dX12_goesBehind_111 (by decide) (fun c23 => ?_) (fun c23 => ?_)
  · replace h := ifn h c23
    refine PW.iconst (v := 0) dX12_goesBehind_118 (by decide) ?_
    cases h
    subst hx
    exact PW.iret (v := (0 : Int32)) dX12_goesBehind_119 rfl (narZ (Or.inl rfl)) (Nat.le_refl 0) (Nat.le_refl 0)
  · replace h := ifp h c23
    refine PW.aload_n 0 0 dX12_goesBehind_114 rfl rfl rfl ?_
    obtain ⟨r24, s25, q26, h⟩ := obnd h
    refine CW.callVv (ci := 12) (st := []) [] dX12_goesBehind_115 (p_X12_ends q26) MV_X12_ends mL_X12_273 (by decide) rfl LA_193 rfl rfl (Nat.le_of_ble_eq_true rfl) (by first | decide | omega) ?_
    refine PW.iconst (v := 0) dX12_goesBehind_118 (by decide) ?_
    cases h
    subst hx
    exact PW.iret (v := (0 : Int32)) dX12_goesBehind_119 rfl (narZ (Or.inl rfl)) (Nat.le_refl 0) (Nat.le_refl 0)
def f_X12_goesBehind (N : Nat) (s : cS) : Option (Int32 × cS) :=
  ob (f_X12_here s) fun r1 s2 =>
  if r1 = (38 : Int32) then
    j_X12_goesBehind_17 N r1 s2
  else
    if r1 = (124 : Int32) then
      j_X12_goesBehind_17 N r1 s2
    else
      if r1 = (41 : Int32) then
        ob (f_X12_joins N (1 : Int32) s2) fun r14 s15 =>
        sb (iS s15 193 34 ((iG s15 193 34) - (1 : Int32))) fun s17 =>
        sb (iS s17 193 33 ((iG s17 193 33) - (1 : Int32))) fun s18 =>
        sb (iS s18 193 28 ((iG s18 193 28) + (1 : Int32))) fun s19 =>
        if (iG s19 193 34) = 0 then
          j_X12_goesBehind_104 N (1 : Int32) s19
        else
          j_X12_goesBehind_104 N (0 : Int32) s19
      else
        tb (f_X12_wrongs (1 : Int32) (iG s2 193 28) s2) fun r27 s28 =>
        some (((0 : Int32), s28))
set_option maxRecDepth 20000 in
set_option maxHeartbeats 4000000 in
theorem p_X12_goesBehind {g : pG} {l : Launch} {N : Nat} {s : cS} {q : Int32 × cS} (h : f_X12_goesBehind N s = some q) : PM g l 4 M_X12_goesBehind [.ref 193] (tS s) (some (.int q.1)) (tS q.2) 0 0 := by
  refine PM.of (by decide +kernel) (Nat.le_of_ble_eq_true rfl) ?_
  show PW g l (pRoom 4 0 0) M_X12_goesBehind _ 0 [(0, .ref 193)] [] (tS s) 0 0
  unfold f_X12_goesBehind at h
  generalize hF : pE g (some (.int q.1)) (tS q.2) 0 0 = F
  have hx := hF.symm
  refine PW.aload_n 0 0 dX12_goesBehind_0 rfl rfl rfl ?_
  obtain ⟨r1, s2, q3, h⟩ := obnd h
  refine CW.callVi (ci := 12) (st := []) [] dX12_goesBehind_1 (p_X12_here q3) MV_X12_here mL_X12_218 (by decide) rfl LA_193 rfl rfl (Nat.le_of_ble_eq_true rfl) (by first | decide | omega) ?_
  refine PW.istore_n dX12_goesBehind_4 rfl (Nat.le_of_ble_eq_true rfl) rfl ?_
  refine PW.iload_n 0 1 dX12_goesBehind_5 rfl rfl ?_
  refine PW.bipush (v := 38) dX12_goesBehind_6 (by decide) ?_
  refine PW.icmp_eq (tgt := 17) dX12_goesBehind_8 (by decide) (fun c4 => ?_) (fun c4 => ?_)
  · replace h := ifp h c4
    exact PW.pick [1, 0] rfl (ok_j_X12_goesBehind_17 h hx)
  · replace h := ifn h c4
    refine PW.iload_n 0 1 dX12_goesBehind_11 rfl rfl ?_
    refine PW.bipush (v := 124) dX12_goesBehind_12 (by decide) ?_
    refine PW.icmp_ne (tgt := 39) dX12_goesBehind_14 (by decide) (fun c12 => ?_) (fun c12 => ?_)
    · replace h := ifn h c12
      refine PW.iload_n 0 1 dX12_goesBehind_39 rfl rfl ?_
      refine PW.bipush (v := 41) dX12_goesBehind_40 (by decide) ?_
      refine PW.icmp_eq (tgt := 56) dX12_goesBehind_42 (by decide) (fun c13 => ?_) (fun c13 => ?_)
      · replace h := ifp h c13
        refine PW.aload_n 1 0 dX12_goesBehind_56 rfl rfl rfl ?_
        refine PW.iconst (v := 1) dX12_goesBehind_57 (by decide) ?_
        obtain ⟨r14, s15, q16, h⟩ := obnd h
        refine CW.callVv (ci := 12) (st := []) [.int (1 : Int32)] dX12_goesBehind_58 (p_X12_joins q16) MV_X12_joins mL_X12_276 (by decide) rfl LA_193 rfl rfl (Nat.le_of_ble_eq_true rfl) (by first | decide | omega) ?_
        refine PW.aload_n 1 0 dX12_goesBehind_61 rfl rfl rfl ?_
        refine PW.dup dX12_goesBehind_62 rfl ?_
        refine CW.geti dX12_goesBehind_63 fL_X12_208 LA_193 (Or.inl rfl) ?_
        refine PW.iconst (v := 1) dX12_goesBehind_66 (by decide) ?_
        refine PW.isub dX12_goesBehind_67 ?_
        refine CW.puti dX12_goesBehind_68 fL_X12_208 rfl LA_193 rfl ?_
        obtain ⟨s17, es17, h⟩ := sbnd h
        refine PW.sbe es17 ?_
        clear es17
        refine PW.aload_n 1 0 dX12_goesBehind_71 rfl rfl rfl ?_
        refine PW.dup dX12_goesBehind_72 rfl ?_
        refine CW.geti dX12_goesBehind_73 fL_X12_211 LA_193 (Or.inl rfl) ?_
        refine PW.iconst (v := 1) dX12_goesBehind_76 (by decide) ?_
        refine PW.isub dX12_goesBehind_77 ?_
        refine CW.puti dX12_goesBehind_78 fL_X12_211 rfl LA_193 rfl ?_
        obtain ⟨s18, es18, h⟩ := sbnd h
        refine PW.sbe es18 ?_
        clear es18
        refine PW.aload_n 1 0 dX12_goesBehind_81 rfl rfl rfl ?_
        refine PW.dup dX12_goesBehind_82 rfl ?_
        refine CW.geti dX12_goesBehind_83 fL_X12_192 LA_193 (Or.inl rfl) ?_
        refine PW.iconst (v := 1) dX12_goesBehind_86 (by decide) ?_
        refine PW.iadd dX12_goesBehind_87 ?_
        refine CW.puti dX12_goesBehind_88 fL_X12_192 rfl LA_193 rfl ?_
        obtain ⟨s19, es19, h⟩ := sbnd h
        refine PW.sbe es19 ?_
        clear es19
        refine PW.aload_n 1 0 dX12_goesBehind_91 rfl rfl rfl ?_
        refine PW.aload_n 1 0 dX12_goesBehind_92 rfl rfl rfl ?_
        refine CW.geti dX12_goesBehind_93 fL_X12_208 LA_193 (Or.inl rfl) ?_
        refine PW.if_ne (tgt := 103) dX12_goesBehind_96 (by decide) (fun c20 => ?_) (fun c20 => ?_)
        · replace h := ifn h c20
          refine PW.iconst (v := 0) dX12_goesBehind_103 (by decide) ?_
          exact PW.pick [1] rfl (ok_j_X12_goesBehind_104 h hx)
        · replace h := ifp h c20
          refine PW.iconst (v := 1) dX12_goesBehind_99 (by decide) ?_
          refine PW.goto (tgt := 104) dX12_goesBehind_100 (by decide) ?_
          exact PW.pick [1] rfl (ok_j_X12_goesBehind_104 h hx)
      · replace h := ifn h c13
        refine PW.aload_n 1 0 dX12_goesBehind_45 rfl rfl rfl ?_
        refine PW.iconst (v := 1) dX12_goesBehind_46 (by decide) ?_
        refine PW.aload_n 1 0 dX12_goesBehind_47 rfl rfl rfl ?_
        refine CW.geti dX12_goesBehind_48 fL_X12_192 LA_193 (Or.inl rfl) ?_
        obtain ⟨r27, s28, q29, h⟩ := tbnd h
        refine CW.callVv (ci := 12) (st := []) [.int (1 : Int32), .int (iG s2 193 28)] dX12_goesBehind_51 (p_X12_wrongs q29) MV_X12_wrongs mL_X12_214 (by decide) rfl LA_193 rfl rfl (Nat.le_of_ble_eq_true rfl) (by first | decide | omega) ?_
        refine PW.iconst (v := 0) dX12_goesBehind_54 (by decide) ?_
        cases h
        subst hx
        exact PW.iret (v := (0 : Int32)) dX12_goesBehind_55 rfl (narZ (Or.inl rfl)) (Nat.le_refl 0) (Nat.le_refl 0)
    · replace h := ifp h c12
      exact PW.pick [1, 0] rfl (ok_j_X12_goesBehind_17 h hx)
/-! X12_condition -/
def j_X12_condition_59 (N : Nat) (x1 : Int32) (s : cS) : Option ((Int32 × cS) ⊕ (Unit × cS)) :=
  if (f_X12_isGood s) = 0 then
    some (.inl (x1, s))
  else
    ob (f_X12_goesBehind N s) fun r17 s18 =>
    some (.inl (r17, s18))
set_option maxRecDepth 20000 in
set_option maxHeartbeats 4000000 in
theorem ok_j_X12_condition_59 {g : pG} {l : Launch} {F : pF} {N : Nat} {x1 : Int32} {s : cS} {x : ((Int32 × cS) ⊕ (Unit × cS))} (h : j_X12_condition_59 N x1 s = some x) (hx : (KL (fun (v : Int32 × cS) => PW g l (pRoom 7 0 0) M_X12_condition F 37 [(0, .ref 193), (1, .int v.1)] [] (tS v.2) 0 0) (fun q => F = pE g none (tS q.2) 0 0)) x) : PW g l (pRoom 7 0 0) M_X12_condition F 59 [(0, .ref 193), (1, .int x1)] [] (tS s) 0 0 := by
  unfold j_X12_condition_59 at h
  refine PW.aload_n 0 0 dX12_condition_59 rfl rfl rfl ?_
  refine CW.callVi (ci := 12) (st := []) [] dX12_condition_60 (p_X12_isGood rfl) MV_X12_isGood mL_X12_201 (by decide) rfl LA_193 rfl rfl (Nat.le_of_ble_eq_true rfl) (by first | decide | omega) ?_
  refine PW.if_eq (tgt := 37) dX12_condition_63 (by decide) (fun c16 => ?_) (fun c16 => ?_)
  · replace h := ifp h c16
    cases h
    exact PW.pick [0, 1] rfl hx
  · replace h := ifn h c16
    refine PW.aload_n 0 0 dX12_condition_66 rfl rfl rfl ?_
    obtain ⟨r17, s18, q19, h⟩ := obnd h
    refine CW.callVi (ci := 12) (st := []) [] dX12_condition_67 (p_X12_goesBehind q19) MV_X12_goesBehind mL_X12_285 (by decide) rfl LA_193 rfl rfl (Nat.le_of_ble_eq_true rfl) (by first | decide | omega) ?_
    refine PW.istore_n dX12_condition_70 rfl (Nat.le_of_ble_eq_true rfl) rfl ?_
    refine PW.goto (tgt := 37) dX12_condition_71 (by decide) ?_
    cases h
    exact PW.pick [1, 0] rfl hx
def b_X12_condition_37 (N : Nat) (x1 : Int32) (s : cS) : Option ((Int32 × cS) ⊕ (Unit × cS)) :=
  if (f_X12_isGood s) = 0 then
    oR (
      some (((), s)))
  else
    if (iG s 193 35) = 0 then
      if x1 = 0 then
        j_X12_condition_59 N x1 s
      else
        ob (f_X12_pieceOfC N s) fun r20 s21 =>
        j_X12_condition_59 N x1 s21
    else
      oR (
        some (((), s)))
set_option maxRecDepth 20000 in
set_option maxHeartbeats 4000000 in
theorem ok_b_X12_condition_37 {g : pG} {l : Launch} {F : pF} {N : Nat} {x1 : Int32} {s : cS} {x : ((Int32 × cS) ⊕ (Unit × cS))} (h : b_X12_condition_37 N x1 s = some x) (hx : (KL (fun (v : Int32 × cS) => PW g l (pRoom 7 0 0) M_X12_condition F 37 [(0, .ref 193), (1, .int v.1)] [] (tS v.2) 0 0) (fun q => F = pE g none (tS q.2) 0 0)) x) : PW g l (pRoom 7 0 0) M_X12_condition F 37 [(0, .ref 193), (1, .int x1)] [] (tS s) 0 0 := by
  unfold b_X12_condition_37 at h
  refine PW.aload_n 0 0 dX12_condition_37 rfl rfl rfl ?_
  refine CW.callVi (ci := 12) (st := []) [] dX12_condition_38 (p_X12_isGood rfl) MV_X12_isGood mL_X12_201 (by decide) rfl LA_193 rfl rfl (Nat.le_of_ble_eq_true rfl) (by first | decide | omega) ?_
  refine PW.if_eq (tgt := 74) dX12_condition_41 (by decide) (fun c12 => ?_) (fun c12 => ?_)
  · replace h := ifp h c12
    obtain ⟨xo, hy, hxo⟩ := oRb h
    clear h
    subst hxo
    replace hx := KLr hx
    have h := hy
    clear hy
    cases h
    subst hx
    exact PW.vret dX12_condition_74 rfl (Nat.le_refl 0) (Nat.le_refl 0)
  · replace h := ifn h c12
    refine PW.aload_n 0 0 dX12_condition_44 rfl rfl rfl ?_
    refine CW.geti dX12_condition_45 fL_X12_279 LA_193 (Or.inr rfl) ?_
    refine PW.if_ne (tgt := 74) dX12_condition_48 (by decide) (fun c13 => ?_) (fun c13 => ?_)
    · replace h := ifn h c13
      obtain ⟨xo, hy, hxo⟩ := oRb h
      clear h
      subst hxo
      replace hx := KLr hx
      have h := hy
      clear hy
      cases h
      subst hx
      exact PW.vret dX12_condition_74 rfl (Nat.le_refl 0) (Nat.le_refl 0)
    · replace h := ifp h c13
      refine PW.iload_n 1 1 dX12_condition_51 rfl rfl ?_
      refine PW.if_eq (tgt := 59) dX12_condition_52 (by decide) (fun c14 => ?_) (fun c14 => ?_)
      · replace h := ifp h c14
        exact PW.pick [0, 1] rfl (ok_j_X12_condition_59 h hx)
      · replace h := ifn h c14
        refine PW.aload_n 0 0 dX12_condition_55 rfl rfl rfl ?_
        obtain ⟨r20, s21, q22, h⟩ := obnd h
        refine CW.callVv (ci := 12) (st := []) [] dX12_condition_56 (p_X12_pieceOfC q22) MV_X12_pieceOfC mL_X12_282 (by decide) rfl LA_193 rfl rfl (Nat.le_of_ble_eq_true rfl) (by first | decide | omega) ?_
        exact PW.pick [0, 1] rfl (ok_j_X12_condition_59 h hx)
def w_X12_condition_37 (N : Nat) (x1 : Int32) (s : cS) : Option (Unit × cS) := itr (fun (v : Int32 × cS) => b_X12_condition_37 N v.1 v.2) N (x1, s)
theorem ok_w_X12_condition_37 {g : pG} {l : Launch} {F : pF} {N : Nat} {x1 : Int32} {s : cS} {x : (Unit × cS)} (h : w_X12_condition_37 N x1 s = some x) (hx : (fun q => F = pE g none (tS q.2) 0 0) x) : PW g l (pRoom 7 0 0) M_X12_condition F 37 [(0, .ref 193), (1, .int x1)] [] (tS s) 0 0 :=
  okIter (P := (fun (v : Int32 × cS) => PW g l (pRoom 7 0 0) M_X12_condition F 37 [(0, .ref 193), (1, .int v.1)] [] (tS v.2) 0 0)) (K := (fun q => F = pE g none (tS q.2) 0 0)) (fun v y hB hy => ok_b_X12_condition_37 hB hy) N (x1, s) x h hx
def j_X12_condition_23 (N : Nat) (s : cS) : Option (Unit × cS) :=
  if (f_X12_isGood s) = 0 then
    some (((), s))
  else
    ob (f_X12_opens s) fun r8 s9 =>
    w_X12_condition_37 N (1 : Int32) s9
set_option maxRecDepth 20000 in
set_option maxHeartbeats 4000000 in
theorem ok_j_X12_condition_23 {g : pG} {l : Launch} {F : pF} {N : Nat} {s : cS} {x : (Unit × cS)} (h : j_X12_condition_23 N s = some x) (hx : (fun q => F = pE g none (tS q.2) 0 0) x) : PW g l (pRoom 7 0 0) M_X12_condition F 23 [(0, .ref 193)] [] (tS s) 0 0 := by
  unfold j_X12_condition_23 at h
  refine PW.aload_n 0 0 dX12_condition_23 rfl rfl rfl ?_
  refine CW.callVi (ci := 12) (st := []) [] dX12_condition_24 (p_X12_isGood rfl) MV_X12_isGood mL_X12_201 (by decide) rfl LA_193 rfl rfl (Nat.le_of_ble_eq_true rfl) (by first | decide | omega) ?_
  refine PW.if_ne (tgt := 31) dX12_condition_27 (by decide) (fun c7 => ?_) (fun c7 => ?_)
  · replace h := ifn h c7
    refine PW.aload_n 0 0 dX12_condition_31 rfl rfl rfl ?_
    obtain ⟨r8, s9, q10, h⟩ := obnd h
    refine CW.callVv (ci := 12) (st := []) [] dX12_condition_32 (p_X12_opens q10) MV_X12_opens mL_X12_244 (by decide) rfl LA_193 rfl rfl (Nat.le_of_ble_eq_true rfl) (by first | decide | omega) ?_
    refine PW.iconst (v := 1) dX12_condition_35 (by decide) ?_
    refine PW.istore_n dX12_condition_36 rfl (Nat.le_of_ble_eq_true rfl) rfl ?_
    exact PW.pick [1, 0] rfl (ok_w_X12_condition_37 h hx)
  · replace h := ifp h c7
    cases h
    subst hx
    exact PW.vret dX12_condition_30 rfl (Nat.le_refl 0) (Nat.le_refl 0)
def f_X12_condition (N : Nat) (s : cS) : Option (Unit × cS) :=
  sb (iS s 193 35 (0 : Int32)) fun s1 =>
  ob (f_X12_here s1) fun r2 s3 =>
  if r2 = (40 : Int32) then
    j_X12_condition_23 N s3
  else
    tb (f_X12_wrongs (1 : Int32) (iG s3 193 28) s3) fun r23 s24 =>
    j_X12_condition_23 N s24
set_option maxRecDepth 20000 in
set_option maxHeartbeats 4000000 in
theorem p_X12_condition {g : pG} {l : Launch} {N : Nat} {s : cS} {q : Unit × cS} (h : f_X12_condition N s = some q) : PM g l 7 M_X12_condition [.ref 193] (tS s) none (tS q.2) 0 0 := by
  refine PM.of (by decide +kernel) (Nat.le_of_ble_eq_true rfl) ?_
  show PW g l (pRoom 7 0 0) M_X12_condition _ 0 [(0, .ref 193)] [] (tS s) 0 0
  unfold f_X12_condition at h
  generalize hF : pE g none (tS q.2) 0 0 = F
  have hx := hF.symm
  refine PW.aload_n 0 0 dX12_condition_0 rfl rfl rfl ?_
  refine PW.iconst (v := 0) dX12_condition_1 (by decide) ?_
  refine CW.putz dX12_condition_2 fL_X12_279 rfl LA_193 rfl (Or.inl rfl) ?_
  obtain ⟨s1, es1, h⟩ := sbnd h
  refine PW.sbe es1 ?_
  clear es1
  refine PW.aload_n 0 0 dX12_condition_5 rfl rfl rfl ?_
  obtain ⟨r2, s3, q4, h⟩ := obnd h
  refine CW.callVi (ci := 12) (st := []) [] dX12_condition_6 (p_X12_here q4) MV_X12_here mL_X12_218 (by decide) rfl LA_193 rfl rfl (Nat.le_of_ble_eq_true rfl) (by first | decide | omega) ?_
  refine PW.bipush (v := 40) dX12_condition_9 (by decide) ?_
  refine PW.icmp_eq (tgt := 23) dX12_condition_11 (by decide) (fun c5 => ?_) (fun c5 => ?_)
  · replace h := ifp h c5
    exact PW.pick [0] rfl (ok_j_X12_condition_23 h hx)
  · replace h := ifn h c5
    refine PW.aload_n 0 0 dX12_condition_14 rfl rfl rfl ?_
    refine PW.iconst (v := 1) dX12_condition_15 (by decide) ?_
    refine PW.aload_n 0 0 dX12_condition_16 rfl rfl rfl ?_
    refine CW.geti dX12_condition_17 fL_X12_192 LA_193 (Or.inl rfl) ?_
    obtain ⟨r23, s24, q25, h⟩ := tbnd h
    refine CW.callVv (ci := 12) (st := []) [.int (1 : Int32), .int (iG s3 193 28)] dX12_condition_20 (p_X12_wrongs q25) MV_X12_wrongs mL_X12_214 (by decide) rfl LA_193 rfl rfl (Nat.le_of_ble_eq_true rfl) (by first | decide | omega) ?_
    exact PW.pick [0] rfl (ok_j_X12_condition_23 h hx)
/-! X12_clause -/
def j_X12_clause_132 (s : cS) : Option (Unit × cS) :=
  if inb (iG s 193 31) 12 then
  sb (iS s 211 (iG s 193 31).toNatClampNeg (iG s 193 32)) fun s23 =>
  sb (iS s23 193 31 ((iG s23 193 31) + (1 : Int32))) fun s24 =>
  some (((), s24))
  else none
set_option maxRecDepth 20000 in
set_option maxHeartbeats 4000000 in
theorem ok_j_X12_clause_132 {g : pG} {l : Launch} {F : pF} {s : cS} {x : (Unit × cS)} (h : j_X12_clause_132 s = some x) (hx : (fun q => F = pE g none (tS q.2) 0 0) x) : PW g l (pRoom 8 0 0) M_X12_clause F 132 [(0, .ref 193)] [] (tS s) 0 0 := by
  unfold j_X12_clause_132 at h
  refine PW.aload_n 0 0 dX12_clause_132 rfl rfl rfl ?_
  refine CW.getr dX12_clause_133 fL_X12_62 LA_193 (Or.inr ⟨_, rfl⟩) rfl ?_
  refine PW.aload_n 0 0 dX12_clause_136 rfl rfl rfl ?_
  refine CW.geti dX12_clause_137 fL_X12_288 LA_193 (Or.inl rfl) ?_
  refine PW.aload_n 0 0 dX12_clause_140 rfl rfl rfl ?_
  refine CW.geti dX12_clause_141 fL_X12_205 LA_193 (Or.inl rfl) ?_
  by_cases c22 : inb (iG s 193 31) 12
  rotate_left
  · have h := ifn h c22; cases h
  replace h := ifp h c22
  refine CW.iast dX12_clause_144 LA_211 c22 ?_
  obtain ⟨s23, es23, h⟩ := sbnd h
  refine PW.sbe es23 ?_
  clear es23
  refine PW.aload_n 0 0 dX12_clause_145 rfl rfl rfl ?_
  refine PW.dup dX12_clause_146 rfl ?_
  refine CW.geti dX12_clause_147 fL_X12_288 LA_193 (Or.inl rfl) ?_
  refine PW.iconst (v := 1) dX12_clause_150 (by decide) ?_
  refine PW.iadd dX12_clause_151 ?_
  refine CW.puti dX12_clause_152 fL_X12_288 rfl LA_193 rfl ?_
  obtain ⟨s24, es24, h⟩ := sbnd h
  refine PW.sbe es24 ?_
  clear es24
  cases h
  subst hx
  exact PW.vret dX12_clause_155 rfl (Nat.le_refl 0) (Nat.le_refl 0)
def j_X12_clause_53 (N : Nat) (x1 : Int32) (s : cS) : Option (Unit × cS) :=
  if (f_X12_isGood s) = 0 then
    some (((), s))
  else
    if inb (iG s 193 31) 12 then
    sb (iS s 208 (iG s 193 31).toNatClampNeg x1) fun s9 =>
    if inb (iG s9 193 31) 12 then
    sb (iS s9 209 (iG s9 193 31).toNatClampNeg (iG s9 193 32)) fun s11 =>
    sb (iS s11 193 28 ((iG s11 193 28) + (1 : Int32))) fun s12 =>
    sb (iS s12 193 34 (0 : Int32)) fun s13 =>
    sb (iS s13 193 33 (0 : Int32)) fun s14 =>
    ob (f_X12_value N s14) fun r15 s16 =>
    if inb (iG s16 193 31) 12 then
    sb (iS s16 210 (iG s16 193 31).toNatClampNeg (iG s16 193 32)) fun s19 =>
    if (f_X12_isGood s19) = 0 then
      j_X12_clause_132 s19
    else
      ob (f_X12_condition N s19) fun r25 s26 =>
      j_X12_clause_132 s26
    else none
    else none
    else none
set_option maxRecDepth 20000 in
set_option maxHeartbeats 4000000 in
theorem ok_j_X12_clause_53 {g : pG} {l : Launch} {F : pF} {N : Nat} {x1 : Int32} {s : cS} {x : (Unit × cS)} (h : j_X12_clause_53 N x1 s = some x) (hx : (fun q => F = pE g none (tS q.2) 0 0) x) : PW g l (pRoom 8 0 0) M_X12_clause F 53 [(0, .ref 193), (1, .int x1)] [] (tS s) 0 0 := by
  unfold j_X12_clause_53 at h
  refine PW.aload_n 0 0 dX12_clause_53 rfl rfl rfl ?_
  refine CW.callVi (ci := 12) (st := []) [] dX12_clause_54 (p_X12_isGood rfl) MV_X12_isGood mL_X12_201 (by decide) rfl LA_193 rfl rfl (Nat.le_of_ble_eq_true rfl) (by first | decide | omega) ?_
  refine PW.if_ne (tgt := 61) dX12_clause_57 (by decide) (fun c7 => ?_) (fun c7 => ?_)
  · replace h := ifn h c7
    refine PW.aload_n 0 0 dX12_clause_61 rfl rfl rfl ?_
    refine CW.getr dX12_clause_62 fL_X12_53 LA_193 (Or.inr ⟨_, rfl⟩) rfl ?_
    refine PW.aload_n 0 0 dX12_clause_65 rfl rfl rfl ?_
    refine CW.geti dX12_clause_66 fL_X12_288 LA_193 (Or.inl rfl) ?_
    refine PW.iload_n 1 1 dX12_clause_69 rfl rfl ?_
    by_cases c8 : inb (iG s 193 31) 12
    rotate_left
    · have h := ifn h c8; cases h
    replace h := ifp h c8
    refine CW.iast dX12_clause_70 LA_208 c8 ?_
    obtain ⟨s9, es9, h⟩ := sbnd h
    refine PW.sbe es9 ?_
    clear es9
    refine PW.aload_n 0 0 dX12_clause_71 rfl rfl rfl ?_
    refine CW.getr dX12_clause_72 fL_X12_56 LA_193 (Or.inr ⟨_, rfl⟩) rfl ?_
    refine PW.aload_n 0 0 dX12_clause_75 rfl rfl rfl ?_
    refine CW.geti dX12_clause_76 fL_X12_288 LA_193 (Or.inl rfl) ?_
    refine PW.aload_n 0 0 dX12_clause_79 rfl rfl rfl ?_
    refine CW.geti dX12_clause_80 fL_X12_205 LA_193 (Or.inl rfl) ?_
    by_cases c10 : inb (iG s9 193 31) 12
    rotate_left
    · have h := ifn h c10; cases h
    replace h := ifp h c10
    refine CW.iast dX12_clause_83 LA_209 c10 ?_
    obtain ⟨s11, es11, h⟩ := sbnd h
    refine PW.sbe es11 ?_
    clear es11
    refine PW.aload_n 0 0 dX12_clause_84 rfl rfl rfl ?_
    refine PW.dup dX12_clause_85 rfl ?_
    refine CW.geti dX12_clause_86 fL_X12_192 LA_193 (Or.inl rfl) ?_
    refine PW.iconst (v := 1) dX12_clause_89 (by decide) ?_
    refine PW.iadd dX12_clause_90 ?_
    refine CW.puti dX12_clause_91 fL_X12_192 rfl LA_193 rfl ?_
    obtain ⟨s12, es12, h⟩ := sbnd h
    refine PW.sbe es12 ?_
    clear es12
    refine PW.aload_n 0 0 dX12_clause_94 rfl rfl rfl ?_
    refine PW.iconst (v := 0) dX12_clause_95 (by decide) ?_
    refine CW.puti dX12_clause_96 fL_X12_208 rfl LA_193 rfl ?_
    obtain ⟨s13, es13, h⟩ := sbnd h
    refine PW.sbe es13 ?_
    clear es13
    refine PW.aload_n 0 0 dX12_clause_99 rfl rfl rfl ?_
    refine PW.iconst (v := 0) dX12_clause_100 (by decide) ?_
    refine CW.puti dX12_clause_101 fL_X12_211 rfl LA_193 rfl ?_
    obtain ⟨s14, es14, h⟩ := sbnd h
    refine PW.sbe es14 ?_
    clear es14
    refine PW.aload_n 0 0 dX12_clause_104 rfl rfl rfl ?_
    obtain ⟨r15, s16, q17, h⟩ := obnd h
    refine CW.callVv (ci := 12) (st := []) [] dX12_clause_105 (p_X12_value q17) MV_X12_value mL_X12_267 (by decide) rfl LA_193 rfl rfl (Nat.le_of_ble_eq_true rfl) (by first | decide | omega) ?_
    refine PW.aload_n 0 0 dX12_clause_108 rfl rfl rfl ?_
    refine CW.getr dX12_clause_109 fL_X12_59 LA_193 (Or.inr ⟨_, rfl⟩) rfl ?_
    refine PW.aload_n 0 0 dX12_clause_112 rfl rfl rfl ?_
    refine CW.geti dX12_clause_113 fL_X12_288 LA_193 (Or.inl rfl) ?_
    refine PW.aload_n 0 0 dX12_clause_116 rfl rfl rfl ?_
    refine CW.geti dX12_clause_117 fL_X12_205 LA_193 (Or.inl rfl) ?_
    by_cases c18 : inb (iG s16 193 31) 12
    rotate_left
    · have h := ifn h c18; cases h
    replace h := ifp h c18
    refine CW.iast dX12_clause_120 LA_210 c18 ?_
    obtain ⟨s19, es19, h⟩ := sbnd h
    refine PW.sbe es19 ?_
    clear es19
    refine PW.aload_n 0 0 dX12_clause_121 rfl rfl rfl ?_
    refine CW.callVi (ci := 12) (st := []) [] dX12_clause_122 (p_X12_isGood rfl) MV_X12_isGood mL_X12_201 (by decide) rfl LA_193 rfl rfl (Nat.le_of_ble_eq_true rfl) (by first | decide | omega) ?_
    refine PW.if_eq (tgt := 132) dX12_clause_125 (by decide) (fun c21 => ?_) (fun c21 => ?_)
    · replace h := ifp h c21
      exact PW.pick [0] rfl (ok_j_X12_clause_132 h hx)
    · replace h := ifn h c21
      refine PW.aload_n 0 0 dX12_clause_128 rfl rfl rfl ?_
      obtain ⟨r25, s26, q27, h⟩ := obnd h
      refine CW.callVv (ci := 12) (st := []) [] dX12_clause_129 (p_X12_condition q27) MV_X12_condition mL_X12_291 (by decide) rfl LA_193 rfl rfl (Nat.le_of_ble_eq_true rfl) (by first | decide | omega) ?_
      exact PW.pick [0] rfl (ok_j_X12_clause_132 h hx)
  · replace h := ifp h c7
    cases h
    subst hx
    exact PW.vret dX12_clause_60 rfl (Nat.le_refl 0) (Nat.le_refl 0)
def j_X12_clause_35 (N : Nat) (x1 : Int32) (s : cS) : Option (Unit × cS) :=
  if (iG s 193 31) = (12 : Int32) then
    tb (f_X12_wrongs (4 : Int32) (iG s 193 28) s) fun r28 s29 =>
    j_X12_clause_53 N x1 s29
  else
    j_X12_clause_53 N x1 s
set_option maxRecDepth 20000 in
set_option maxHeartbeats 4000000 in
theorem ok_j_X12_clause_35 {g : pG} {l : Launch} {F : pF} {N : Nat} {x1 : Int32} {s : cS} {x : (Unit × cS)} (h : j_X12_clause_35 N x1 s = some x) (hx : (fun q => F = pE g none (tS q.2) 0 0) x) : PW g l (pRoom 8 0 0) M_X12_clause F 35 [(0, .ref 193), (1, .int x1)] [] (tS s) 0 0 := by
  unfold j_X12_clause_35 at h
  refine PW.aload_n 0 0 dX12_clause_35 rfl rfl rfl ?_
  refine CW.geti dX12_clause_36 fL_X12_288 LA_193 (Or.inl rfl) ?_
  refine PW.bipush (v := 12) dX12_clause_39 (by decide) ?_
  refine PW.icmp_ne (tgt := 53) dX12_clause_41 (by decide) (fun c5 => ?_) (fun c5 => ?_)
  · replace h := ifn h c5
    exact PW.pick [0, 1] rfl (ok_j_X12_clause_53 h hx)
  · replace h := ifp h c5
    refine PW.aload_n 0 0 dX12_clause_44 rfl rfl rfl ?_
    refine PW.iconst (v := 4) dX12_clause_45 (by decide) ?_
    refine PW.aload_n 0 0 dX12_clause_46 rfl rfl rfl ?_
    refine CW.geti dX12_clause_47 fL_X12_192 LA_193 (Or.inl rfl) ?_
    obtain ⟨r28, s29, q30, h⟩ := tbnd h
    refine CW.callVv (ci := 12) (st := []) [.int (4 : Int32), .int (iG s 193 28)] dX12_clause_50 (p_X12_wrongs q30) MV_X12_wrongs mL_X12_214 (by decide) rfl LA_193 rfl rfl (Nat.le_of_ble_eq_true rfl) (by first | decide | omega) ?_
    exact PW.pick [0, 1] rfl (ok_j_X12_clause_53 h hx)
def f_X12_clause (N : Nat) (s : cS) : Option (Unit × cS) :=
  ob (f_X12_here s) fun r1 s2 =>
  if r1 = (113 : Int32) then
    j_X12_clause_35 N r1 s2
  else
    if r1 = (100 : Int32) then
      j_X12_clause_35 N r1 s2
    else
      if r1 = (103 : Int32) then
        j_X12_clause_35 N r1 s2
      else
        tb (f_X12_wrongs (1 : Int32) (iG s2 193 28) s2) fun r33 s34 =>
        j_X12_clause_53 N r1 s34
set_option maxRecDepth 20000 in
set_option maxHeartbeats 4000000 in
theorem p_X12_clause {g : pG} {l : Launch} {N : Nat} {s : cS} {q : Unit × cS} (h : f_X12_clause N s = some q) : PM g l 8 M_X12_clause [.ref 193] (tS s) none (tS q.2) 0 0 := by
  refine PM.of (by decide +kernel) (Nat.le_of_ble_eq_true rfl) ?_
  show PW g l (pRoom 8 0 0) M_X12_clause _ 0 [(0, .ref 193)] [] (tS s) 0 0
  unfold f_X12_clause at h
  generalize hF : pE g none (tS q.2) 0 0 = F
  have hx := hF.symm
  refine PW.aload_n 0 0 dX12_clause_0 rfl rfl rfl ?_
  obtain ⟨r1, s2, q3, h⟩ := obnd h
  refine CW.callVi (ci := 12) (st := []) [] dX12_clause_1 (p_X12_here q3) MV_X12_here mL_X12_218 (by decide) rfl LA_193 rfl rfl (Nat.le_of_ble_eq_true rfl) (by first | decide | omega) ?_
  refine PW.istore_n dX12_clause_4 rfl (Nat.le_of_ble_eq_true rfl) rfl ?_
  refine PW.iload_n 0 1 dX12_clause_5 rfl rfl ?_
  refine PW.bipush (v := 113) dX12_clause_6 (by decide) ?_
  refine PW.icmp_eq (tgt := 35) dX12_clause_8 (by decide) (fun c4 => ?_) (fun c4 => ?_)
  · replace h := ifp h c4
    exact PW.pick [1, 0] rfl (ok_j_X12_clause_35 h hx)
  · replace h := ifn h c4
    refine PW.iload_n 0 1 dX12_clause_11 rfl rfl ?_
    refine PW.bipush (v := 100) dX12_clause_12 (by decide) ?_
    refine PW.icmp_eq (tgt := 35) dX12_clause_14 (by decide) (fun c31 => ?_) (fun c31 => ?_)
    · replace h := ifp h c31
      exact PW.pick [1, 0] rfl (ok_j_X12_clause_35 h hx)
    · replace h := ifn h c31
      refine PW.iload_n 0 1 dX12_clause_17 rfl rfl ?_
      refine PW.bipush (v := 103) dX12_clause_18 (by decide) ?_
      refine PW.icmp_eq (tgt := 35) dX12_clause_20 (by decide) (fun c32 => ?_) (fun c32 => ?_)
      · replace h := ifp h c32
        exact PW.pick [1, 0] rfl (ok_j_X12_clause_35 h hx)
      · replace h := ifn h c32
        refine PW.aload_n 1 0 dX12_clause_23 rfl rfl rfl ?_
        refine PW.iconst (v := 1) dX12_clause_24 (by decide) ?_
        refine PW.aload_n 1 0 dX12_clause_25 rfl rfl rfl ?_
        refine CW.geti dX12_clause_26 fL_X12_192 LA_193 (Or.inl rfl) ?_
        obtain ⟨r33, s34, q35, h⟩ := tbnd h
        refine CW.callVv (ci := 12) (st := []) [.int (1 : Int32), .int (iG s2 193 28)] dX12_clause_29 (p_X12_wrongs q35) MV_X12_wrongs mL_X12_214 (by decide) rfl LA_193 rfl rfl (Nat.le_of_ble_eq_true rfl) (by first | decide | omega) ?_
        refine PW.goto (tgt := 53) dX12_clause_32 (by decide) ?_
        exact PW.pick [1, 0] rfl (ok_j_X12_clause_53 h hx)
/-! X12_law -/
def b_X12_law_206 (x3 : Int32) (s : cS) : Option ((Int32 × cS) ⊕ (Int32 × cS)) :=
  if (iG s 193 32) ≤ x3 then
    oR (
      sb (iS s 193 15 (iG s 193 31)) fun s14 =>
      some (((iG s14 193 15), s14)))
  else
    if inb x3 160 then
    sb (iS s 206 x3.toNatClampNeg (iG s 212 x3.toNatClampNeg)) fun s16 =>
    sb (iS s16 207 x3.toNatClampNeg (iG s16 213 x3.toNatClampNeg)) fun s17 =>
    some (.inl ((x3 + (1 : Int32)), s17))
    else none
set_option maxRecDepth 20000 in
set_option maxHeartbeats 4000000 in
theorem ok_b_X12_law_206 {g : pG} {l : Launch} {F : pF} {x3 : Int32} {s : cS} {x : ((Int32 × cS) ⊕ (Int32 × cS))} (h : b_X12_law_206 x3 s = some x) (hx : (KL (fun (v : Int32 × cS) => PW g l (pRoom 9 0 0) M_X12_law F 206 [(0, .ref 193), (3, .int v.1)] [] (tS v.2) 0 0) (fun q => F = pE g (some (.int q.1)) (tS q.2) 0 0)) x) : PW g l (pRoom 9 0 0) M_X12_law F 206 [(0, .ref 193), (3, .int x3)] [] (tS s) 0 0 := by
  unfold b_X12_law_206 at h
  refine PW.iload_n 1 3 dX12_law_206 rfl rfl ?_
  refine PW.aload_n 0 0 dX12_law_207 rfl rfl rfl ?_
  refine CW.geti dX12_law_208 fL_X12_205 LA_193 (Or.inl rfl) ?_
  refine PW.icmp_ge (tgt := 244) dX12_law_211 (by decide) (fun c13 => ?_) (fun c13 => ?_)
  · replace h := ifp h c13
    obtain ⟨xo, hy, hxo⟩ := oRb h
    clear h
    subst hxo
    replace hx := KLr hx
    have h := hy
    clear hy
    refine PW.aload_n 0 0 dX12_law_244 rfl rfl rfl ?_
    refine PW.aload_n 0 0 dX12_law_245 rfl rfl rfl ?_
    refine CW.geti dX12_law_246 fL_X12_288 LA_193 (Or.inl rfl) ?_
    refine CW.puti dX12_law_249 fL_X12_299 rfl LA_193 rfl ?_
    obtain ⟨s14, es14, h⟩ := sbnd h
    refine PW.sbe es14 ?_
    clear es14
    refine PW.aload_n 0 0 dX12_law_252 rfl rfl rfl ?_
    refine CW.geti dX12_law_253 fL_X12_299 LA_193 (Or.inl rfl) ?_
    cases h
    subst hx
    exact PW.iret (v := (iG s14 193 15)) dX12_law_256 rfl rfl (Nat.le_refl 0) (Nat.le_refl 0)
  · replace h := ifn h c13
    refine PW.aload_n 0 0 dX12_law_214 rfl rfl rfl ?_
    refine CW.getr dX12_law_215 fL_X12_47 LA_193 (Or.inr ⟨_, rfl⟩) rfl ?_
    refine PW.iload_n 1 3 dX12_law_218 rfl rfl ?_
    refine PW.aload_n 0 0 dX12_law_219 rfl rfl rfl ?_
    refine CW.getr dX12_law_220 fL_X12_65 LA_193 (Or.inr ⟨_, rfl⟩) rfl ?_
    refine PW.iload_n 1 3 dX12_law_223 rfl rfl ?_
    by_cases c15 : inb x3 160
    rotate_left
    · have h := ifn h c15; cases h
    replace h := ifp h c15
    refine CW.iald dX12_law_224 LA_212 c15 ?_
    refine CW.iast dX12_law_225 LA_206 c15 ?_
    obtain ⟨s16, es16, h⟩ := sbnd h
    refine PW.sbe es16 ?_
    clear es16
    refine PW.aload_n 0 0 dX12_law_226 rfl rfl rfl ?_
    refine CW.getr dX12_law_227 fL_X12_50 LA_193 (Or.inr ⟨_, rfl⟩) rfl ?_
    refine PW.iload_n 1 3 dX12_law_230 rfl rfl ?_
    refine PW.aload_n 0 0 dX12_law_231 rfl rfl rfl ?_
    refine CW.getr dX12_law_232 fL_X12_68 LA_193 (Or.inr ⟨_, rfl⟩) rfl ?_
    refine PW.iload_n 1 3 dX12_law_235 rfl rfl ?_
    refine CW.iald dX12_law_236 LA_213 c15 ?_
    refine CW.iast dX12_law_237 LA_207 c15 ?_
    obtain ⟨s17, es17, h⟩ := sbnd h
    refine PW.sbe es17 ?_
    clear es17
    refine PW.iinc (v := (x3 + (1 : Int32))) 1 dX12_law_238 rfl (by first | rfl | decide) (Nat.le_of_ble_eq_true rfl) rfl ?_
    refine PW.goto (tgt := 206) dX12_law_241 (by decide) ?_
    cases h
    exact PW.pick [1, 0] rfl hx
def w_X12_law_206 (N : Nat) (x3 : Int32) (s : cS) : Option (Int32 × cS) := itr (fun (v : Int32 × cS) => b_X12_law_206 v.1 v.2) N (x3, s)
theorem ok_w_X12_law_206 {g : pG} {l : Launch} {F : pF} {N : Nat} {x3 : Int32} {s : cS} {x : (Int32 × cS)} (h : w_X12_law_206 N x3 s = some x) (hx : (fun q => F = pE g (some (.int q.1)) (tS q.2) 0 0) x) : PW g l (pRoom 9 0 0) M_X12_law F 206 [(0, .ref 193), (3, .int x3)] [] (tS s) 0 0 :=
  okIter (P := (fun (v : Int32 × cS) => PW g l (pRoom 9 0 0) M_X12_law F 206 [(0, .ref 193), (3, .int v.1)] [] (tS v.2) 0 0)) (K := (fun q => F = pE g (some (.int q.1)) (tS q.2) 0 0)) (fun v y hB hy => ok_b_X12_law_206 hB hy) N (x3, s) x h hx
def b_X12_law_142 (N : Nat) (x3 : Int32) (s : cS) : Option ((Int32 × cS) ⊕ (Int32 × cS)) :=
  if (iG s 193 31) ≤ x3 then
    oR (
      w_X12_law_206 N (0 : Int32) s)
  else
    if inb x3 12 then
    sb (iS s 202 x3.toNatClampNeg (iG s 208 x3.toNatClampNeg)) fun s19 =>
    sb (iS s19 203 x3.toNatClampNeg (iG s19 209 x3.toNatClampNeg)) fun s20 =>
    sb (iS s20 204 x3.toNatClampNeg (iG s20 210 x3.toNatClampNeg)) fun s21 =>
    sb (iS s21 205 x3.toNatClampNeg (iG s21 211 x3.toNatClampNeg)) fun s22 =>
    some (.inl ((x3 + (1 : Int32)), s22))
    else none
set_option maxRecDepth 20000 in
set_option maxHeartbeats 4000000 in
theorem ok_b_X12_law_142 {g : pG} {l : Launch} {F : pF} {N : Nat} {x3 : Int32} {s : cS} {x : ((Int32 × cS) ⊕ (Int32 × cS))} (h : b_X12_law_142 N x3 s = some x) (hx : (KL (fun (v : Int32 × cS) => PW g l (pRoom 9 0 0) M_X12_law F 142 [(0, .ref 193), (3, .int v.1)] [] (tS v.2) 0 0) (fun q => F = pE g (some (.int q.1)) (tS q.2) 0 0)) x) : PW g l (pRoom 9 0 0) M_X12_law F 142 [(0, .ref 193), (3, .int x3)] [] (tS s) 0 0 := by
  unfold b_X12_law_142 at h
  refine PW.iload_n 1 3 dX12_law_142 rfl rfl ?_
  refine PW.aload_n 0 0 dX12_law_143 rfl rfl rfl ?_
  refine CW.geti dX12_law_144 fL_X12_288 LA_193 (Or.inl rfl) ?_
  refine PW.icmp_ge (tgt := 204) dX12_law_147 (by decide) (fun c12 => ?_) (fun c12 => ?_)
  · replace h := ifp h c12
    obtain ⟨xo, hy, hxo⟩ := oRb h
    clear h
    subst hxo
    replace hx := KLr hx
    have h := hy
    clear hy
    refine PW.iconst (v := 0) dX12_law_204 (by decide) ?_
    refine PW.istore_n dX12_law_205 rfl (Nat.le_of_ble_eq_true rfl) rfl ?_
    exact PW.pick [1, 0] rfl (ok_w_X12_law_206 h hx)
  · replace h := ifn h c12
    refine PW.aload_n 0 0 dX12_law_150 rfl rfl rfl ?_
    refine CW.getr dX12_law_151 fL_X12_35 LA_193 (Or.inr ⟨_, rfl⟩) rfl ?_
    refine PW.iload_n 1 3 dX12_law_154 rfl rfl ?_
    refine PW.aload_n 0 0 dX12_law_155 rfl rfl rfl ?_
    refine CW.getr dX12_law_156 fL_X12_53 LA_193 (Or.inr ⟨_, rfl⟩) rfl ?_
    refine PW.iload_n 1 3 dX12_law_159 rfl rfl ?_
    by_cases c18 : inb x3 12
    rotate_left
    · have h := ifn h c18; cases h
    replace h := ifp h c18
    refine CW.iald dX12_law_160 LA_208 c18 ?_
    refine CW.iast dX12_law_161 LA_202 c18 ?_
    obtain ⟨s19, es19, h⟩ := sbnd h
    refine PW.sbe es19 ?_
    clear es19
    refine PW.aload_n 0 0 dX12_law_162 rfl rfl rfl ?_
    refine CW.getr dX12_law_163 fL_X12_38 LA_193 (Or.inr ⟨_, rfl⟩) rfl ?_
    refine PW.iload_n 1 3 dX12_law_166 rfl rfl ?_
    refine PW.aload_n 0 0 dX12_law_167 rfl rfl rfl ?_
    refine CW.getr dX12_law_168 fL_X12_56 LA_193 (Or.inr ⟨_, rfl⟩) rfl ?_
    refine PW.iload_n 1 3 dX12_law_171 rfl rfl ?_
    refine CW.iald dX12_law_172 LA_209 c18 ?_
    refine CW.iast dX12_law_173 LA_203 c18 ?_
    obtain ⟨s20, es20, h⟩ := sbnd h
    refine PW.sbe es20 ?_
    clear es20
    refine PW.aload_n 0 0 dX12_law_174 rfl rfl rfl ?_
    refine CW.getr dX12_law_175 fL_X12_41 LA_193 (Or.inr ⟨_, rfl⟩) rfl ?_
    refine PW.iload_n 1 3 dX12_law_178 rfl rfl ?_
    refine PW.aload_n 0 0 dX12_law_179 rfl rfl rfl ?_
    refine CW.getr dX12_law_180 fL_X12_59 LA_193 (Or.inr ⟨_, rfl⟩) rfl ?_
    refine PW.iload_n 1 3 dX12_law_183 rfl rfl ?_
    refine CW.iald dX12_law_184 LA_210 c18 ?_
    refine CW.iast dX12_law_185 LA_204 c18 ?_
    obtain ⟨s21, es21, h⟩ := sbnd h
    refine PW.sbe es21 ?_
    clear es21
    refine PW.aload_n 0 0 dX12_law_186 rfl rfl rfl ?_
    refine CW.getr dX12_law_187 fL_X12_44 LA_193 (Or.inr ⟨_, rfl⟩) rfl ?_
    refine PW.iload_n 1 3 dX12_law_190 rfl rfl ?_
    refine PW.aload_n 0 0 dX12_law_191 rfl rfl rfl ?_
    refine CW.getr dX12_law_192 fL_X12_62 LA_193 (Or.inr ⟨_, rfl⟩) rfl ?_
    refine PW.iload_n 1 3 dX12_law_195 rfl rfl ?_
    refine CW.iald dX12_law_196 LA_211 c18 ?_
    refine CW.iast dX12_law_197 LA_205 c18 ?_
    obtain ⟨s22, es22, h⟩ := sbnd h
    refine PW.sbe es22 ?_
    clear es22
    refine PW.iinc (v := (x3 + (1 : Int32))) 1 dX12_law_198 rfl (by first | rfl | decide) (Nat.le_of_ble_eq_true rfl) rfl ?_
    refine PW.goto (tgt := 142) dX12_law_201 (by decide) ?_
    cases h
    exact PW.pick [1, 0] rfl hx
def w_X12_law_142 (N : Nat) (x3 : Int32) (s : cS) : Option (Int32 × cS) := itr (fun (v : Int32 × cS) => b_X12_law_142 N v.1 v.2) N (x3, s)
theorem ok_w_X12_law_142 {g : pG} {l : Launch} {F : pF} {N : Nat} {x3 : Int32} {s : cS} {x : (Int32 × cS)} (h : w_X12_law_142 N x3 s = some x) (hx : (fun q => F = pE g (some (.int q.1)) (tS q.2) 0 0) x) : PW g l (pRoom 9 0 0) M_X12_law F 142 [(0, .ref 193), (3, .int x3)] [] (tS s) 0 0 :=
  okIter (P := (fun (v : Int32 × cS) => PW g l (pRoom 9 0 0) M_X12_law F 142 [(0, .ref 193), (3, .int v.1)] [] (tS v.2) 0 0)) (K := (fun q => F = pE g (some (.int q.1)) (tS q.2) 0 0)) (fun v y hB hy => ok_b_X12_law_142 hB hy) N (x3, s) x h hx
def j_X12_law_128 (N : Nat) (s : cS) : Option (Int32 × cS) :=
  if 0 ≤ (iG s 193 30) then
    w_X12_law_142 N (0 : Int32) s
  else
    some (((iG s 193 30), s))
set_option maxRecDepth 20000 in
set_option maxHeartbeats 4000000 in
theorem ok_j_X12_law_128 {g : pG} {l : Launch} {F : pF} {N : Nat} {s : cS} {x : (Int32 × cS)} (h : j_X12_law_128 N s = some x) (hx : (fun q => F = pE g (some (.int q.1)) (tS q.2) 0 0) x) : PW g l (pRoom 9 0 0) M_X12_law F 128 [(0, .ref 193)] [] (tS s) 0 0 := by
  unfold j_X12_law_128 at h
  refine PW.aload_n 0 0 dX12_law_128 rfl rfl rfl ?_
  refine CW.geti dX12_law_129 fL_X12_198 LA_193 (Or.inl rfl) ?_
  refine PW.if_ge (tgt := 140) dX12_law_132 (by decide) (fun c11 => ?_) (fun c11 => ?_)
  · replace h := ifp h c11
    refine PW.iconst (v := 0) dX12_law_140 (by decide) ?_
    refine PW.istore_n dX12_law_141 rfl (Nat.le_of_ble_eq_true rfl) rfl ?_
    exact PW.pick [1, 0] rfl (ok_w_X12_law_142 h hx)
  · replace h := ifn h c11
    refine PW.aload_n 0 0 dX12_law_135 rfl rfl rfl ?_
    refine CW.geti dX12_law_136 fL_X12_198 LA_193 (Or.inl rfl) ?_
    cases h
    subst hx
    exact PW.iret (v := (iG s 193 30)) dX12_law_139 rfl rfl (Nat.le_refl 0) (Nat.le_refl 0)
def j_X12_law_115 (x2 : Int32) (s : cS) : Option ((Int32 × cS) ⊕ (Int32 × cS)) :=
  sb (iS s 193 28 ((iG s 193 28) + (1 : Int32))) fun s35 =>
  some (.inl (x2, s35))
set_option maxRecDepth 20000 in
set_option maxHeartbeats 4000000 in
theorem ok_j_X12_law_115 {g : pG} {l : Launch} {F : pF} {x2 : Int32} {s : cS} {x : ((Int32 × cS) ⊕ (Int32 × cS))} (h : j_X12_law_115 x2 s = some x) (hx : (KL (fun (v : Int32 × cS) => PW g l (pRoom 9 0 0) M_X12_law F 54 [(0, .ref 193), (2, .int v.1)] [] (tS v.2) 0 0) (fun q => F = pE g (some (.int q.1)) (tS q.2) 0 0)) x) : PW g l (pRoom 9 0 0) M_X12_law F 115 [(0, .ref 193), (2, .int x2)] [] (tS s) 0 0 := by
  unfold j_X12_law_115 at h
  refine PW.aload_n 0 0 dX12_law_115 rfl rfl rfl ?_
  refine PW.dup dX12_law_116 rfl ?_
  refine CW.geti dX12_law_117 fL_X12_192 LA_193 (Or.inl rfl) ?_
  refine PW.iconst (v := 1) dX12_law_120 (by decide) ?_
  refine PW.iadd dX12_law_121 ?_
  refine CW.puti dX12_law_122 fL_X12_192 rfl LA_193 rfl ?_
  obtain ⟨s35, es35, h⟩ := sbnd h
  refine PW.sbe es35 ?_
  clear es35
  refine PW.goto (tgt := 54) dX12_law_125 (by decide) ?_
  cases h
  exact PW.pick [0, 1] rfl hx
def j_X12_law_92 (y0 : Int32) (s : cS) : Option ((Int32 × cS) ⊕ (Int32 × cS)) :=
  if y0 = 0 then
    some (.inl (y0, s))
  else
    ob (f_X12_here s) fun r31 s32 =>
    if r31 = (59 : Int32) then
      j_X12_law_115 y0 s32
    else
      tb (f_X12_wrongs (1 : Int32) (iG s32 193 28) s32) fun r36 s37 =>
      j_X12_law_115 y0 s37
set_option maxRecDepth 20000 in
set_option maxHeartbeats 4000000 in
theorem ok_j_X12_law_92 {g : pG} {l : Launch} {F : pF} {y0 : Int32} {s : cS} {x : ((Int32 × cS) ⊕ (Int32 × cS))} (h : j_X12_law_92 y0 s = some x) (hx : (KL (fun (v : Int32 × cS) => PW g l (pRoom 9 0 0) M_X12_law F 54 [(0, .ref 193), (2, .int v.1)] [] (tS v.2) 0 0) (fun q => F = pE g (some (.int q.1)) (tS q.2) 0 0)) x) : PW g l (pRoom 9 0 0) M_X12_law F 92 [(0, .ref 193)] [.int y0] (tS s) 0 0 := by
  unfold j_X12_law_92 at h
  refine PW.istore_n dX12_law_92 rfl (Nat.le_of_ble_eq_true rfl) rfl ?_
  refine PW.iload_n 0 2 dX12_law_93 rfl rfl ?_
  refine PW.if_eq (tgt := 54) dX12_law_94 (by decide) (fun c30 => ?_) (fun c30 => ?_)
  · replace h := ifp h c30
    cases h
    exact PW.pick [1, 0] rfl hx
  · replace h := ifn h c30
    refine PW.aload_n 1 0 dX12_law_97 rfl rfl rfl ?_
    obtain ⟨r31, s32, q33, h⟩ := obnd h
    refine CW.callVi (ci := 12) (st := []) [] dX12_law_98 (p_X12_here q33) MV_X12_here mL_X12_218 (by decide) rfl LA_193 rfl rfl (Nat.le_of_ble_eq_true rfl) (by first | decide | omega) ?_
    refine PW.bipush (v := 59) dX12_law_101 (by decide) ?_
    refine PW.icmp_eq (tgt := 115) dX12_law_103 (by decide) (fun c34 => ?_) (fun c34 => ?_)
    · replace h := ifp h c34
      exact PW.pick [1, 0] rfl (ok_j_X12_law_115 h hx)
    · replace h := ifn h c34
      refine PW.aload_n 1 0 dX12_law_106 rfl rfl rfl ?_
      refine PW.iconst (v := 1) dX12_law_107 (by decide) ?_
      refine PW.aload_n 1 0 dX12_law_108 rfl rfl rfl ?_
      refine CW.geti dX12_law_109 fL_X12_192 LA_193 (Or.inl rfl) ?_
      obtain ⟨r36, s37, q38, h⟩ := tbnd h
      refine CW.callVv (ci := 12) (st := []) [.int (1 : Int32), .int (iG s32 193 28)] dX12_law_112 (p_X12_wrongs q38) MV_X12_wrongs mL_X12_214 (by decide) rfl LA_193 rfl rfl (Nat.le_of_ble_eq_true rfl) (by first | decide | omega) ?_
      exact PW.pick [1, 0] rfl (ok_j_X12_law_115 h hx)
def j_X12_law_91 (s : cS) : Option ((Int32 × cS) ⊕ (Int32 × cS)) :=
  j_X12_law_92 (0 : Int32) s
set_option maxRecDepth 20000 in
set_option maxHeartbeats 4000000 in
theorem ok_j_X12_law_91 {g : pG} {l : Launch} {F : pF} {s : cS} {x : ((Int32 × cS) ⊕ (Int32 × cS))} (h : j_X12_law_91 s = some x) (hx : (KL (fun (v : Int32 × cS) => PW g l (pRoom 9 0 0) M_X12_law F 54 [(0, .ref 193), (2, .int v.1)] [] (tS v.2) 0 0) (fun q => F = pE g (some (.int q.1)) (tS q.2) 0 0)) x) : PW g l (pRoom 9 0 0) M_X12_law F 91 [(0, .ref 193)] [] (tS s) 0 0 := by
  unfold j_X12_law_91 at h
  refine PW.iconst (v := 0) dX12_law_91 (by decide) ?_
  exact PW.pick [0] rfl (ok_j_X12_law_92 h hx)
def b_X12_law_54 (N : Nat) (x2 : Int32) (s : cS) : Option ((Int32 × cS) ⊕ (Int32 × cS)) :=
  if x2 = 0 then
    oR (
      j_X12_law_128 N s)
  else
    if (f_X12_isGood s) = 0 then
      oR (
        j_X12_law_128 N s)
    else
      ob (f_X12_clause N s) fun r25 s26 =>
      if (f_X12_isGood s26) = 0 then
        j_X12_law_91 s26
      else
        if (iG s26 193 29) ≤ (iG s26 193 28) then
          j_X12_law_91 s26
        else
          j_X12_law_92 (1 : Int32) s26
set_option maxRecDepth 20000 in
set_option maxHeartbeats 4000000 in
theorem ok_b_X12_law_54 {g : pG} {l : Launch} {F : pF} {N : Nat} {x2 : Int32} {s : cS} {x : ((Int32 × cS) ⊕ (Int32 × cS))} (h : b_X12_law_54 N x2 s = some x) (hx : (KL (fun (v : Int32 × cS) => PW g l (pRoom 9 0 0) M_X12_law F 54 [(0, .ref 193), (2, .int v.1)] [] (tS v.2) 0 0) (fun q => F = pE g (some (.int q.1)) (tS q.2) 0 0)) x) : PW g l (pRoom 9 0 0) M_X12_law F 54 [(0, .ref 193), (2, .int x2)] [] (tS s) 0 0 := by
  unfold b_X12_law_54 at h
  refine PW.iload_n 1 2 dX12_law_54 rfl rfl ?_
  refine PW.if_eq (tgt := 128) dX12_law_55 (by decide) (fun c10 => ?_) (fun c10 => ?_)
  · replace h := ifp h c10
    obtain ⟨xo, hy, hxo⟩ := oRb h
    clear h
    subst hxo
    replace hx := KLr hx
    have h := hy
    clear hy
    exact PW.pick [0] rfl (ok_j_X12_law_128 h hx)
  · replace h := ifn h c10
    refine PW.aload_n 0 0 dX12_law_58 rfl rfl rfl ?_
    refine CW.callVi (ci := 12) (st := []) [] dX12_law_59 (p_X12_isGood rfl) MV_X12_isGood mL_X12_201 (by decide) rfl LA_193 rfl rfl (Nat.le_of_ble_eq_true rfl) (by first | decide | omega) ?_
    refine PW.if_eq (tgt := 128) dX12_law_62 (by decide) (fun c24 => ?_) (fun c24 => ?_)
    · replace h := ifp h c24
      obtain ⟨xo, hy, hxo⟩ := oRb h
      clear h
      subst hxo
      replace hx := KLr hx
      have h := hy
      clear hy
      exact PW.pick [0] rfl (ok_j_X12_law_128 h hx)
    · replace h := ifn h c24
      refine PW.aload_n 0 0 dX12_law_65 rfl rfl rfl ?_
      obtain ⟨r25, s26, q27, h⟩ := obnd h
      refine CW.callVv (ci := 12) (st := []) [] dX12_law_66 (p_X12_clause q27) MV_X12_clause mL_X12_296 (by decide) rfl LA_193 rfl rfl (Nat.le_of_ble_eq_true rfl) (by first | decide | omega) ?_
      refine PW.aload_n 0 0 dX12_law_69 rfl rfl rfl ?_
      refine CW.callVi (ci := 12) (st := []) [] dX12_law_70 (p_X12_isGood rfl) MV_X12_isGood mL_X12_201 (by decide) rfl LA_193 rfl rfl (Nat.le_of_ble_eq_true rfl) (by first | decide | omega) ?_
      refine PW.if_eq (tgt := 91) dX12_law_73 (by decide) (fun c29 => ?_) (fun c29 => ?_)
      · replace h := ifp h c29
        exact PW.pick [0] rfl (ok_j_X12_law_91 h hx)
      · replace h := ifn h c29
        refine PW.aload_n 0 0 dX12_law_76 rfl rfl rfl ?_
        refine CW.geti dX12_law_77 fL_X12_192 LA_193 (Or.inl rfl) ?_
        refine PW.aload_n 0 0 dX12_law_80 rfl rfl rfl ?_
        refine CW.geti dX12_law_81 fL_X12_195 LA_193 (Or.inl rfl) ?_
        refine PW.icmp_ge (tgt := 91) dX12_law_84 (by decide) (fun c39 => ?_) (fun c39 => ?_)
        · replace h := ifp h c39
          exact PW.pick [0] rfl (ok_j_X12_law_91 h hx)
        · replace h := ifn h c39
          refine PW.iconst (v := 1) dX12_law_87 (by decide) ?_
          refine PW.goto (tgt := 92) dX12_law_88 (by decide) ?_
          exact PW.pick [0] rfl (ok_j_X12_law_92 h hx)
def w_X12_law_54 (N : Nat) (x2 : Int32) (s : cS) : Option (Int32 × cS) := itr (fun (v : Int32 × cS) => b_X12_law_54 N v.1 v.2) N (x2, s)
theorem ok_w_X12_law_54 {g : pG} {l : Launch} {F : pF} {N : Nat} {x2 : Int32} {s : cS} {x : (Int32 × cS)} (h : w_X12_law_54 N x2 s = some x) (hx : (fun q => F = pE g (some (.int q.1)) (tS q.2) 0 0) x) : PW g l (pRoom 9 0 0) M_X12_law F 54 [(0, .ref 193), (2, .int x2)] [] (tS s) 0 0 :=
  okIter (P := (fun (v : Int32 × cS) => PW g l (pRoom 9 0 0) M_X12_law F 54 [(0, .ref 193), (2, .int v.1)] [] (tS v.2) 0 0)) (K := (fun q => F = pE g (some (.int q.1)) (tS q.2) 0 0)) (fun v y hB hy => ok_b_X12_law_54 hB hy) N (x2, s) x h hx
def f_X12_law (N : Nat) (a0 : Int32) (s : cS) : Option (Int32 × cS) :=
  if (lIn a0.toInt64 (1 : Int64) (160 : Int64)) = 0 then
    some (((-1 : Int32), s))
  else
    if a0 ≤ (iG s 193 1) then
      sb (iS s 193 1 (0 : Int32)) fun s4 =>
      sb (iS s4 193 28 (0 : Int32)) fun s5 =>
      sb (iS s5 193 29 a0) fun s6 =>
      sb (iS s6 193 30 (0 : Int32)) fun s7 =>
      sb (iS s7 193 31 (0 : Int32)) fun s8 =>
      sb (iS s8 193 32 (0 : Int32)) fun s9 =>
      w_X12_law_54 N (1 : Int32) s9
    else
      some (((-1 : Int32), s))
set_option maxRecDepth 20000 in
set_option maxHeartbeats 4000000 in
theorem p_X12_law {g : pG} {l : Launch} {N : Nat} {a0 : Int32} {s : cS} {q : Int32 × cS} (h : f_X12_law N a0 s = some q) : PM g l 9 M_X12_law [.ref 193, .int a0] (tS s) (some (.int q.1)) (tS q.2) 0 0 := by
  refine PM.of (by decide +kernel) (Nat.le_of_ble_eq_true rfl) ?_
  show PW g l (pRoom 9 0 0) M_X12_law _ 0 [(0, .ref 193), (1, .int a0)] [] (tS s) 0 0
  unfold f_X12_law at h
  generalize hF : pE g (some (.int q.1)) (tS q.2) 0 0 = F
  have hx := hF.symm
  refine PW.iload_n 1 1 dX12_law_0 rfl rfl ?_
  refine PW.i2l dX12_law_1 ?_
  refine PW.lconst (v := 1) dX12_law_2 (by decide) ?_
  refine PW.ldc2_w dX12_law_3 kL_X12_294 ?_
  refine CW.callSi (st := []) [.long a0.toInt64, .long (1 : Int64), .long (160 : Int64)] dX12_law_6 (ps_isIn rfl) MS_X12_isIn mL_X12_164 rfl rfl (Nat.le_of_ble_eq_true rfl) (by first | decide | omega) ?_
  refine PW.if_eq (tgt := 20) dX12_law_9 (by decide) (fun c2 => ?_) (fun c2 => ?_)
  · replace h := ifp h c2
    refine PW.iconst (v := (-1)) dX12_law_20 (by decide) ?_
    cases h
    subst hx
    exact PW.iret (v := (-1 : Int32)) dX12_law_21 rfl rfl (Nat.le_refl 0) (Nat.le_refl 0)
  · replace h := ifn h c2
    refine PW.iload_n 1 1 dX12_law_12 rfl rfl ?_
    refine PW.aload_n 0 0 dX12_law_13 rfl rfl rfl ?_
    refine CW.geti dX12_law_14 fL_X12_185 LA_193 (Or.inl rfl) ?_
    refine PW.icmp_le (tgt := 22) dX12_law_17 (by decide) (fun c3 => ?_) (fun c3 => ?_)
    · replace h := ifp h c3
      refine PW.aload_n 0 0 dX12_law_22 rfl rfl rfl ?_
      refine PW.iconst (v := 0) dX12_law_23 (by decide) ?_
      refine CW.puti dX12_law_24 fL_X12_185 rfl LA_193 rfl ?_
      obtain ⟨s4, es4, h⟩ := sbnd h
      refine PW.sbe es4 ?_
      clear es4
      refine PW.aload_n 0 0 dX12_law_27 rfl rfl rfl ?_
      refine PW.iconst (v := 0) dX12_law_28 (by decide) ?_
      refine CW.puti dX12_law_29 fL_X12_192 rfl LA_193 rfl ?_
      obtain ⟨s5, es5, h⟩ := sbnd h
      refine PW.sbe es5 ?_
      clear es5
      refine PW.aload_n 0 0 dX12_law_32 rfl rfl rfl ?_
      refine PW.iload_n 1 1 dX12_law_33 rfl rfl ?_
      refine CW.puti dX12_law_34 fL_X12_195 rfl LA_193 rfl ?_
      obtain ⟨s6, es6, h⟩ := sbnd h
      refine PW.sbe es6 ?_
      clear es6
      refine PW.aload_n 0 0 dX12_law_37 rfl rfl rfl ?_
      refine PW.iconst (v := 0) dX12_law_38 (by decide) ?_
      refine CW.puti dX12_law_39 fL_X12_198 rfl LA_193 rfl ?_
      obtain ⟨s7, es7, h⟩ := sbnd h
      refine PW.sbe es7 ?_
      clear es7
      refine PW.aload_n 0 0 dX12_law_42 rfl rfl rfl ?_
      refine PW.iconst (v := 0) dX12_law_43 (by decide) ?_
      refine CW.puti dX12_law_44 fL_X12_288 rfl LA_193 rfl ?_
      obtain ⟨s8, es8, h⟩ := sbnd h
      refine PW.sbe es8 ?_
      clear es8
      refine PW.aload_n 0 0 dX12_law_47 rfl rfl rfl ?_
      refine PW.iconst (v := 0) dX12_law_48 (by decide) ?_
      refine CW.puti dX12_law_49 fL_X12_205 rfl LA_193 rfl ?_
      obtain ⟨s9, es9, h⟩ := sbnd h
      refine PW.sbe es9 ?_
      clear es9
      refine PW.iconst (v := 1) dX12_law_52 (by decide) ?_
      refine PW.istore_n dX12_law_53 rfl (Nat.le_of_ble_eq_true rfl) rfl ?_
      exact PW.pick [1, 0] rfl (ok_w_X12_law_54 h hx)
    · replace h := ifn h c3
      refine PW.iconst (v := (-1)) dX12_law_20 (by decide) ?_
      cases h
      subst hx
      exact PW.iret (v := (-1 : Int32)) dX12_law_21 rfl rfl (Nat.le_refl 0) (Nat.le_refl 0)
/-! X12_valueOf -/
def f_X12_valueOf (a0 : Int32) (s : cS) : Option (Int32 × cS) :=
  if a0 = 99 then
    some (((iG s 193 38), s))
  else
  if a0 = 104 then
    some (((iG s 193 42), s))
  else
  if a0 = 107 then
    if inb (iG s 193 38) 8 then
    some (((iG s 195 (iG s 193 38).toNatClampNeg), s))
    else none
  else
  if a0 = 108 then
    some (((iG s 193 43), s))
  else
  if a0 = 110 then
    some (((iG s 193 40), s))
  else
  if a0 = 112 then
    some (((iG s 193 39), s))
  else
  if a0 = 113 then
    some (((iG s 193 41), s))
  else
  if a0 = 114 then
    if inb (iG s 193 38) 8 then
    some (((iG s 196 (iG s 193 38).toNatClampNeg), s))
    else none
  else
  if a0 = 116 then
    if inb (iG s 193 38) 8 then
    some (((iG s 197 (iG s 193 38).toNatClampNeg), s))
    else none
  else
  some (((iG s 193 44), s))
set_option maxRecDepth 20000 in
set_option maxHeartbeats 4000000 in
theorem p_X12_valueOf {g : pG} {l : Launch} {a0 : Int32} {s : cS} {q : Int32 × cS} (h : f_X12_valueOf a0 s = some q) : PM g l 1 M_X12_valueOf [.ref 193, .int a0] (tS s) (some (.int q.1)) (tS q.2) 0 0 := by
  refine PM.of (by decide +kernel) (Nat.le_of_ble_eq_true rfl) ?_
  show PW g l (pRoom 1 0 0) M_X12_valueOf _ 0 [(0, .ref 193), (1, .int a0)] [] (tS s) 0 0
  unfold f_X12_valueOf at h
  generalize hF : pE g (some (.int q.1)) (tS q.2) 0 0 = F
  have hx := hF.symm
  refine PW.iload_n 1 1 dX12_valueOf_0 rfl rfl ?_
  by_cases c4 : a0 = 99
  · replace h := ifp h c4
    refine PW.tswI (off := 122) (tgt := 123) dX12_valueOf_1 (by rw [c4]; decide) (by rw [c4]; decide) (by rw [c4]; first | rfl | decide) (by decide) ?_
    refine PW.aload_n 0 0 dX12_valueOf_123 rfl rfl rfl ?_
    refine CW.geti dX12_valueOf_124 fL_X12_305 LA_193 (Or.inl rfl) ?_
    cases h
    subst hx
    exact PW.iret (v := (iG s 193 38)) dX12_valueOf_127 rfl rfl (Nat.le_refl 0) (Nat.le_refl 0)
  replace h := ifn h c4
  by_cases c5 : a0 = 104
  · replace h := ifp h c5
    refine PW.tswI (off := 137) (tgt := 138) dX12_valueOf_1 (by rw [c5]; decide) (by rw [c5]; decide) (by rw [c5]; first | rfl | decide) (by decide) ?_
    refine PW.aload_n 0 0 dX12_valueOf_138 rfl rfl rfl ?_
    refine CW.geti dX12_valueOf_139 fL_X12_314 LA_193 (Or.inl rfl) ?_
    cases h
    subst hx
    exact PW.iret (v := (iG s 193 42)) dX12_valueOf_142 rfl rfl (Nat.le_refl 0) (Nat.le_refl 0)
  replace h := ifn h c5
  by_cases c6 : a0 = 107
  · replace h := ifp h c6
    refine PW.tswI (off := 112) (tgt := 113) dX12_valueOf_1 (by rw [c6]; decide) (by rw [c6]; decide) (by rw [c6]; first | rfl | decide) (by decide) ?_
    refine PW.aload_n 0 0 dX12_valueOf_113 rfl rfl rfl ?_
    refine CW.getr dX12_valueOf_114 fL_X12_13 LA_193 (Or.inr ⟨_, rfl⟩) rfl ?_
    refine PW.aload_n 0 0 dX12_valueOf_117 rfl rfl rfl ?_
    refine CW.geti dX12_valueOf_118 fL_X12_305 LA_193 (Or.inl rfl) ?_
    by_cases c1 : inb (iG s 193 38) 8
    rotate_left
    · have h := ifn h c1; cases h
    replace h := ifp h c1
    refine CW.iald dX12_valueOf_121 LA_195 c1 ?_
    cases h
    subst hx
    exact PW.iret (v := (iG s 195 (iG s 193 38).toNatClampNeg)) dX12_valueOf_122 rfl rfl (Nat.le_refl 0) (Nat.le_refl 0)
  replace h := ifn h c6
  by_cases c7 : a0 = 108
  · replace h := ifp h c7
    refine PW.tswI (off := 142) (tgt := 143) dX12_valueOf_1 (by rw [c7]; decide) (by rw [c7]; decide) (by rw [c7]; first | rfl | decide) (by decide) ?_
    refine PW.aload_n 0 0 dX12_valueOf_143 rfl rfl rfl ?_
    refine CW.geti dX12_valueOf_144 fL_X12_317 LA_193 (Or.inl rfl) ?_
    cases h
    subst hx
    exact PW.iret (v := (iG s 193 43)) dX12_valueOf_147 rfl rfl (Nat.le_refl 0) (Nat.le_refl 0)
  replace h := ifn h c7
  by_cases c8 : a0 = 110
  · replace h := ifp h c8
    refine PW.tswI (off := 127) (tgt := 128) dX12_valueOf_1 (by rw [c8]; decide) (by rw [c8]; decide) (by rw [c8]; first | rfl | decide) (by decide) ?_
    refine PW.aload_n 0 0 dX12_valueOf_128 rfl rfl rfl ?_
    refine CW.geti dX12_valueOf_129 fL_X12_308 LA_193 (Or.inl rfl) ?_
    cases h
    subst hx
    exact PW.iret (v := (iG s 193 40)) dX12_valueOf_132 rfl rfl (Nat.le_refl 0) (Nat.le_refl 0)
  replace h := ifn h c8
  by_cases c9 : a0 = 112
  · replace h := ifp h c9
    refine PW.tswI (off := 87) (tgt := 88) dX12_valueOf_1 (by rw [c9]; decide) (by rw [c9]; decide) (by rw [c9]; first | rfl | decide) (by decide) ?_
    refine PW.aload_n 0 0 dX12_valueOf_88 rfl rfl rfl ?_
    refine CW.geti dX12_valueOf_89 fL_X12_302 LA_193 (Or.inl rfl) ?_
    cases h
    subst hx
    exact PW.iret (v := (iG s 193 39)) dX12_valueOf_92 rfl rfl (Nat.le_refl 0) (Nat.le_refl 0)
  replace h := ifn h c9
  by_cases c10 : a0 = 113
  · replace h := ifp h c10
    refine PW.tswI (off := 132) (tgt := 133) dX12_valueOf_1 (by rw [c10]; decide) (by rw [c10]; decide) (by rw [c10]; first | rfl | decide) (by decide) ?_
    refine PW.aload_n 0 0 dX12_valueOf_133 rfl rfl rfl ?_
    refine CW.geti dX12_valueOf_134 fL_X12_311 LA_193 (Or.inl rfl) ?_
    cases h
    subst hx
    exact PW.iret (v := (iG s 193 41)) dX12_valueOf_137 rfl rfl (Nat.le_refl 0) (Nat.le_refl 0)
  replace h := ifn h c10
  by_cases c11 : a0 = 114
  · replace h := ifp h c11
    refine PW.tswI (off := 92) (tgt := 93) dX12_valueOf_1 (by rw [c11]; decide) (by rw [c11]; decide) (by rw [c11]; first | rfl | decide) (by decide) ?_
    refine PW.aload_n 0 0 dX12_valueOf_93 rfl rfl rfl ?_
    refine CW.getr dX12_valueOf_94 fL_X12_17 LA_193 (Or.inr ⟨_, rfl⟩) rfl ?_
    refine PW.aload_n 0 0 dX12_valueOf_97 rfl rfl rfl ?_
    refine CW.geti dX12_valueOf_98 fL_X12_305 LA_193 (Or.inl rfl) ?_
    by_cases c2 : inb (iG s 193 38) 8
    rotate_left
    · have h := ifn h c2; cases h
    replace h := ifp h c2
    refine CW.iald dX12_valueOf_101 LA_196 c2 ?_
    cases h
    subst hx
    exact PW.iret (v := (iG s 196 (iG s 193 38).toNatClampNeg)) dX12_valueOf_102 rfl rfl (Nat.le_refl 0) (Nat.le_refl 0)
  replace h := ifn h c11
  by_cases c12 : a0 = 116
  · replace h := ifp h c12
    refine PW.tswI (off := 102) (tgt := 103) dX12_valueOf_1 (by rw [c12]; decide) (by rw [c12]; decide) (by rw [c12]; first | rfl | decide) (by decide) ?_
    refine PW.aload_n 0 0 dX12_valueOf_103 rfl rfl rfl ?_
    refine CW.getr dX12_valueOf_104 fL_X12_20 LA_193 (Or.inr ⟨_, rfl⟩) rfl ?_
    refine PW.aload_n 0 0 dX12_valueOf_107 rfl rfl rfl ?_
    refine CW.geti dX12_valueOf_108 fL_X12_305 LA_193 (Or.inl rfl) ?_
    by_cases c3 : inb (iG s 193 38) 8
    rotate_left
    · have h := ifn h c3; cases h
    replace h := ifp h c3
    refine CW.iald dX12_valueOf_111 LA_197 c3 ?_
    cases h
    subst hx
    exact PW.iret (v := (iG s 197 (iG s 193 38).toNatClampNeg)) dX12_valueOf_112 rfl rfl (Nat.le_refl 0) (Nat.le_refl 0)
  replace h := ifn h c12
  by_cases c13 : a0 = 100
  · refine PW.tswI (off := 147) (tgt := 148) dX12_valueOf_1 (by rw [c13]; decide) (by rw [c13]; decide) (by rw [c13]; first | rfl | decide) (by decide) ?_
    refine PW.aload_n 0 0 dX12_valueOf_148 rfl rfl rfl ?_
    refine CW.geti dX12_valueOf_149 fL_X12_320 LA_193 (Or.inl rfl) ?_
    cases h
    subst hx
    exact PW.iret (v := (iG s 193 44)) dX12_valueOf_152 rfl rfl (Nat.le_refl 0) (Nat.le_refl 0)
  by_cases c14 : a0 = 101
  · refine PW.tswI (off := 147) (tgt := 148) dX12_valueOf_1 (by rw [c14]; decide) (by rw [c14]; decide) (by rw [c14]; first | rfl | decide) (by decide) ?_
    refine PW.aload_n 0 0 dX12_valueOf_148 rfl rfl rfl ?_
    refine CW.geti dX12_valueOf_149 fL_X12_320 LA_193 (Or.inl rfl) ?_
    cases h
    subst hx
    exact PW.iret (v := (iG s 193 44)) dX12_valueOf_152 rfl rfl (Nat.le_refl 0) (Nat.le_refl 0)
  by_cases c15 : a0 = 102
  · refine PW.tswI (off := 147) (tgt := 148) dX12_valueOf_1 (by rw [c15]; decide) (by rw [c15]; decide) (by rw [c15]; first | rfl | decide) (by decide) ?_
    refine PW.aload_n 0 0 dX12_valueOf_148 rfl rfl rfl ?_
    refine CW.geti dX12_valueOf_149 fL_X12_320 LA_193 (Or.inl rfl) ?_
    cases h
    subst hx
    exact PW.iret (v := (iG s 193 44)) dX12_valueOf_152 rfl rfl (Nat.le_refl 0) (Nat.le_refl 0)
  by_cases c16 : a0 = 103
  · refine PW.tswI (off := 147) (tgt := 148) dX12_valueOf_1 (by rw [c16]; decide) (by rw [c16]; decide) (by rw [c16]; first | rfl | decide) (by decide) ?_
    refine PW.aload_n 0 0 dX12_valueOf_148 rfl rfl rfl ?_
    refine CW.geti dX12_valueOf_149 fL_X12_320 LA_193 (Or.inl rfl) ?_
    cases h
    subst hx
    exact PW.iret (v := (iG s 193 44)) dX12_valueOf_152 rfl rfl (Nat.le_refl 0) (Nat.le_refl 0)
  by_cases c17 : a0 = 105
  · refine PW.tswI (off := 147) (tgt := 148) dX12_valueOf_1 (by rw [c17]; decide) (by rw [c17]; decide) (by rw [c17]; first | rfl | decide) (by decide) ?_
    refine PW.aload_n 0 0 dX12_valueOf_148 rfl rfl rfl ?_
    refine CW.geti dX12_valueOf_149 fL_X12_320 LA_193 (Or.inl rfl) ?_
    cases h
    subst hx
    exact PW.iret (v := (iG s 193 44)) dX12_valueOf_152 rfl rfl (Nat.le_refl 0) (Nat.le_refl 0)
  by_cases c18 : a0 = 106
  · refine PW.tswI (off := 147) (tgt := 148) dX12_valueOf_1 (by rw [c18]; decide) (by rw [c18]; decide) (by rw [c18]; first | rfl | decide) (by decide) ?_
    refine PW.aload_n 0 0 dX12_valueOf_148 rfl rfl rfl ?_
    refine CW.geti dX12_valueOf_149 fL_X12_320 LA_193 (Or.inl rfl) ?_
    cases h
    subst hx
    exact PW.iret (v := (iG s 193 44)) dX12_valueOf_152 rfl rfl (Nat.le_refl 0) (Nat.le_refl 0)
  by_cases c19 : a0 = 109
  · refine PW.tswI (off := 147) (tgt := 148) dX12_valueOf_1 (by rw [c19]; decide) (by rw [c19]; decide) (by rw [c19]; first | rfl | decide) (by decide) ?_
    refine PW.aload_n 0 0 dX12_valueOf_148 rfl rfl rfl ?_
    refine CW.geti dX12_valueOf_149 fL_X12_320 LA_193 (Or.inl rfl) ?_
    cases h
    subst hx
    exact PW.iret (v := (iG s 193 44)) dX12_valueOf_152 rfl rfl (Nat.le_refl 0) (Nat.le_refl 0)
  by_cases c20 : a0 = 111
  · refine PW.tswI (off := 147) (tgt := 148) dX12_valueOf_1 (by rw [c20]; decide) (by rw [c20]; decide) (by rw [c20]; first | rfl | decide) (by decide) ?_
    refine PW.aload_n 0 0 dX12_valueOf_148 rfl rfl rfl ?_
    refine CW.geti dX12_valueOf_149 fL_X12_320 LA_193 (Or.inl rfl) ?_
    cases h
    subst hx
    exact PW.iret (v := (iG s 193 44)) dX12_valueOf_152 rfl rfl (Nat.le_refl 0) (Nat.le_refl 0)
  by_cases c21 : a0 = 115
  · refine PW.tswI (off := 147) (tgt := 148) dX12_valueOf_1 (by rw [c21]; decide) (by rw [c21]; decide) (by rw [c21]; first | rfl | decide) (by decide) ?_
    refine PW.aload_n 0 0 dX12_valueOf_148 rfl rfl rfl ?_
    refine CW.geti dX12_valueOf_149 fL_X12_320 LA_193 (Or.inl rfl) ?_
    cases h
    subst hx
    exact PW.iret (v := (iG s 193 44)) dX12_valueOf_152 rfl rfl (Nat.le_refl 0) (Nat.le_refl 0)
  have hout : a0.toInt < 99 ∨ 116 < a0.toInt := sw_out (fun k h1 h2 e => by
    have hk : k = 99 ∨ k = 100 ∨ k = 101 ∨ k = 102 ∨ k = 103 ∨ k = 104 ∨ k = 105 ∨ k = 106 ∨ k = 107 ∨ k = 108 ∨ k = 109 ∨ k = 110 ∨ k = 111 ∨ k = 112 ∨ k = 113 ∨ k = 114 ∨ k = 115 ∨ k = 116 := by omega
    rcases hk with rfl | rfl | rfl | rfl | rfl | rfl | rfl | rfl | rfl | rfl | rfl | rfl | rfl | rfl | rfl | rfl | rfl | rfl
    · exact c4 (sw_c e (by decide))
    · exact c13 (sw_c e (by decide))
    · exact c14 (sw_c e (by decide))
    · exact c15 (sw_c e (by decide))
    · exact c16 (sw_c e (by decide))
    · exact c5 (sw_c e (by decide))
    · exact c17 (sw_c e (by decide))
    · exact c18 (sw_c e (by decide))
    · exact c6 (sw_c e (by decide))
    · exact c7 (sw_c e (by decide))
    · exact c19 (sw_c e (by decide))
    · exact c8 (sw_c e (by decide))
    · exact c20 (sw_c e (by decide))
    · exact c9 (sw_c e (by decide))
    · exact c10 (sw_c e (by decide))
    · exact c11 (sw_c e (by decide))
    · exact c21 (sw_c e (by decide))
    · exact c12 (sw_c e (by decide)))
  refine PW.tswD (tgt := 148) dX12_valueOf_1 hout (by decide) ?_
  refine PW.aload_n 0 0 dX12_valueOf_148 rfl rfl rfl ?_
  refine CW.geti dX12_valueOf_149 fL_X12_320 LA_193 (Or.inl rfl) ?_
  cases h
  subst hx
  exact PW.iret (v := (iG s 193 44)) dX12_valueOf_152 rfl rfl (Nat.le_refl 0) (Nat.le_refl 0)
/-! X12_worked -/
def f_X12_worked (a0 : Int32) (a1 : Int32) (a2 : Int32) (s : cS) : Int32 :=
  if a0 = 37 then
    if a2 = 0 then
      (0 : Int32)
    else
      (a1 - a1 / a2 * a2)
  else
  if a0 = 42 then
    (a1 * a2)
  else
  if a0 = 43 then
    (a1 + a2)
  else
  if a0 = 45 then
    (a1 - a2)
  else
  if a0 = 47 then
    if a2 = 0 then
      (0 : Int32)
    else
      (a1 / a2)
  else
  if a0 = 60 then
    if a2 ≤ a1 then
      (0 : Int32)
    else
      (1 : Int32)
  else
  if a0 = 62 then
    if a1 ≤ a2 then
      (0 : Int32)
    else
      (1 : Int32)
  else
  if a1 = a2 then
    (1 : Int32)
  else
    (0 : Int32)
set_option maxRecDepth 20000 in
set_option maxHeartbeats 4000000 in
theorem p_X12_worked {g : pG} {l : Launch} {a0 : Int32} {a1 : Int32} {a2 : Int32} {s : cS} {q : Int32} (h : f_X12_worked a0 a1 a2 s = q) : PM g l 1 M_X12_worked [.int a0, .int a1, .int a2] (tS s) (some (.int q)) (tS s) 0 0 := by
  refine PM.of (by decide +kernel) (Nat.le_of_ble_eq_true rfl) ?_
  show PW g l (pRoom 1 0 0) M_X12_worked _ 0 [(0, .int a0), (1, .int a1), (2, .int a2)] [] (tS s) 0 0
  unfold f_X12_worked at h
  generalize hF : pE g (some (.int q)) (tS s) 0 0 = F
  have hx := hF.symm
  refine PW.iload_n 0 0 dX12_worked_0 rfl rfl ?_
  by_cases c6 : a0 = 37
  · replace h := ifp h c6
    refine PW.lsw (off := 91) (tgt := 92) dX12_worked_1 (by decide) (by rw [c6]; first | rfl | decide) (by decide) ?_
    refine PW.iload_n 2 2 dX12_worked_92 rfl rfl ?_
    refine PW.if_ne (tgt := 100) dX12_worked_93 (by decide) (fun c2 => ?_) (fun c2 => ?_)
    · replace h := ifn h c2
      refine PW.iload_n 1 1 dX12_worked_100 rfl rfl ?_
      refine PW.iload_n 2 2 dX12_worked_101 rfl rfl ?_
      refine PW.irem dX12_worked_102 c2 ?_
      cases h
      subst hx
      exact PW.iret (v := (a1 - a1 / a2 * a2)) dX12_worked_103 rfl rfl (Nat.le_refl 0) (Nat.le_refl 0)
    · replace h := ifp h c2
      refine PW.iconst (v := 0) dX12_worked_96 (by decide) ?_
      refine PW.goto (tgt := 103) dX12_worked_97 (by decide) ?_
      cases h
      subst hx
      exact PW.iret (v := (0 : Int32)) dX12_worked_103 rfl rfl (Nat.le_refl 0) (Nat.le_refl 0)
  replace h := ifn h c6
  by_cases c7 : a0 = 42
  · replace h := ifp h c7
    refine PW.lsw (off := 75) (tgt := 76) dX12_worked_1 (by decide) (by rw [c7]; first | rfl | decide) (by decide) ?_
    refine PW.iload_n 1 1 dX12_worked_76 rfl rfl ?_
    refine PW.iload_n 2 2 dX12_worked_77 rfl rfl ?_
    refine PW.imul dX12_worked_78 ?_
    cases h
    subst hx
    exact PW.iret (v := (a1 * a2)) dX12_worked_79 rfl rfl (Nat.le_refl 0) (Nat.le_refl 0)
  replace h := ifn h c7
  by_cases c8 : a0 = 43
  · replace h := ifp h c8
    refine PW.lsw (off := 67) (tgt := 68) dX12_worked_1 (by decide) (by rw [c8]; first | rfl | decide) (by decide) ?_
    refine PW.iload_n 1 1 dX12_worked_68 rfl rfl ?_
    refine PW.iload_n 2 2 dX12_worked_69 rfl rfl ?_
    refine PW.iadd dX12_worked_70 ?_
    cases h
    subst hx
    exact PW.iret (v := (a1 + a2)) dX12_worked_71 rfl rfl (Nat.le_refl 0) (Nat.le_refl 0)
  replace h := ifn h c8
  by_cases c9 : a0 = 45
  · replace h := ifp h c9
    refine PW.lsw (off := 71) (tgt := 72) dX12_worked_1 (by decide) (by rw [c9]; first | rfl | decide) (by decide) ?_
    refine PW.iload_n 1 1 dX12_worked_72 rfl rfl ?_
    refine PW.iload_n 2 2 dX12_worked_73 rfl rfl ?_
    refine PW.isub dX12_worked_74 ?_
    cases h
    subst hx
    exact PW.iret (v := (a1 - a2)) dX12_worked_75 rfl rfl (Nat.le_refl 0) (Nat.le_refl 0)
  replace h := ifn h c9
  by_cases c10 : a0 = 47
  · replace h := ifp h c10
    refine PW.lsw (off := 79) (tgt := 80) dX12_worked_1 (by decide) (by rw [c10]; first | rfl | decide) (by decide) ?_
    refine PW.iload_n 2 2 dX12_worked_80 rfl rfl ?_
    refine PW.if_ne (tgt := 88) dX12_worked_81 (by decide) (fun c3 => ?_) (fun c3 => ?_)
    · replace h := ifn h c3
      refine PW.iload_n 1 1 dX12_worked_88 rfl rfl ?_
      refine PW.iload_n 2 2 dX12_worked_89 rfl rfl ?_
      refine PW.idiv dX12_worked_90 c3 ?_
      cases h
      subst hx
      exact PW.iret (v := (a1 / a2)) dX12_worked_91 rfl rfl (Nat.le_refl 0) (Nat.le_refl 0)
    · replace h := ifp h c3
      refine PW.iconst (v := 0) dX12_worked_84 (by decide) ?_
      refine PW.goto (tgt := 91) dX12_worked_85 (by decide) ?_
      cases h
      subst hx
      exact PW.iret (v := (0 : Int32)) dX12_worked_91 rfl rfl (Nat.le_refl 0) (Nat.le_refl 0)
  replace h := ifn h c10
  by_cases c11 : a0 = 60
  · replace h := ifp h c11
    refine PW.lsw (off := 103) (tgt := 104) dX12_worked_1 (by decide) (by rw [c11]; first | rfl | decide) (by decide) ?_
    refine PW.iload_n 1 1 dX12_worked_104 rfl rfl ?_
    refine PW.iload_n 2 2 dX12_worked_105 rfl rfl ?_
    refine PW.icmp_ge (tgt := 113) dX12_worked_106 (by decide) (fun c4 => ?_) (fun c4 => ?_)
    · replace h := ifp h c4
      refine PW.iconst (v := 0) dX12_worked_113 (by decide) ?_
      cases h
      subst hx
      exact PW.iret (v := (0 : Int32)) dX12_worked_114 rfl rfl (Nat.le_refl 0) (Nat.le_refl 0)
    · replace h := ifn h c4
      refine PW.iconst (v := 1) dX12_worked_109 (by decide) ?_
      refine PW.goto (tgt := 114) dX12_worked_110 (by decide) ?_
      cases h
      subst hx
      exact PW.iret (v := (1 : Int32)) dX12_worked_114 rfl rfl (Nat.le_refl 0) (Nat.le_refl 0)
  replace h := ifn h c11
  by_cases c12 : a0 = 62
  · replace h := ifp h c12
    refine PW.lsw (off := 114) (tgt := 115) dX12_worked_1 (by decide) (by rw [c12]; first | rfl | decide) (by decide) ?_
    refine PW.iload_n 1 1 dX12_worked_115 rfl rfl ?_
    refine PW.iload_n 2 2 dX12_worked_116 rfl rfl ?_
    refine PW.icmp_le (tgt := 124) dX12_worked_117 (by decide) (fun c5 => ?_) (fun c5 => ?_)
    · replace h := ifp h c5
      refine PW.iconst (v := 0) dX12_worked_124 (by decide) ?_
      cases h
      subst hx
      exact PW.iret (v := (0 : Int32)) dX12_worked_125 rfl rfl (Nat.le_refl 0) (Nat.le_refl 0)
    · replace h := ifn h c5
      refine PW.iconst (v := 1) dX12_worked_120 (by decide) ?_
      refine PW.goto (tgt := 125) dX12_worked_121 (by decide) ?_
      cases h
      subst hx
      exact PW.iret (v := (1 : Int32)) dX12_worked_125 rfl rfl (Nat.le_refl 0) (Nat.le_refl 0)
  replace h := ifn h c12
  refine PW.lsw (off := 125) (tgt := 126) dX12_worked_1 (by decide) (lsw_out (fun q hq e => by
    have hq2 : q = (37, 91) ∨ q = (42, 75) ∨ q = (43, 67) ∨ q = (45, 71) ∨ q = (47, 79) ∨ q = (60, 103) ∨ q = (62, 114) := by simpa using hq
    rcases hq2 with rfl | rfl | rfl | rfl | rfl | rfl | rfl
    · exact c6 (sw_c e (by decide))
    · exact c7 (sw_c e (by decide))
    · exact c8 (sw_c e (by decide))
    · exact c9 (sw_c e (by decide))
    · exact c10 (sw_c e (by decide))
    · exact c11 (sw_c e (by decide))
    · exact c12 (sw_c e (by decide)))) (by decide) ?_
  refine PW.iload_n 1 1 dX12_worked_126 rfl rfl ?_
  refine PW.iload_n 2 2 dX12_worked_127 rfl rfl ?_
  refine PW.icmp_ne (tgt := 135) dX12_worked_128 (by decide) (fun c1 => ?_) (fun c1 => ?_)
  · replace h := ifn h c1
    refine PW.iconst (v := 0) dX12_worked_135 (by decide) ?_
    cases h
    subst hx
    exact PW.iret (v := (0 : Int32)) dX12_worked_136 rfl rfl (Nat.le_refl 0) (Nat.le_refl 0)
  · replace h := ifp h c1
    refine PW.iconst (v := 1) dX12_worked_131 (by decide) ?_
    refine PW.goto (tgt := 136) dX12_worked_132 (by decide) ?_
    cases h
    subst hx
    exact PW.iret (v := (1 : Int32)) dX12_worked_136 rfl rfl (Nat.le_refl 0) (Nat.le_refl 0)
