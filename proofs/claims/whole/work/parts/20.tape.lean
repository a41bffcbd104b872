/-! X9_size -/
def f_X9_size (s : cS) : Int32 :=
  (iG s 1 1)
set_option maxRecDepth 20000 in
set_option maxHeartbeats 4000000 in
theorem p_X9_size {g : pG} {l : Launch} {s : cS} {q : Int32} (h : f_X9_size s = q) : PM g l 1 M_X9_size [.ref 1] (tS s) (some (.int q)) (tS s) 0 0 := by
  refine PM.of (by decide +kernel) (Nat.le_of_ble_eq_true rfl) ?_
  show PW g l (pRoom 1 0 0) M_X9_size _ 0 [(0, .ref 1)] [] (tS s) 0 0
  unfold f_X9_size at h
  generalize hF : pE g (some (.int q)) (tS s) 0 0 = F
  have hx := hF.symm
  refine PW.aload_n 0 0 dX9_size_0 rfl rfl rfl ?_
  refine CW.geti dX9_size_1 fL_X9_13 LA_1 (Or.inl rfl) ?_
  cases h
  subst hx
  exact PW.iret dX9_size_4 rfl rfl (Nat.le_refl 0) (Nat.le_refl 0)
/-! X9_hasRoomFor -/
def f_X9_hasRoomFor (a0 : Int32) (s : cS) : Int32 :=
  if (200 : Int32) < ((iG s 1 1) + a0) then
    (0 : Int32)
  else
    (1 : Int32)
set_option maxRecDepth 20000 in
set_option maxHeartbeats 4000000 in
theorem p_X9_hasRoomFor {g : pG} {l : Launch} {a0 : Int32} {s : cS} {q : Int32} (h : f_X9_hasRoomFor a0 s = q) : PM g l 1 M_X9_hasRoomFor [.ref 1, .int a0] (tS s) (some (.int q)) (tS s) 0 0 := by
  refine PM.of (by decide +kernel) (Nat.le_of_ble_eq_true rfl) ?_
  show PW g l (pRoom 1 0 0) M_X9_hasRoomFor _ 0 [(0, .ref 1), (1, .int a0)] [] (tS s) 0 0
  unfold f_X9_hasRoomFor at h
  generalize hF : pE g (some (.int q)) (tS s) 0 0 = F
  have hx := hF.symm
  refine PW.aload_n 0 0 dX9_hasRoomFor_0 rfl rfl rfl ?_
  refine CW.geti dX9_hasRoomFor_1 fL_X9_13 LA_1 (Or.inl rfl) ?_
  refine PW.iload_n 1 1 dX9_hasRoomFor_4 rfl rfl ?_
  refine PW.iadd dX9_hasRoomFor_5 ?_
  refine PW.aload_n 0 0 dX9_hasRoomFor_6 rfl rfl rfl ?_
  refine CW.getr dX9_hasRoomFor_7 fL_X9_7 LA_1 (Or.inr ⟨_, rfl⟩) rfl ?_
  refine CW.alen (v := 200) dX9_hasRoomFor_10 LA_2 (by decide) rfl ?_
  refine PW.icmp_gt (tgt := 18) dX9_hasRoomFor_11 (by decide) (fun c1 => ?_) (fun c1 => ?_)
  · replace h := ifp h c1
    refine PW.iconst (v := 0) dX9_hasRoomFor_18 (by decide) ?_
    cases h
    subst hx
    exact PW.iret dX9_hasRoomFor_19 rfl (narZ (Or.inl rfl)) (Nat.le_refl 0) (Nat.le_refl 0)
  · replace h := ifn h c1
    refine PW.iconst (v := 1) dX9_hasRoomFor_14 (by decide) ?_
    refine PW.goto (tgt := 19) dX9_hasRoomFor_15 (by decide) ?_
    cases h
    subst hx
    exact PW.iret dX9_hasRoomFor_19 rfl (narZ (Or.inr rfl)) (Nat.le_refl 0) (Nat.le_refl 0)
/-! X9_clear -/
def f_X9_clear (s : cS) : (Unit × cS) :=
  sb (iS s 1 1 (0 : Int32)) fun s1 =>
  ((), s1)
set_option maxRecDepth 20000 in
set_option maxHeartbeats 4000000 in
theorem p_X9_clear {g : pG} {l : Launch} {s : cS} {q : Unit × cS} (h : f_X9_clear s = q) : PM g l 1 M_X9_clear [.ref 1] (tS s) none (tS q.2) 0 0 := by
  refine PM.of (by decide +kernel) (Nat.le_of_ble_eq_true rfl) ?_
  show PW g l (pRoom 1 0 0) M_X9_clear _ 0 [(0, .ref 1)] [] (tS s) 0 0
  unfold f_X9_clear at h
  generalize hF : pE g none (tS q.2) 0 0 = F
  have hx := hF.symm
  refine PW.aload_n 0 0 dX9_clear_0 rfl rfl rfl ?_
  refine PW.iconst (v := 0) dX9_clear_1 (by decide) ?_
  refine CW.puti dX9_clear_2 fL_X9_13 rfl LA_1 rfl ?_
  obtain ⟨s1, es1, h⟩ := sbnd h
  rw [es1]
  clear es1
  cases h
  subst hx
  exact PW.vret dX9_clear_5 rfl (Nat.le_refl 0) (Nat.le_refl 0)
/-! X9_open -/
def f_X9_open (a0 : Int32) (s : cS) : (Unit × cS) :=
  sb (iS s 1 2 a0) fun s1 =>
  sb (iS s1 1 3 (0 : Int32)) fun s2 =>
  sb (iS s2 1 4 (0 : Int32)) fun s3 =>
  sb (iS s3 1 5 (0 : Int32)) fun s4 =>
  ((), s4)
set_option maxRecDepth 20000 in
set_option maxHeartbeats 4000000 in
theorem p_X9_open {g : pG} {l : Launch} {a0 : Int32} {s : cS} {q : Unit × cS} (h : f_X9_open a0 s = q) : PM g l 1 M_X9_open [.ref 1, .int a0] (tS s) none (tS q.2) 0 0 := by
  refine PM.of (by decide +kernel) (Nat.le_of_ble_eq_true rfl) ?_
  show PW g l (pRoom 1 0 0) M_X9_open _ 0 [(0, .ref 1), (1, .int a0)] [] (tS s) 0 0
  unfold f_X9_open at h
  generalize hF : pE g none (tS q.2) 0 0 = F
  have hx := hF.symm
  refine PW.aload_n 0 0 dX9_open_0 rfl rfl rfl ?_
  refine PW.iload_n 1 1 dX9_open_1 rfl rfl ?_
  refine CW.puti dX9_open_2 fL_X9_27 rfl LA_1 rfl ?_
  obtain ⟨s1, es1, h⟩ := sbnd h
  rw [es1]
  clear es1
  refine PW.aload_n 0 0 dX9_open_5 rfl rfl rfl ?_
  refine PW.iconst (v := 0) dX9_open_6 (by decide) ?_
  refine CW.puti dX9_open_7 fL_X9_30 rfl LA_1 rfl ?_
  obtain ⟨s2, es2, h⟩ := sbnd h
  rw [es2]
  clear es2
  refine PW.aload_n 0 0 dX9_open_10 rfl rfl rfl ?_
  refine PW.iconst (v := 0) dX9_open_11 (by decide) ?_
  refine CW.puti dX9_open_12 fL_X9_33 rfl LA_1 rfl ?_
  obtain ⟨s3, es3, h⟩ := sbnd h
  rw [es3]
  clear es3
  refine PW.aload_n 0 0 dX9_open_15 rfl rfl rfl ?_
  refine PW.iconst (v := 0) dX9_open_16 (by decide) ?_
  refine CW.puti dX9_open_17 fL_X9_36 rfl LA_1 rfl ?_
  obtain ⟨s4, es4, h⟩ := sbnd h
  rw [es4]
  clear es4
  cases h
  subst hx
  exact PW.vret dX9_open_20 rfl (Nat.le_refl 0) (Nat.le_refl 0)
/-! X9_sign -/
def f_X9_sign (s : cS) : Option (Int32 × cS) :=
  if (iG s 1 4) = 0 then
    if (iG s 1 3) < 0 then
      some (((-1 : Int32), s))
    else
      if (iG s 1 2) ≤ (iG s 1 3) then
        some (((-1 : Int32), s))
      else
        if (200 : Int32) ≤ (iG s 1 3) then
          some (((-1 : Int32), s))
        else
          if inb (iG s 1 3) 200 then
          some (((iG s 2 (iG s 1 3).toNatClampNeg), s))
          else none
  else
    some (((-1 : Int32), s))
set_option maxRecDepth 20000 in
set_option maxHeartbeats 4000000 in
theorem p_X9_sign {g : pG} {l : Launch} {s : cS} {q : Int32 × cS} (h : f_X9_sign s = some q) : PM g l 1 M_X9_sign [.ref 1] (tS s) (some (.int q.1)) (tS q.2) 0 0 := by
  refine PM.of (by decide +kernel) (Nat.le_of_ble_eq_true rfl) ?_
  show PW g l (pRoom 1 0 0) M_X9_sign _ 0 [(0, .ref 1)] [] (tS s) 0 0
  unfold f_X9_sign at h
  generalize hF : pE g (some (.int q.1)) (tS q.2) 0 0 = F
  have hx := hF.symm
  refine PW.aload_n 0 0 dX9_sign_0 rfl rfl rfl ?_
  refine CW.geti dX9_sign_1 fL_X9_33 LA_1 (Or.inl rfl) ?_
  refine PW.if_ne (tgt := 49) dX9_sign_4 (by decide) (fun c1 => ?_) (fun c1 => ?_)
  · replace h := ifn h c1
    refine PW.iconst (v := (-1)) dX9_sign_49 (by decide) ?_
    cases h
    subst hx
    exact PW.iret dX9_sign_50 rfl rfl (Nat.le_refl 0) (Nat.le_refl 0)
  · replace h := ifp h c1
    refine PW.aload_n 0 0 dX9_sign_7 rfl rfl rfl ?_
    refine CW.geti dX9_sign_8 fL_X9_30 LA_1 (Or.inl rfl) ?_
    refine PW.if_lt (tgt := 49) dX9_sign_11 (by decide) (fun c2 => ?_) (fun c2 => ?_)
    · replace h := ifp h c2
      refine PW.iconst (v := (-1)) dX9_sign_49 (by decide) ?_
      cases h
      subst hx
      exact PW.iret dX9_sign_50 rfl rfl (Nat.le_refl 0) (Nat.le_refl 0)
    · replace h := ifn h c2
      refine PW.aload_n 0 0 dX9_sign_14 rfl rfl rfl ?_
      refine CW.geti dX9_sign_15 fL_X9_30 LA_1 (Or.inl rfl) ?_
      refine PW.aload_n 0 0 dX9_sign_18 rfl rfl rfl ?_
      refine CW.geti dX9_sign_19 fL_X9_27 LA_1 (Or.inl rfl) ?_
      refine PW.icmp_ge (tgt := 49) dX9_sign_22 (by decide) (fun c3 => ?_) (fun c3 => ?_)
      · replace h := ifp h c3
        refine PW.iconst (v := (-1)) dX9_sign_49 (by decide) ?_
        cases h
        subst hx
        exact PW.iret dX9_sign_50 rfl rfl (Nat.le_refl 0) (Nat.le_refl 0)
      · replace h := ifn h c3
        refine PW.aload_n 0 0 dX9_sign_25 rfl rfl rfl ?_
        refine CW.geti dX9_sign_26 fL_X9_30 LA_1 (Or.inl rfl) ?_
        refine PW.aload_n 0 0 dX9_sign_29 rfl rfl rfl ?_
        refine CW.getr dX9_sign_30 fL_X9_7 LA_1 (Or.inr ⟨_, rfl⟩) rfl ?_
        refine CW.alen (v := 200) dX9_sign_33 LA_2 (by decide) rfl ?_
        refine PW.icmp_ge (tgt := 49) dX9_sign_34 (by decide) (fun c4 => ?_) (fun c4 => ?_)
        · replace h := ifp h c4
          refine PW.iconst (v := (-1)) dX9_sign_49 (by decide) ?_
          cases h
          subst hx
          exact PW.iret dX9_sign_50 rfl rfl (Nat.le_refl 0) (Nat.le_refl 0)
        · replace h := ifn h c4
          refine PW.aload_n 0 0 dX9_sign_37 rfl rfl rfl ?_
          refine CW.getr dX9_sign_38 fL_X9_7 LA_1 (Or.inr ⟨_, rfl⟩) rfl ?_
          refine PW.aload_n 0 0 dX9_sign_41 rfl rfl rfl ?_
          refine CW.geti dX9_sign_42 fL_X9_30 LA_1 (Or.inl rfl) ?_
          by_cases c5 : inb (iG s 1 3) 200
          rotate_left
          · have h := ifn h c5; cases h
          replace h := ifp h c5
          refine CW.iald dX9_sign_45 LA_2 c5 ?_
          refine PW.goto (tgt := 50) dX9_sign_46 (by decide) ?_
          cases h
          subst hx
          exact PW.iret dX9_sign_50 rfl rfl (Nat.le_refl 0) (Nat.le_refl 0)
/-! X9_onDigit -/
def f_X9_onDigit (s : cS) : Option (Int32 × cS) :=
  ob (f_X9_sign s) fun r1 s2 =>
  if r1 < (48 : Int32) then
    some (((0 : Int32), s2))
  else
    if (57 : Int32) < r1 then
      some (((0 : Int32), s2))
    else
      some (((1 : Int32), s2))
set_option maxRecDepth 20000 in
set_option maxHeartbeats 4000000 in
theorem p_X9_onDigit {g : pG} {l : Launch} {s : cS} {q : Int32 × cS} (h : f_X9_onDigit s = some q) : PM g l 2 M_X9_onDigit [.ref 1] (tS s) (some (.int q.1)) (tS q.2) 0 0 := by
  refine PM.of (by decide +kernel) (Nat.le_of_ble_eq_true rfl) ?_
  show PW g l (pRoom 2 0 0) M_X9_onDigit _ 0 [(0, .ref 1)] [] (tS s) 0 0
  unfold f_X9_onDigit at h
  generalize hF : pE g (some (.int q.1)) (tS q.2) 0 0 = F
  have hx := hF.symm
  refine PW.aload_n 0 0 dX9_onDigit_0 rfl rfl rfl ?_
  obtain ⟨r1, s2, q3, h⟩ := obnd h
  refine CW.callVi (ci := 9) (st := []) [] dX9_onDigit_1 (p_X9_sign q3) MV_X9_sign mL_X9_39 (by decide) rfl LA_1 rfl rfl (Nat.le_of_ble_eq_true rfl) (by decide) ?_
  refine PW.istore_n dX9_onDigit_4 rfl (Nat.le_of_ble_eq_true rfl) rfl ?_
  refine PW.iload_n 0 1 dX9_onDigit_5 rfl rfl ?_
  refine PW.bipush (v := 48) dX9_onDigit_6 (by decide) ?_
  refine PW.icmp_lt (tgt := 21) dX9_onDigit_8 (by decide) (fun c4 => ?_) (fun c4 => ?_)
  · replace h := ifp h c4
    refine PW.iconst (v := 0) dX9_onDigit_21 (by decide) ?_
    cases h
    subst hx
    exact PW.iret dX9_onDigit_22 rfl (narZ (Or.inl rfl)) (Nat.le_refl 0) (Nat.le_refl 0)
  · replace h := ifn h c4
    refine PW.iload_n 0 1 dX9_onDigit_11 rfl rfl ?_
    refine PW.bipush (v := 57) dX9_onDigit_12 (by decide) ?_
    refine PW.icmp_gt (tgt := 21) dX9_onDigit_14 (by decide) (fun c5 => ?_) (fun c5 => ?_)
    · replace h := ifp h c5
      refine PW.iconst (v := 0) dX9_onDigit_21 (by decide) ?_
      cases h
      subst hx
      exact PW.iret dX9_onDigit_22 rfl (narZ (Or.inl rfl)) (Nat.le_refl 0) (Nat.le_refl 0)
    · replace h := ifn h c5
      refine PW.iconst (v := 1) dX9_onDigit_17 (by decide) ?_
      refine PW.goto (tgt := 22) dX9_onDigit_18 (by decide) ?_
      cases h
      subst hx
      exact PW.iret dX9_onDigit_22 rfl (narZ (Or.inr rfl)) (Nat.le_refl 0) (Nat.le_refl 0)
/-! X9_atEnd -/
def f_X9_atEnd (s : cS) : Int32 :=
  if (iG s 1 4) = 0 then
    if (iG s 1 3) < (iG s 1 2) then
      (0 : Int32)
    else
      (1 : Int32)
  else
    (0 : Int32)
set_option maxRecDepth 20000 in
set_option maxHeartbeats 4000000 in
theorem p_X9_atEnd {g : pG} {l : Launch} {s : cS} {q : Int32} (h : f_X9_atEnd s = q) : PM g l 1 M_X9_atEnd [.ref 1] (tS s) (some (.int q)) (tS s) 0 0 := by
  refine PM.of (by decide +kernel) (Nat.le_of_ble_eq_true rfl) ?_
  show PW g l (pRoom 1 0 0) M_X9_atEnd _ 0 [(0, .ref 1)] [] (tS s) 0 0
  unfold f_X9_atEnd at h
  generalize hF : pE g (some (.int q)) (tS s) 0 0 = F
  have hx := hF.symm
  refine PW.aload_n 0 0 dX9_atEnd_0 rfl rfl rfl ?_
  refine CW.geti dX9_atEnd_1 fL_X9_33 LA_1 (Or.inl rfl) ?_
  refine PW.if_ne (tgt := 22) dX9_atEnd_4 (by decide) (fun c1 => ?_) (fun c1 => ?_)
  · replace h := ifn h c1
    refine PW.iconst (v := 0) dX9_atEnd_22 (by decide) ?_
    cases h
    subst hx
    exact PW.iret dX9_atEnd_23 rfl (narZ (Or.inl rfl)) (Nat.le_refl 0) (Nat.le_refl 0)
  · replace h := ifp h c1
    refine PW.aload_n 0 0 dX9_atEnd_7 rfl rfl rfl ?_
    refine CW.geti dX9_atEnd_8 fL_X9_30 LA_1 (Or.inl rfl) ?_
    refine PW.aload_n 0 0 dX9_atEnd_11 rfl rfl rfl ?_
    refine CW.geti dX9_atEnd_12 fL_X9_27 LA_1 (Or.inl rfl) ?_
    refine PW.icmp_lt (tgt := 22) dX9_atEnd_15 (by decide) (fun c2 => ?_) (fun c2 => ?_)
    · replace h := ifp h c2
      refine PW.iconst (v := 0) dX9_atEnd_22 (by decide) ?_
      cases h
      subst hx
      exact PW.iret dX9_atEnd_23 rfl (narZ (Or.inl rfl)) (Nat.le_refl 0) (Nat.le_refl 0)
    · replace h := ifn h c2
      refine PW.iconst (v := 1) dX9_atEnd_18 (by decide) ?_
      refine PW.goto (tgt := 23) dX9_atEnd_19 (by decide) ?_
      cases h
      subst hx
      exact PW.iret dX9_atEnd_23 rfl (narZ (Or.inr rfl)) (Nat.le_refl 0) (Nat.le_refl 0)
/-! X9_place -/
def f_X9_place (s : cS) : Int32 :=
  (iG s 1 3)
set_option maxRecDepth 20000 in
set_option maxHeartbeats 4000000 in
theorem p_X9_place {g : pG} {l : Launch} {s : cS} {q : Int32} (h : f_X9_place s = q) : PM g l 1 M_X9_place [.ref 1] (tS s) (some (.int q)) (tS s) 0 0 := by
  refine PM.of (by decide +kernel) (Nat.le_of_ble_eq_true rfl) ?_
  show PW g l (pRoom 1 0 0) M_X9_place _ 0 [(0, .ref 1)] [] (tS s) 0 0
  unfold f_X9_place at h
  generalize hF : pE g (some (.int q)) (tS s) 0 0 = F
  have hx := hF.symm
  refine PW.aload_n 0 0 dX9_place_0 rfl rfl rfl ?_
  refine CW.geti dX9_place_1 fL_X9_30 LA_1 (Or.inl rfl) ?_
  cases h
  subst hx
  exact PW.iret dX9_place_4 rfl rfl (Nat.le_refl 0) (Nat.le_refl 0)
/-! X9_fail -/
def f_X9_fail (a0 : Int32) (a1 : Int32) (s : cS) : (Unit × cS) :=
  if (iG s 1 4) = 0 then
    sb (iS s 1 4 a0) fun s2 =>
    sb (iS s2 1 5 a1) fun s3 =>
    ((), s3)
  else
    ((), s)
set_option maxRecDepth 20000 in
set_option maxHeartbeats 4000000 in
theorem p_X9_fail {g : pG} {l : Launch} {a0 : Int32} {a1 : Int32} {s : cS} {q : Unit × cS} (h : f_X9_fail a0 a1 s = q) : PM g l 1 M_X9_fail [.ref 1, .int a0, .int a1] (tS s) none (tS q.2) 0 0 := by
  refine PM.of (by decide +kernel) (Nat.le_of_ble_eq_true rfl) ?_
  show PW g l (pRoom 1 0 0) M_X9_fail _ 0 [(0, .ref 1), (1, .int a0), (2, .int a1)] [] (tS s) 0 0
  unfold f_X9_fail at h
  generalize hF : pE g none (tS q.2) 0 0 = F
  have hx := hF.symm
  refine PW.aload_n 0 0 dX9_fail_0 rfl rfl rfl ?_
  refine CW.geti dX9_fail_1 fL_X9_33 LA_1 (Or.inl rfl) ?_
  refine PW.if_ne (tgt := 17) dX9_fail_4 (by decide) (fun c1 => ?_) (fun c1 => ?_)
  · replace h := ifn h c1
    cases h
    subst hx
    exact PW.vret dX9_fail_17 rfl (Nat.le_refl 0) (Nat.le_refl 0)
  · replace h := ifp h c1
    refine PW.aload_n 0 0 dX9_fail_7 rfl rfl rfl ?_
    refine PW.iload_n 1 1 dX9_fail_8 rfl rfl ?_
    refine CW.puti dX9_fail_9 fL_X9_33 rfl LA_1 rfl ?_
    obtain ⟨s2, es2, h⟩ := sbnd h
    rw [es2]
    clear es2
    refine PW.aload_n 0 0 dX9_fail_12 rfl rfl rfl ?_
    refine PW.iload_n 2 2 dX9_fail_13 rfl rfl ?_
    refine CW.puti dX9_fail_14 fL_X9_36 rfl LA_1 rfl ?_
    obtain ⟨s3, es3, h⟩ := sbnd h
    rw [es3]
    clear es3
    cases h
    subst hx
    exact PW.vret dX9_fail_17 rfl (Nat.le_refl 0) (Nat.le_refl 0)
/-! X9_pass -/
def f_X9_pass (a0 : Int32) (s : cS) : Option (Unit × cS) :=
  ob (f_X9_sign s) fun r1 s2 =>
  if r1 = a0 then
    sb (iS s2 1 3 ((iG s2 1 3) + (1 : Int32))) fun s8 =>
    some (((), s8))
  else
    tb (f_X9_fail (1 : Int32) (iG s2 1 3) s2) fun r5 s6 =>
    some (((), s6))
set_option maxRecDepth 20000 in
set_option maxHeartbeats 4000000 in
theorem p_X9_pass {g : pG} {l : Launch} {a0 : Int32} {s : cS} {q : Unit × cS} (h : f_X9_pass a0 s = some q) : PM g l 2 M_X9_pass [.ref 1, .int a0] (tS s) none (tS q.2) 0 0 := by
  refine PM.of (by decide +kernel) (Nat.le_of_ble_eq_true rfl) ?_
  show PW g l (pRoom 2 0 0) M_X9_pass _ 0 [(0, .ref 1), (1, .int a0)] [] (tS s) 0 0
  unfold f_X9_pass at h
  generalize hF : pE g none (tS q.2) 0 0 = F
  have hx := hF.symm
  refine PW.aload_n 0 0 dX9_pass_0 rfl rfl rfl ?_
  obtain ⟨r1, s2, q3, h⟩ := obnd h
  refine CW.callVi (ci := 9) (st := []) [] dX9_pass_1 (p_X9_sign q3) MV_X9_sign mL_X9_39 (by decide) rfl LA_1 rfl rfl (Nat.le_of_ble_eq_true rfl) (by decide) ?_
  refine PW.iload_n 1 1 dX9_pass_4 rfl rfl ?_
  refine PW.icmp_ne (tgt := 21) dX9_pass_5 (by decide) (fun c4 => ?_) (fun c4 => ?_)
  · replace h := ifn h c4
    refine PW.aload_n 0 0 dX9_pass_21 rfl rfl rfl ?_
    refine PW.iconst (v := 1) dX9_pass_22 (by decide) ?_
    refine PW.aload_n 0 0 dX9_pass_23 rfl rfl rfl ?_
    refine CW.geti dX9_pass_24 fL_X9_30 LA_1 (Or.inl rfl) ?_
    obtain ⟨r5, s6, q7, h⟩ := tbnd h
    refine CW.callVv (ci := 9) (st := []) [.int (1 : Int32), .int (iG s2 1 3)] dX9_pass_27 (p_X9_fail q7) MV_X9_fail mL_X9_43 (by decide) rfl LA_1 rfl rfl (Nat.le_of_ble_eq_true rfl) (by decide) ?_
    cases h
    subst hx
    exact PW.vret dX9_pass_30 rfl (Nat.le_refl 0) (Nat.le_refl 0)
  · replace h := ifp h c4
    refine PW.aload_n 0 0 dX9_pass_8 rfl rfl rfl ?_
    refine PW.dup dX9_pass_9 rfl ?_
    refine CW.geti dX9_pass_10 fL_X9_30 LA_1 (Or.inl rfl) ?_
    refine PW.iconst (v := 1) dX9_pass_13 (by decide) ?_
    refine PW.iadd dX9_pass_14 ?_
    refine CW.puti dX9_pass_15 fL_X9_30 rfl LA_1 rfl ?_
    obtain ⟨s8, es8, h⟩ := sbnd h
    rw [es8]
    clear es8
    refine PW.goto (tgt := 30) dX9_pass_18 (by decide) ?_
    cases h
    subst hx
    exact PW.vret dX9_pass_30 rfl (Nat.le_refl 0) (Nat.le_refl 0)
/-! X9_number -/
def j_X9_number_72 (x1 : Int32) (x2 : Int32) (x3 : Int32) (s : cS) : Option (((Int32 × Int32) × cS) ⊕ (Int32 × cS)) :=
  some (.inl ((x2, (x3 + (1 : Int32))), s))
set_option maxRecDepth 20000 in
set_option maxHeartbeats 4000000 in
theorem ok_j_X9_number_72 {g : pG} {l : Launch} {F : pF} {x1 : Int32} {x2 : Int32} {x3 : Int32} {s : cS} {x : (((Int32 × Int32) × cS) ⊕ (Int32 × cS))} (h : j_X9_number_72 x1 x2 x3 s = some x) (hx : (KL (fun (v : (Int32 × Int32) × cS) => PW g l (pRoom 3 0 0) M_X9_number F 20 [(0, .ref 1), (1, .int x1), (2, .int v.1.1), (3, .int v.1.2)] [] (tS v.2) 0 0) (fun q => F = pE g (some (.int q.1)) (tS q.2) 0 0)) x) : PW g l (pRoom 3 0 0) M_X9_number F 72 [(0, .ref 1), (1, .int x1), (2, .int x2), (3, .int x3)] [] (tS s) 0 0 := by
  unfold j_X9_number_72 at h
  refine PW.iinc (v := (x3 + (1 : Int32))) 3 dX9_number_72 rfl (by first | rfl | decide) (Nat.le_of_ble_eq_true rfl) rfl ?_
  refine PW.goto (tgt := 20) dX9_number_75 (by decide) ?_
  cases h
  exact PW.pick [1, 2, 3, 0] rfl hx
def b_X9_number_20 (x1 : Int32) (x2 : Int32) (x3 : Int32) (s : cS) : Option (((Int32 × Int32) × cS) ⊕ (Int32 × cS)) :=
  if x1 < x3 then
    oR (
      some ((x2, s)))
  else
    ob (f_X9_onDigit s) fun r6 s7 =>
    if r6 = 0 then
      oR (
        some ((x2, s7)))
    else
      if x3 = x1 then
        tb (f_X9_fail (2 : Int32) (iG s7 1 3) s7) fun r15 s16 =>
        j_X9_number_72 x1 x2 x3 s16
      else
        ob (f_X9_sign s7) fun r11 s12 =>
        sb (iS s12 1 3 ((iG s12 1 3) + (1 : Int32))) fun s14 =>
        j_X9_number_72 x1 (((x2 * (10 : Int32)) + r11) - (48 : Int32)) x3 s14
set_option maxRecDepth 20000 in
set_option maxHeartbeats 4000000 in
theorem ok_b_X9_number_20 {g : pG} {l : Launch} {F : pF} {x1 : Int32} {x2 : Int32} {x3 : Int32} {s : cS} {x : (((Int32 × Int32) × cS) ⊕ (Int32 × cS))} (h : b_X9_number_20 x1 x2 x3 s = some x) (hx : (KL (fun (v : (Int32 × Int32) × cS) => PW g l (pRoom 3 0 0) M_X9_number F 20 [(0, .ref 1), (1, .int x1), (2, .int v.1.1), (3, .int v.1.2)] [] (tS v.2) 0 0) (fun q => F = pE g (some (.int q.1)) (tS q.2) 0 0)) x) : PW g l (pRoom 3 0 0) M_X9_number F 20 [(0, .ref 1), (1, .int x1), (2, .int x2), (3, .int x3)] [] (tS s) 0 0 := by
  unfold b_X9_number_20 at h
  refine PW.iload_n 3 3 dX9_number_20 rfl rfl ?_
  refine PW.iload_n 1 1 dX9_number_21 rfl rfl ?_
  refine PW.icmp_gt (tgt := 78) dX9_number_22 (by decide) (fun c5 => ?_) (fun c5 => ?_)
  · replace h := ifp h c5
    obtain ⟨x1, h, hx1⟩ := oRb h
    subst hx1
    replace hx := KLr hx
    refine PW.iload_n 2 2 dX9_number_78 rfl rfl ?_
    cases h
    subst hx
    exact PW.iret dX9_number_79 rfl rfl (Nat.le_refl 0) (Nat.le_refl 0)
  · replace h := ifn h c5
    refine PW.aload_n 0 0 dX9_number_25 rfl rfl rfl ?_
    obtain ⟨r6, s7, q8, h⟩ := obnd h
    refine CW.callVi (ci := 9) (st := []) [] dX9_number_26 (p_X9_onDigit q8) MV_X9_onDigit mL_X9_47 (by decide) rfl LA_1 rfl rfl (Nat.le_of_ble_eq_true rfl) (by decide) ?_
    refine PW.if_eq (tgt := 78) dX9_number_29 (by decide) (fun c9 => ?_) (fun c9 => ?_)
    · replace h := ifp h c9
      obtain ⟨x1, h, hx1⟩ := oRb h
      subst hx1
      replace hx := KLr hx
      refine PW.iload_n 2 2 dX9_number_78 rfl rfl ?_
      cases h
      subst hx
      exact PW.iret dX9_number_79 rfl rfl (Nat.le_refl 0) (Nat.le_refl 0)
    · replace h := ifn h c9
      refine PW.iload_n 3 3 dX9_number_32 rfl rfl ?_
      refine PW.iload_n 1 1 dX9_number_33 rfl rfl ?_
      refine PW.icmp_ne (tgt := 49) dX9_number_34 (by decide) (fun c10 => ?_) (fun c10 => ?_)
      · replace h := ifn h c10
        refine PW.iload_n 2 2 dX9_number_49 rfl rfl ?_
        refine PW.bipush (v := 10) dX9_number_50 (by decide) ?_
        refine PW.imul dX9_number_52 ?_
        refine PW.aload_n 0 0 dX9_number_53 rfl rfl rfl ?_
        obtain ⟨r11, s12, q13, h⟩ := obnd h
        refine CW.callVi (ci := 9) (st := [.int (x2 * (10 : Int32))]) [] dX9_number_54 (p_X9_sign q13) MV_X9_sign mL_X9_39 (by decide) rfl LA_1 rfl rfl (Nat.le_of_ble_eq_true rfl) (by decide) ?_
        refine PW.iadd dX9_number_57 ?_
        refine PW.bipush (v := 48) dX9_number_58 (by decide) ?_
        refine PW.isub dX9_number_60 ?_
        refine PW.istore_n dX9_number_61 rfl (Nat.le_of_ble_eq_true rfl) rfl ?_
        refine PW.aload_n 1 0 dX9_number_62 rfl rfl rfl ?_
        refine PW.dup dX9_number_63 rfl ?_
        refine CW.geti dX9_number_64 fL_X9_30 LA_1 (Or.inl rfl) ?_
        refine PW.iconst (v := 1) dX9_number_67 (by decide) ?_
        refine PW.iadd dX9_number_68 ?_
        refine CW.puti dX9_number_69 fL_X9_30 rfl LA_1 rfl ?_
        obtain ⟨s14, es14, h⟩ := sbnd h
        rw [es14]
        clear es14
        exact PW.pick [1, 2, 0, 3] rfl (ok_j_X9_number_72 h hx)
      · replace h := ifp h c10
        refine PW.aload_n 0 0 dX9_number_37 rfl rfl rfl ?_
        refine PW.iconst (v := 2) dX9_number_38 (by decide) ?_
        refine PW.aload_n 0 0 dX9_number_39 rfl rfl rfl ?_
        refine CW.geti dX9_number_40 fL_X9_30 LA_1 (Or.inl rfl) ?_
        obtain ⟨r15, s16, q17, h⟩ := tbnd h
        refine CW.callVv (ci := 9) (st := []) [.int (2 : Int32), .int (iG s7 1 3)] dX9_number_43 (p_X9_fail q17) MV_X9_fail mL_X9_43 (by decide) rfl LA_1 rfl rfl (Nat.le_of_ble_eq_true rfl) (by decide) ?_
        refine PW.goto (tgt := 72) dX9_number_46 (by decide) ?_
        exact PW.pick [0, 1, 2, 3] rfl (ok_j_X9_number_72 h hx)
def w_X9_number_20 (N : Nat) (x1 : Int32) (x2 : Int32) (x3 : Int32) (s : cS) : Option (Int32 × cS) := itr (fun (v : (Int32 × Int32) × cS) => b_X9_number_20 x1 v.1.1 v.1.2 v.2) N ((x2, x3), s)
theorem ok_w_X9_number_20 {g : pG} {l : Launch} {F : pF} {N : Nat} {x1 : Int32} {x2 : Int32} {x3 : Int32} {s : cS} {x : (Int32 × cS)} (h : w_X9_number_20 N x1 x2 x3 s = some x) (hx : (fun q => F = pE g (some (.int q.1)) (tS q.2) 0 0) x) : PW g l (pRoom 3 0 0) M_X9_number F 20 [(0, .ref 1), (1, .int x1), (2, .int x2), (3, .int x3)] [] (tS s) 0 0 :=
  okIter (P := (fun (v : (Int32 × Int32) × cS) => PW g l (pRoom 3 0 0) M_X9_number F 20 [(0, .ref 1), (1, .int x1), (2, .int v.1.1), (3, .int v.1.2)] [] (tS v.2) 0 0)) (K := (fun q => F = pE g (some (.int q.1)) (tS q.2) 0 0)) (fun v y hB hy => ok_b_X9_number_20 hB hy) N ((x2, x3), s) x h hx
def j_X9_number_16 (N : Nat) (x1 : Int32) (s : cS) : Option (Int32 × cS) :=
  w_X9_number_20 N x1 (0 : Int32) (0 : Int32) s
set_option maxRecDepth 20000 in
set_option maxHeartbeats 4000000 in
theorem ok_j_X9_number_16 {g : pG} {l : Launch} {F : pF} {N : Nat} {x1 : Int32} {s : cS} {x : (Int32 × cS)} (h : j_X9_number_16 N x1 s = some x) (hx : (fun q => F = pE g (some (.int q.1)) (tS q.2) 0 0) x) : PW g l (pRoom 3 0 0) M_X9_number F 16 [(0, .ref 1), (1, .int x1)] [] (tS s) 0 0 := by
  unfold j_X9_number_16 at h
  refine PW.iconst (v := 0) dX9_number_16 (by decide) ?_
  refine PW.istore_n dX9_number_17 rfl (Nat.le_of_ble_eq_true rfl) rfl ?_
  refine PW.iconst (v := 0) dX9_number_18 (by decide) ?_
  refine PW.istore_n dX9_number_19 rfl (Nat.le_of_ble_eq_true rfl) rfl ?_
  exact PW.pick [2, 3, 1, 0] rfl (ok_w_X9_number_20 h hx)
def f_X9_number (N : Nat) (a0 : Int32) (s : cS) : Option (Int32 × cS) :=
  ob (f_X9_onDigit s) fun r1 s2 =>
  if r1 = 0 then
    tb (f_X9_fail (1 : Int32) (iG s2 1 3) s2) fun r18 s19 =>
    j_X9_number_16 N a0 s19
  else
    j_X9_number_16 N a0 s2
set_option maxRecDepth 20000 in
set_option maxHeartbeats 4000000 in
theorem p_X9_number {g : pG} {l : Launch} {N : Nat} {a0 : Int32} {s : cS} {q : Int32 × cS} (h : f_X9_number N a0 s = some q) : PM g l 3 M_X9_number [.ref 1, .int a0] (tS s) (some (.int q.1)) (tS q.2) 0 0 := by
  refine PM.of (by decide +kernel) (Nat.le_of_ble_eq_true rfl) ?_
  show PW g l (pRoom 3 0 0) M_X9_number _ 0 [(0, .ref 1), (1, .int a0)] [] (tS s) 0 0
  unfold f_X9_number at h
  generalize hF : pE g (some (.int q.1)) (tS q.2) 0 0 = F
  have hx := hF.symm
  refine PW.aload_n 0 0 dX9_number_0 rfl rfl rfl ?_
  obtain ⟨r1, s2, q3, h⟩ := obnd h
  refine CW.callVi (ci := 9) (st := []) [] dX9_number_1 (p_X9_onDigit q3) MV_X9_onDigit mL_X9_47 (by decide) rfl LA_1 rfl rfl (Nat.le_of_ble_eq_true rfl) (by decide) ?_
  refine PW.if_ne (tgt := 16) dX9_number_4 (by decide) (fun c4 => ?_) (fun c4 => ?_)
  · replace h := ifn h c4
    exact PW.pick [0, 1] rfl (ok_j_X9_number_16 h hx)
  · replace h := ifp h c4
    refine PW.aload_n 0 0 dX9_number_7 rfl rfl rfl ?_
    refine PW.iconst (v := 1) dX9_number_8 (by decide) ?_
    refine PW.aload_n 0 0 dX9_number_9 rfl rfl rfl ?_
    refine CW.geti dX9_number_10 fL_X9_30 LA_1 (Or.inl rfl) ?_
    obtain ⟨r18, s19, q20, h⟩ := tbnd h
    refine CW.callVv (ci := 9) (st := []) [.int (1 : Int32), .int (iG s2 1 3)] dX9_number_13 (p_X9_fail q20) MV_X9_fail mL_X9_43 (by decide) rfl LA_1 rfl rfl (Nat.le_of_ble_eq_true rfl) (by decide) ?_
    exact PW.pick [0, 1] rfl (ok_j_X9_number_16 h hx)
/-! X9_sound -/
def f_X9_sound (s : cS) : Int32 :=
  if (iG s 1 4) = 0 then
    (1 : Int32)
  else
    (0 : Int32)
set_option maxRecDepth 20000 in
set_option maxHeartbeats 4000000 in
theorem p_X9_sound {g : pG} {l : Launch} {s : cS} {q : Int32} (h : f_X9_sound s = q) : PM g l 1 M_X9_sound [.ref 1] (tS s) (some (.int q)) (tS s) 0 0 := by
  refine PM.of (by decide +kernel) (Nat.le_of_ble_eq_true rfl) ?_
  show PW g l (pRoom 1 0 0) M_X9_sound _ 0 [(0, .ref 1)] [] (tS s) 0 0
  unfold f_X9_sound at h
  generalize hF : pE g (some (.int q)) (tS s) 0 0 = F
  have hx := hF.symm
  refine PW.aload_n 0 0 dX9_sound_0 rfl rfl rfl ?_
  refine CW.geti dX9_sound_1 fL_X9_33 LA_1 (Or.inl rfl) ?_
  refine PW.if_ne (tgt := 11) dX9_sound_4 (by decide) (fun c1 => ?_) (fun c1 => ?_)
  · replace h := ifn h c1
    refine PW.iconst (v := 0) dX9_sound_11 (by decide) ?_
    cases h
    subst hx
    exact PW.iret dX9_sound_12 rfl (narZ (Or.inl rfl)) (Nat.le_refl 0) (Nat.le_refl 0)
  · replace h := ifp h c1
    refine PW.iconst (v := 1) dX9_sound_7 (by decide) ?_
    refine PW.goto (tgt := 12) dX9_sound_8 (by decide) ?_
    cases h
    subst hx
    exact PW.iret dX9_sound_12 rfl (narZ (Or.inr rfl)) (Nat.le_refl 0) (Nat.le_refl 0)
/-! X9_faultTold -/
def f_X9_faultTold (s : cS) : Int32 :=
  (((-1000 : Int32) * (iG s 1 4)) - (iG s 1 5))
set_option maxRecDepth 20000 in
set_option maxHeartbeats 4000000 in
theorem p_X9_faultTold {g : pG} {l : Launch} {s : cS} {q : Int32} (h : f_X9_faultTold s = q) : PM g l 1 M_X9_faultTold [.ref 1] (tS s) (some (.int q)) (tS s) 0 0 := by
  refine PM.of (by decide +kernel) (Nat.le_of_ble_eq_true rfl) ?_
  show PW g l (pRoom 1 0 0) M_X9_faultTold _ 0 [(0, .ref 1)] [] (tS s) 0 0
  unfold f_X9_faultTold at h
  generalize hF : pE g (some (.int q)) (tS s) 0 0 = F
  have hx := hF.symm
  refine PW.sipush (v := (-1000)) dX9_faultTold_0 (by decide) ?_
  refine PW.aload_n 0 0 dX9_faultTold_3 rfl rfl rfl ?_
  refine CW.geti dX9_faultTold_4 fL_X9_33 LA_1 (Or.inl rfl) ?_
  refine PW.imul dX9_faultTold_7 ?_
  refine PW.aload_n 0 0 dX9_faultTold_8 rfl rfl rfl ?_
  refine CW.geti dX9_faultTold_9 fL_X9_36 LA_1 (Or.inl rfl) ?_
  refine PW.isub dX9_faultTold_12 ?_
  cases h
  subst hx
  exact PW.iret dX9_faultTold_13 rfl rfl (Nat.le_refl 0) (Nat.le_refl 0)
