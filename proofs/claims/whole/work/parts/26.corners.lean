/-! X1_size -/
def f_X1_size (s : cS) : Int32 :=
  (iG s 3 7)
set_option maxRecDepth 20000 in
set_option maxHeartbeats 4000000 in
theorem p_X1_size {g : pG} {l : Launch} {s : cS} {q : Int32} (h : f_X1_size s = q) : PM g l 1 M_X1_size [.ref 3] (tS s) (some (.int q)) (tS s) 0 0 := by
  refine PM.of (by decide +kernel) (Nat.le_of_ble_eq_true rfl) ?_
  show PW g l (pRoom 1 0 0) M_X1_size _ 0 [(0, .ref 3)] [] (tS s) 0 0
  unfold f_X1_size at h
  generalize hF : pE g (some (.int q)) (tS s) 0 0 = F
  have hx := hF.symm
  refine PW.aload_n 0 0 dX1_size_0 rfl rfl rfl ?_
  refine CW.geti dX1_size_1 fL_X1_41 LA_3 (Or.inl rfl) ?_
  cases h
  subst hx
  exact PW.iret (v := (iG s 3 7)) dX1_size_4 rfl rfl (Nat.le_refl 0) (Nat.le_refl 0)
/-! X1_has -/
def f_X1_has (a0 : Int32) (s : cS) : Int32 :=
  if a0 < 0 then
    (0 : Int32)
  else
    if (iG s 3 7) ≤ a0 then
      (0 : Int32)
    else
      (1 : Int32)
set_option maxRecDepth 20000 in
set_option maxHeartbeats 4000000 in
theorem p_X1_has {g : pG} {l : Launch} {a0 : Int32} {s : cS} {q : Int32} (h : f_X1_has a0 s = q) : PM g l 1 M_X1_has [.ref 3, .int a0] (tS s) (some (.int q)) (tS s) 0 0 := by
  refine PM.of (by decide +kernel) (Nat.le_of_ble_eq_true rfl) ?_
  show PW g l (pRoom 1 0 0) M_X1_has _ 0 [(0, .ref 3), (1, .int a0)] [] (tS s) 0 0
  unfold f_X1_has at h
  generalize hF : pE g (some (.int q)) (tS s) 0 0 = F
  have hx := hF.symm
  refine PW.iload_n 1 1 dX1_has_0 rfl rfl ?_
  refine PW.if_lt (tgt := 16) dX1_has_1 (by decide) (fun c1 => ?_) (fun c1 => ?_)
  · replace h := ifp h c1
    refine PW.iconst (v := 0) dX1_has_16 (by decide) ?_
    cases h
    subst hx
    exact PW.iret (v := (0 : Int32)) dX1_has_17 rfl (narZ (Or.inl rfl)) (Nat.le_refl 0) (Nat.le_refl 0)
  · replace h := ifn h c1
    refine PW.iload_n 1 1 dX1_has_4 rfl rfl ?_
    refine PW.aload_n 0 0 dX1_has_5 rfl rfl rfl ?_
    refine CW.geti dX1_has_6 fL_X1_41 LA_3 (Or.inl rfl) ?_
    refine PW.icmp_ge (tgt := 16) dX1_has_9 (by decide) (fun c2 => ?_) (fun c2 => ?_)
    · replace h := ifp h c2
      refine PW.iconst (v := 0) dX1_has_16 (by decide) ?_
      cases h
      subst hx
      exact PW.iret (v := (0 : Int32)) dX1_has_17 rfl (narZ (Or.inl rfl)) (Nat.le_refl 0) (Nat.le_refl 0)
    · replace h := ifn h c2
      refine PW.iconst (v := 1) dX1_has_12 (by decide) ?_
      refine PW.goto (tgt := 17) dX1_has_13 (by decide) ?_
      cases h
      subst hx
      exact PW.iret (v := (1 : Int32)) dX1_has_17 rfl (narZ (Or.inr rfl)) (Nat.le_refl 0) (Nat.le_refl 0)
theorem f_X1_has_bool {a0 : Int32} {s : cS} : f_X1_has a0 s = 0 ∨ f_X1_has a0 s = 1 := by
  unfold f_X1_has
  repeat' split
  all_goals first | exact Or.inl rfl | exact Or.inr rfl
/-! X1_livesOf -/
def f_X1_livesOf (a0 : Int32) (s : cS) : Int32 :=
  (aA s 8 8 a0)
set_option maxRecDepth 20000 in
set_option maxHeartbeats 4000000 in
theorem p_X1_livesOf {g : pG} {l : Launch} {a0 : Int32} {s : cS} {q : Int32} (h : f_X1_livesOf a0 s = q) : PM g l 2 M_X1_livesOf [.ref 3, .int a0] (tS s) (some (.int q)) (tS s) 0 0 := by
  refine PM.of (by decide +kernel) (Nat.le_of_ble_eq_true rfl) ?_
  show PW g l (pRoom 2 0 0) M_X1_livesOf _ 0 [(0, .ref 3), (1, .int a0)] [] (tS s) 0 0
  unfold f_X1_livesOf at h
  generalize hF : pE g (some (.int q)) (tS s) 0 0 = F
  have hx := hF.symm
  refine PW.aload_n 0 0 dX1_livesOf_0 rfl rfl rfl ?_
  refine CW.getr dX1_livesOf_1 fL_X1_22 LA_3 (Or.inr ⟨_, rfl⟩) rfl ?_
  refine PW.iload_n 1 1 dX1_livesOf_4 rfl rfl ?_
  refine CW.callSNi (st := []) [.ref 8, .int a0] dX1_livesOf_5 (ps_at LA_8 rfl) MS_X11_at mN_X1_49 rfl rfl (Nat.le_of_ble_eq_true rfl) (by first | decide | omega) ?_
  cases h
  subst hx
  exact PW.iret (v := (aA s 8 8 a0)) dX1_livesOf_8 rfl rfl (Nat.le_refl 0) (Nat.le_refl 0)
/-! X1_hasLife -/
def f_X1_hasLife (a0 : Int32) (a1 : Int32) (s : cS) : Int32 :=
  if (f_X1_has a0 s) = 0 then
    (0 : Int32)
  else
    if a1 < 0 then
      (0 : Int32)
    else
      if (aA s 8 8 a0) ≤ a1 then
        (0 : Int32)
      else
        (1 : Int32)
set_option maxRecDepth 20000 in
set_option maxHeartbeats 4000000 in
theorem p_X1_hasLife {g : pG} {l : Launch} {a0 : Int32} {a1 : Int32} {s : cS} {q : Int32} (h : f_X1_hasLife a0 a1 s = q) : PM g l 2 M_X1_hasLife [.ref 3, .int a0, .int a1] (tS s) (some (.int q)) (tS s) 0 0 := by
  refine PM.of (by decide +kernel) (Nat.le_of_ble_eq_true rfl) ?_
  show PW g l (pRoom 2 0 0) M_X1_hasLife _ 0 [(0, .ref 3), (1, .int a0), (2, .int a1)] [] (tS s) 0 0
  unfold f_X1_hasLife at h
  generalize hF : pE g (some (.int q)) (tS s) 0 0 = F
  have hx := hF.symm
  refine PW.aload_n 0 0 dX1_hasLife_0 rfl rfl rfl ?_
  refine PW.iload_n 1 1 dX1_hasLife_1 rfl rfl ?_
  refine CW.callVi (ci := 1) (st := []) [.int a0] dX1_hasLife_2 (p_X1_has rfl) MV_X1_has mL_X1_45 (by decide) rfl LA_3 rfl rfl (Nat.le_of_ble_eq_true rfl) (by first | decide | omega) ?_
  refine PW.if_eq (tgt := 28) dX1_hasLife_5 (by decide) (fun c2 => ?_) (fun c2 => ?_)
  · replace h := ifp h c2
    refine PW.iconst (v := 0) dX1_hasLife_28 (by decide) ?_
    cases h
    subst hx
    exact PW.iret (v := (0 : Int32)) dX1_hasLife_29 rfl (narZ (Or.inl rfl)) (Nat.le_refl 0) (Nat.le_refl 0)
  · replace h := ifn h c2
    refine PW.iload_n 2 2 dX1_hasLife_8 rfl rfl ?_
    refine PW.if_lt (tgt := 28) dX1_hasLife_9 (by decide) (fun c3 => ?_) (fun c3 => ?_)
    · replace h := ifp h c3
      refine PW.iconst (v := 0) dX1_hasLife_28 (by decide) ?_
      cases h
      subst hx
      exact PW.iret (v := (0 : Int32)) dX1_hasLife_29 rfl (narZ (Or.inl rfl)) (Nat.le_refl 0) (Nat.le_refl 0)
    · replace h := ifn h c3
      refine PW.iload_n 2 2 dX1_hasLife_12 rfl rfl ?_
      refine PW.aload_n 0 0 dX1_hasLife_13 rfl rfl rfl ?_
      refine CW.getr dX1_hasLife_14 fL_X1_22 LA_3 (Or.inr ⟨_, rfl⟩) rfl ?_
      refine PW.iload_n 1 1 dX1_hasLife_17 rfl rfl ?_
      refine CW.callSNi (st := [.int a1]) [.ref 8, .int a0] dX1_hasLife_18 (ps_at LA_8 rfl) MS_X11_at mN_X1_49 rfl rfl (Nat.le_of_ble_eq_true rfl) (by first | decide | omega) ?_
      refine PW.icmp_ge (tgt := 28) dX1_hasLife_21 (by decide) (fun c5 => ?_) (fun c5 => ?_)
      · replace h := ifp h c5
        refine PW.iconst (v := 0) dX1_hasLife_28 (by decide) ?_
        cases h
        subst hx
        exact PW.iret (v := (0 : Int32)) dX1_hasLife_29 rfl (narZ (Or.inl rfl)) (Nat.le_refl 0) (Nat.le_refl 0)
      · replace h := ifn h c5
        refine PW.iconst (v := 1) dX1_hasLife_24 (by decide) ?_
        refine PW.goto (tgt := 29) dX1_hasLife_25 (by decide) ?_
        cases h
        subst hx
        exact PW.iret (v := (1 : Int32)) dX1_hasLife_29 rfl (narZ (Or.inr rfl)) (Nat.le_refl 0) (Nat.le_refl 0)
theorem f_X1_hasLife_bool {a0 : Int32} {a1 : Int32} {s : cS} : f_X1_hasLife a0 a1 s = 0 ∨ f_X1_hasLife a0 a1 s = 1 := by
  unfold f_X1_hasLife
  repeat' split
  all_goals first | exact Or.inl rfl | exact Or.inr rfl | exact f_X1_has_bool
/-! X1_every -/
def f_X1_every (s : cS) : Int32 :=
  (((1 : Int32) <<< ((iG s 3 7) &&& 31)) - (1 : Int32))
set_option maxRecDepth 20000 in
set_option maxHeartbeats 4000000 in
theorem p_X1_every {g : pG} {l : Launch} {s : cS} {q : Int32} (h : f_X1_every s = q) : PM g l 1 M_X1_every [.ref 3] (tS s) (some (.int q)) (tS s) 0 0 := by
  refine PM.of (by decide +kernel) (Nat.le_of_ble_eq_true rfl) ?_
  show PW g l (pRoom 1 0 0) M_X1_every _ 0 [(0, .ref 3)] [] (tS s) 0 0
  unfold f_X1_every at h
  generalize hF : pE g (some (.int q)) (tS s) 0 0 = F
  have hx := hF.symm
  refine PW.iconst (v := 1) dX1_every_0 (by decide) ?_
  refine PW.aload_n 0 0 dX1_every_1 rfl rfl rfl ?_
  refine CW.geti dX1_every_2 fL_X1_41 LA_3 (Or.inl rfl) ?_
  refine PW.ishl dX1_every_5 ?_
  refine PW.iconst (v := 1) dX1_every_6 (by decide) ?_
  refine PW.isub dX1_every_7 ?_
  cases h
  subst hx
  exact PW.iret (v := (((1 : Int32) <<< ((iG s 3 7) &&& 31)) - (1 : Int32))) dX1_every_8 rfl rfl (Nat.le_refl 0) (Nat.le_refl 0)
/-! X1_hasPiece -/
def f_X1_hasPiece (a0 : Int32) (s : cS) : Int32 :=
  if a0 ≤ 0 then
    (0 : Int32)
  else
    if (f_X1_every s) < a0 then
      (0 : Int32)
    else
      (1 : Int32)
set_option maxRecDepth 20000 in
set_option maxHeartbeats 4000000 in
theorem p_X1_hasPiece {g : pG} {l : Launch} {a0 : Int32} {s : cS} {q : Int32} (h : f_X1_hasPiece a0 s = q) : PM g l 2 M_X1_hasPiece [.ref 3, .int a0] (tS s) (some (.int q)) (tS s) 0 0 := by
  refine PM.of (by decide +kernel) (Nat.le_of_ble_eq_true rfl) ?_
  show PW g l (pRoom 2 0 0) M_X1_hasPiece _ 0 [(0, .ref 3), (1, .int a0)] [] (tS s) 0 0
  unfold f_X1_hasPiece at h
  generalize hF : pE g (some (.int q)) (tS s) 0 0 = F
  have hx := hF.symm
  refine PW.iload_n 1 1 dX1_hasPiece_0 rfl rfl ?_
  refine PW.if_le (tgt := 16) dX1_hasPiece_1 (by decide) (fun c1 => ?_) (fun c1 => ?_)
  · replace h := ifp h c1
    refine PW.iconst (v := 0) dX1_hasPiece_16 (by decide) ?_
    cases h
    subst hx
    exact PW.iret (v := (0 : Int32)) dX1_hasPiece_17 rfl (narZ (Or.inl rfl)) (Nat.le_refl 0) (Nat.le_refl 0)
  · replace h := ifn h c1
    refine PW.iload_n 1 1 dX1_hasPiece_4 rfl rfl ?_
    refine PW.aload_n 0 0 dX1_hasPiece_5 rfl rfl rfl ?_
    refine CW.callVi (ci := 1) (st := [.int a0]) [] dX1_hasPiece_6 (p_X1_every rfl) MV_X1_every mL_X1_55 (by decide) rfl LA_3 rfl rfl (Nat.le_of_ble_eq_true rfl) (by first | decide | omega) ?_
    refine PW.icmp_gt (tgt := 16) dX1_hasPiece_9 (by decide) (fun c3 => ?_) (fun c3 => ?_)
    · replace h := ifp h c3
      refine PW.iconst (v := 0) dX1_hasPiece_16 (by decide) ?_
      cases h
      subst hx
      exact PW.iret (v := (0 : Int32)) dX1_hasPiece_17 rfl (narZ (Or.inl rfl)) (Nat.le_refl 0) (Nat.le_refl 0)
    · replace h := ifn h c3
      refine PW.iconst (v := 1) dX1_hasPiece_12 (by decide) ?_
      refine PW.goto (tgt := 17) dX1_hasPiece_13 (by decide) ?_
      cases h
      subst hx
      exact PW.iret (v := (1 : Int32)) dX1_hasPiece_17 rfl (narZ (Or.inr rfl)) (Nat.le_refl 0) (Nat.le_refl 0)
theorem f_X1_hasPiece_bool {a0 : Int32} {s : cS} : f_X1_hasPiece a0 s = 0 ∨ f_X1_hasPiece a0 s = 1 := by
  unfold f_X1_hasPiece
  repeat' split
  all_goals first | exact Or.inl rfl | exact Or.inr rfl
/-! X1_changed -/
def f_X1_changed (s : cS) : (Unit × cS) :=
  sb (iS s 3 8 ((iG s 3 8) + (1 : Int32))) fun s1 =>
  ((), s1)
set_option maxRecDepth 20000 in
set_option maxHeartbeats 4000000 in
theorem p_X1_changed {g : pG} {l : Launch} {s : cS} {q : Unit × cS} (h : f_X1_changed s = q) : PM g l 1 M_X1_changed [.ref 3] (tS s) none (tS q.2) 0 0 := by
  refine PM.of (by decide +kernel) (Nat.le_of_ble_eq_true rfl) ?_
  show PW g l (pRoom 1 0 0) M_X1_changed _ 0 [(0, .ref 3)] [] (tS s) 0 0
  unfold f_X1_changed at h
  generalize hF : pE g none (tS q.2) 0 0 = F
  have hx := hF.symm
  refine PW.aload_n 0 0 dX1_changed_0 rfl rfl rfl ?_
  refine PW.dup dX1_changed_1 rfl ?_
  refine CW.geti dX1_changed_2 fL_X1_59 LA_3 (Or.inl rfl) ?_
  refine PW.iconst (v := 1) dX1_changed_5 (by decide) ?_
  refine PW.iadd dX1_changed_6 ?_
  refine CW.puti dX1_changed_7 fL_X1_59 rfl LA_3 rfl ?_
  obtain ⟨s1, es1, h⟩ := sbnd h
  refine PW.sbe es1 ?_
  clear es1
  cases h
  subst hx
  exact PW.vret dX1_changed_10 rfl (Nat.le_refl 0) (Nat.le_refl 0)
/-! X1_stamp -/
def f_X1_stamp (s : cS) : Int32 :=
  (iG s 3 8)
set_option maxRecDepth 20000 in
set_option maxHeartbeats 4000000 in
theorem p_X1_stamp {g : pG} {l : Launch} {s : cS} {q : Int32} (h : f_X1_stamp s = q) : PM g l 1 M_X1_stamp [.ref 3] (tS s) (some (.int q)) (tS s) 0 0 := by
  refine PM.of (by decide +kernel) (Nat.le_of_ble_eq_true rfl) ?_
  show PW g l (pRoom 1 0 0) M_X1_stamp _ 0 [(0, .ref 3)] [] (tS s) 0 0
  unfold f_X1_stamp at h
  generalize hF : pE g (some (.int q)) (tS s) 0 0 = F
  have hx := hF.symm
  refine PW.aload_n 0 0 dX1_stamp_0 rfl rfl rfl ?_
  refine CW.geti dX1_stamp_1 fL_X1_59 LA_3 (Or.inl rfl) ?_
  cases h
  subst hx
  exact PW.iret (v := (iG s 3 8)) dX1_stamp_4 rfl rfl (Nat.le_refl 0) (Nat.le_refl 0)
/-! X1_lawNow -/
def f_X1_lawNow (s : cS) : Option Nat :=
  some s.1.1
set_option maxRecDepth 20000 in
set_option maxHeartbeats 4000000 in
theorem p_X1_lawNow {g : pG} {l : Launch} {s : cS} {q : Option Nat} (h : f_X1_lawNow s = q) : PM g l 1 M_X1_lawNow [.ref 3] (tS s) (some (va_rf q)) (tS s) 0 0 := by
  refine PM.of (by decide +kernel) (Nat.le_of_ble_eq_true rfl) ?_
  show PW g l (pRoom 1 0 0) M_X1_lawNow _ 0 [(0, .ref 3)] [] (tS s) 0 0
  unfold f_X1_lawNow at h
  generalize hF : pE g (some (va_rf q)) (tS s) 0 0 = F
  have hx := hF.symm
  refine PW.aload_n 0 0 dX1_lawNow_0 rfl rfl rfl ?_
  refine CW.getr dX1_lawNow_1 fL_X1_34 LA_3 (Or.inl ⟨_, rfl⟩) rfl ?_
  cases h
  subst hx
  exact PW.aret dX1_lawNow_4 rfl (Or.inl ⟨_, rfl⟩) rfl (Nat.le_refl 0) (Nat.le_refl 0)
/-! X1_spareLaw -/
def f_X1_spareLaw (s : cS) : Option Nat :=
  some s.1.2.1
set_option maxRecDepth 20000 in
set_option maxHeartbeats 4000000 in
theorem p_X1_spareLaw {g : pG} {l : Launch} {s : cS} {q : Option Nat} (h : f_X1_spareLaw s = q) : PM g l 1 M_X1_spareLaw [.ref 3] (tS s) (some (va_rf q)) (tS s) 0 0 := by
  refine PM.of (by decide +kernel) (Nat.le_of_ble_eq_true rfl) ?_
  show PW g l (pRoom 1 0 0) M_X1_spareLaw _ 0 [(0, .ref 3)] [] (tS s) 0 0
  unfold f_X1_spareLaw at h
  generalize hF : pE g (some (va_rf q)) (tS s) 0 0 = F
  have hx := hF.symm
  refine PW.aload_n 0 0 dX1_spareLaw_0 rfl rfl rfl ?_
  refine CW.getr dX1_spareLaw_1 fL_X1_38 LA_3 (Or.inl ⟨_, rfl⟩) rfl ?_
  cases h
  subst hx
  exact PW.aret dX1_spareLaw_4 rfl (Or.inl ⟨_, rfl⟩) rfl (Nat.le_refl 0) (Nat.le_refl 0)
