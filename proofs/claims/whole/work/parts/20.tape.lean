/-! X9_size -/
def f_X9_size (s : cS) : Int32 :=
  (iG s 1 1)
set_option maxRecDepth 20000 in
set_option maxHeartbeats 4000000 in
theorem p_X9_size {g : pG} {l : Launch} {s : cS} {q : Int32} (h : f_X9_size s = q) : PM g l 1 M_X9_size [.ref 1] (tS s) (some (.int q)) (tS s) 0 0 := by
  refine PM.of (by decide +kernel) (Nat.le_of_ble_eq_true rfl) ?_
  show PW g l (pRoom 1 0 0) M_X9_size _ 0 [(0, .ref 1)] [] (tS s) 0 0
  unfold f_X9_size at h
  generalize hF : pE g (some (.int q)) (tS s) 0 0 = F
  have hx := hF.symm
  refine PW.aload_n 0 0 dX9_size_0 rfl rfl rfl ?_
  refine CW.geti dX9_size_1 fL_X9_13 LA_1 (Or.inl rfl) ?_
  cases h
  subst hx
  exact PW.iret (v := (iG s 1 1)) dX9_size_4 rfl rfl (Nat.le_refl 0) (Nat.le_refl 0)
/-! X9_hasRoomFor -/
def f_X9_hasRoomFor (a0 : Int32) (s : cS) : Int32 :=
  if (200 : Int32) < ((iG s 1 1) + a0) then
    (0 : Int32)
  else
    (1 : Int32)
set_option maxRecDepth 20000 in
set_option maxHeartbeats 4000000 in
theorem p_X9_hasRoomFor {g : pG} {l : Launch} {a0 : Int32} {s : cS} {q : Int32} (h : f_X9_hasRoomFor a0 s = q) : PM g l 1 M_X9_hasRoomFor [.ref 1, .int a0] (tS s) (some (.int q)) (tS s) 0 0 := by
  refine PM.of (by decide +kernel) (Nat.le_of_ble_eq_true rfl) ?_
  show PW g l (pRoom 1 0 0) M_X9_hasRoomFor _ 0 [(0, .ref 1), (1, .int a0)] [] (tS s) 0 0
  unfold f_X9_hasRoomFor at h
  generalize hF : pE g (some (.int q)) (tS s) 0 0 = F
  have hx := hF.symm
  refine PW.aload_n 0 0 dX9_hasRoomFor_0 rfl rfl rfl ?_
  refine CW.geti dX9_hasRoomFor_1 fL_X9_13 LA_1 (Or.inl rfl) ?_
  refine PW.iload_n 1 1 dX9_hasRoomFor_4 rfl rfl ?_
  refine PW.iadd dX9_hasRoomFor_5 ?_
  refine PW.aload_n 0 0 dX9_hasRoomFor_6 rfl rfl rfl ?_
  refine CW.getr dX9_hasRoomFor_7 fL_X9_7 LA_1 (Or.inr ⟨_, rfl⟩) rfl ?_
  refine CW.alen (v := 200) dX9_hasRoomFor_10 LA_2 (by decide) rfl ?_
  refine PW.icmp_gt (tgt := 18) dX9_hasRoomFor_11 (by decide) (fun c1 => ?_) (fun c1 => ?_)
  · replace h := ifp h c1
    refine PW.iconst (v := 0) dX9_hasRoomFor_18 (by decide) ?_
    cases h
    subst hx
    exact PW.iret (v := (0 : Int32)) dX9_hasRoomFor_19 rfl (narZ (Or.inl rfl)) (Nat.le_refl 0) (Nat.le_refl 0)
  · replace h := ifn h c1
    refine PW.iconst (v := 1) dX9_hasRoomFor_14 (by decide) ?_
    refine PW.goto (tgt := 19) dX9_hasRoomFor_15 (by decide) ?_
    cases h
    subst hx
    exact PW.iret (v := (1 : Int32)) dX9_hasRoomFor_19 rfl (narZ (Or.inr rfl)) (Nat.le_refl 0) (Nat.le_refl 0)
theorem f_X9_hasRoomFor_bool {a0 : Int32} {s : cS} : f_X9_hasRoomFor a0 s = 0 ∨ f_X9_hasRoomFor a0 s = 1 := by
  unfold f_X9_hasRoomFor
  repeat' split
  all_goals first | exact Or.inl rfl | exact Or.inr rfl
/-! X9_clear -/
def f_X9_clear (s : cS) : (Unit × cS) :=
  sb (iS s 1 1 (0 : Int32)) fun s1 =>
  ((), s1)
set_option maxRecDepth 20000 in
set_option maxHeartbeats 4000000 in
theorem p_X9_clear {g : pG} {l : Launch} {s : cS} {q : Unit × cS} (h : f_X9_clear s = q) : PM g l 1 M_X9_clear [.ref 1] (tS s) none (tS q.2) 0 0 := by
  refine PM.of (by decide +kernel) (Nat.le_of_ble_eq_true rfl) ?_
  show PW g l (pRoom 1 0 0) M_X9_clear _ 0 [(0, .ref 1)] [] (tS s) 0 0
  unfold f_X9_clear at h
  generalize hF : pE g none (tS q.2) 0 0 = F
  have hx := hF.symm
  refine PW.aload_n 0 0 dX9_clear_0 rfl rfl rfl ?_
  refine PW.iconst (v := 0) dX9_clear_1 (by decide) ?_
  refine CW.puti dX9_clear_2 fL_X9_13 rfl LA_1 rfl ?_
  obtain ⟨s1, es1, h⟩ := sbnd h
  refine PW.sbe es1 ?_
  clear es1
  cases h
  subst hx
  exact PW.vret dX9_clear_5 rfl (Nat.le_refl 0) (Nat.le_refl 0)
/-! X9_open -/
def f_X9_open (a0 : Int32) (s : cS) : (Unit × cS) :=
  sb (iS s 1 2 a0) fun s1 =>
  sb (iS s1 1 3 (0 : Int32)) fun s2 =>
  sb (iS s2 1 4 (0 : Int32)) fun s3 =>
  sb (iS s3 1 5 (0 : Int32)) fun s4 =>
  ((), s4)
set_option maxRecDepth 20000 in
set_option maxHeartbeats 4000000 in
theorem p_X9_open {g : pG} {l : Launch} {a0 : Int32} {s : cS} {q : Unit × cS} (h : f_X9_open a0 s = q) : PM g l 1 M_X9_open [.ref 1, .int a0] (tS s) none (tS q.2) 0 0 := by
  refine PM.of (by decide +kernel) (Nat.le_of_ble_eq_true rfl) ?_
  show PW g l (pRoom 1 0 0) M_X9_open _ 0 [(0, .ref 1), (1, .int a0)] [] (tS s) 0 0
  unfold f_X9_open at h
  generalize hF : pE g none (tS q.2) 0 0 = F
  have hx := hF.symm
  refine PW.aload_n 0 0 dX9_open_0 rfl rfl rfl ?_
  refine PW.iload_n 1 1 dX9_open_1 rfl rfl ?_
  refine CW.puti dX9_open_2 fL_X9_27 rfl LA_1 rfl ?_
  obtain ⟨s1, es1, h⟩ := sbnd h
  refine PW.sbe es1 ?_
  clear es1
  refine PW.aload_n 0 0 dX9_open_5 rfl rfl rfl ?_
  refine PW.iconst (v := 0) dX9_open_6 (by decide) ?_
  refine CW.puti dX9_open_7 fL_X9_30 rfl LA_1 rfl ?_
  obtain ⟨s2, es2, h⟩ := sbnd h
  refine PW.sbe es2 ?_
  clear es2
  refine PW.aload_n 0 0 dX9_open_10 rfl rfl rfl ?_
  refine PW.iconst (v := 0) dX9_open_11 (by decide) ?_
  refine CW.puti dX9_open_12 fL_X9_33 rfl LA_1 rfl ?_
  obtain ⟨s3, es3, h⟩ := sbnd h
  refine PW.sbe es3 ?_
  clear es3
  refine PW.aload_n 0 0 dX9_open_15 rfl rfl rfl ?_
  refine PW.iconst (v := 0) dX9_open_16 (by decide) ?_
  refine CW.puti dX9_open_17 fL_X9_36 rfl LA_1 rfl ?_
  obtain ⟨s4, es4, h⟩ := sbnd h
  refine PW.sbe es4 ?_
  clear es4
  cases h
  subst hx
  exact PW.vret dX9_open_20 rfl (Nat.le_refl 0) (Nat.le_refl 0)
/-! X9_atEnd -/
def f_X9_atEnd (s : cS) : Int32 :=
  if (iG s 1 4) = 0 then
    if (iG s 1 3) < (iG s 1 2) then
      (0 : Int32)
    else
      (1 : Int32)
  else
    (0 : Int32)
set_option maxRecDepth 20000 in
set_option maxHeartbeats 4000000 in
theorem p_X9_atEnd {g : pG} {l : Launch} {s : cS} {q : Int32} (h : f_X9_atEnd s = q) : PM g l 1 M_X9_atEnd [.ref 1] (tS s) (some (.int q)) (tS s) 0 0 := by
  refine PM.of (by decide +kernel) (Nat.le_of_ble_eq_true rfl) ?_
  show PW g l (pRoom 1 0 0) M_X9_atEnd _ 0 [(0, .ref 1)] [] (tS s) 0 0
  unfold f_X9_atEnd at h
  generalize hF : pE g (some (.int q)) (tS s) 0 0 = F
  have hx := hF.symm
  refine PW.aload_n 0 0 dX9_atEnd_0 rfl rfl rfl ?_
  refine CW.geti dX9_atEnd_1 fL_X9_33 LA_1 (Or.inl rfl) ?_
  refine PW.if_ne (tgt := 22) dX9_atEnd_4 (by decide) (fun c1 => ?_) (fun c1 => ?_)
  · replace h := ifn h c1
    refine PW.iconst (v := 0) dX9_atEnd_22 (by decide) ?_
    cases h
    subst hx
    exact PW.iret (v := (0 : Int32)) dX9_atEnd_23 rfl (narZ (Or.inl rfl)) (Nat.le_refl 0) (Nat.le_refl 0)
  · replace h := ifp h c1
    refine PW.aload_n 0 0 dX9_atEnd_7 rfl rfl rfl ?_
    refine CW.geti dX9_atEnd_8 fL_X9_30 LA_1 (Or.inl rfl) ?_
    refine PW.aload_n 0 0 dX9_atEnd_11 rfl rfl rfl ?_
    refine CW.geti dX9_atEnd_12 fL_X9_27 LA_1 (Or.inl rfl) ?_
    refine PW.icmp_lt (tgt := 22) dX9_atEnd_15 (by decide) (fun c2 => ?_) (fun c2 => ?_)
    · replace h := ifp h c2
      refine PW.iconst (v := 0) dX9_atEnd_22 (by decide) ?_
      cases h
      subst hx
      exact PW.iret (v := (0 : Int32)) dX9_atEnd_23 rfl (narZ (Or.inl rfl)) (Nat.le_refl 0) (Nat.le_refl 0)
    · replace h := ifn h c2
      refine PW.iconst (v := 1) dX9_atEnd_18 (by decide) ?_
      refine PW.goto (tgt := 23) dX9_atEnd_19 (by decide) ?_
      cases h
      subst hx
      exact PW.iret (v := (1 : Int32)) dX9_atEnd_23 rfl (narZ (Or.inr rfl)) (Nat.le_refl 0) (Nat.le_refl 0)
theorem f_X9_atEnd_bool {s : cS} : f_X9_atEnd s = 0 ∨ f_X9_atEnd s = 1 := by
  unfold f_X9_atEnd
  repeat' split
  all_goals first | exact Or.inl rfl | exact Or.inr rfl
/-! X9_place -/
def f_X9_place (s : cS) : Int32 :=
  (iG s 1 3)
set_option maxRecDepth 20000 in
set_option maxHeartbeats 4000000 in
theorem p_X9_place {g : pG} {l : Launch} {s : cS} {q : Int32} (h : f_X9_place s = q) : PM g l 1 M_X9_place [.ref 1] (tS s) (some (.int q)) (tS s) 0 0 := by
  refine PM.of (by decide +kernel) (Nat.le_of_ble_eq_true rfl) ?_
  show PW g l (pRoom 1 0 0) M_X9_place _ 0 [(0, .ref 1)] [] (tS s) 0 0
  unfold f_X9_place at h
  generalize hF : pE g (some (.int q)) (tS s) 0 0 = F
  have hx := hF.symm
  refine PW.aload_n 0 0 dX9_place_0 rfl rfl rfl ?_
  refine CW.geti dX9_place_1 fL_X9_30 LA_1 (Or.inl rfl) ?_
  cases h
  subst hx
  exact PW.iret (v := (iG s 1 3)) dX9_place_4 rfl rfl (Nat.le_refl 0) (Nat.le_refl 0)
/-! X9_fail -/
def f_X9_fail (a0 : Int32) (a1 : Int32) (s : cS) : (Unit × cS) :=
  if (iG s 1 4) = 0 then
    sb (iS s 1 4 a0) fun s2 =>
    sb (iS s2 1 5 a1) fun s3 =>
    ((), s3)
  else
    ((), s)
set_option maxRecDepth 20000 in
set_option maxHeartbeats 4000000 in
theorem p_X9_fail {g : pG} {l : Launch} {a0 : Int32} {a1 : Int32} {s : cS} {q : Unit × cS} (h : f_X9_fail a0 a1 s = q) : PM g l 1 M_X9_fail [.ref 1, .int a0, .int a1] (tS s) none (tS q.2) 0 0 := by
  refine PM.of (by decide +kernel) (Nat.le_of_ble_eq_true rfl) ?_
  show PW g l (pRoom 1 0 0) M_X9_fail _ 0 [(0, .ref 1), (1, .int a0), (2, .int a1)] [] (tS s) 0 0
  unfold f_X9_fail at h
  generalize hF : pE g none (tS q.2) 0 0 = F
  have hx := hF.symm
  refine PW.aload_n 0 0 dX9_fail_0 rfl rfl rfl ?_
  refine CW.geti dX9_fail_1 fL_X9_33 LA_1 (Or.inl rfl) ?_
  refine PW.if_ne (tgt := 17) dX9_fail_4 (by decide) (fun c1 => ?_) (fun c1 => ?_)
  · replace h := ifn h c1
    cases h
    subst hx
    exact PW.vret dX9_fail_17 rfl (Nat.le_refl 0) (Nat.le_refl 0)
  · replace h := ifp h c1
    refine PW.aload_n 0 0 dX9_fail_7 rfl rfl rfl ?_
    refine PW.iload_n 1 1 dX9_fail_8 rfl rfl ?_
    refine CW.puti dX9_fail_9 fL_X9_33 rfl LA_1 rfl ?_
    obtain ⟨s2, es2, h⟩ := sbnd h
    refine PW.sbe es2 ?_
    clear es2
    refine PW.aload_n 0 0 dX9_fail_12 rfl rfl rfl ?_
    refine PW.iload_n 2 2 dX9_fail_13 rfl rfl ?_
    refine CW.puti dX9_fail_14 fL_X9_36 rfl LA_1 rfl ?_
    obtain ⟨s3, es3, h⟩ := sbnd h
    refine PW.sbe es3 ?_
    clear es3
    cases h
    subst hx
    exact PW.vret dX9_fail_17 rfl (Nat.le_refl 0) (Nat.le_refl 0)
/-! X9_sound -/
def f_X9_sound (s : cS) : Int32 :=
  if (iG s 1 4) = 0 then
    (1 : Int32)
  else
    (0 : Int32)
set_option maxRecDepth 20000 in
set_option maxHeartbeats 4000000 in
theorem p_X9_sound {g : pG} {l : Launch} {s : cS} {q : Int32} (h : f_X9_sound s = q) : PM g l 1 M_X9_sound [.ref 1] (tS s) (some (.int q)) (tS s) 0 0 := by
  refine PM.of (by decide +kernel) (Nat.le_of_ble_eq_true rfl) ?_
  show PW g l (pRoom 1 0 0) M_X9_sound _ 0 [(0, .ref 1)] [] (tS s) 0 0
  unfold f_X9_sound at h
  generalize hF : pE g (some (.int q)) (tS s) 0 0 = F
  have hx := hF.symm
  refine PW.aload_n 0 0 dX9_sound_0 rfl rfl rfl ?_
  refine CW.geti dX9_sound_1 fL_X9_33 LA_1 (Or.inl rfl) ?_
  refine PW.if_ne (tgt := 11) dX9_sound_4 (by decide) (fun c1 => ?_) (fun c1 => ?_)
  · replace h := ifn h c1
    refine PW.iconst (v := 0) dX9_sound_11 (by decide) ?_
    cases h
    subst hx
    exact PW.iret (v := (0 : Int32)) dX9_sound_12 rfl (narZ (Or.inl rfl)) (Nat.le_refl 0) (Nat.le_refl 0)
  · replace h := ifp h c1
    refine PW.iconst (v := 1) dX9_sound_7 (by decide) ?_
    refine PW.goto (tgt := 12) dX9_sound_8 (by decide) ?_
    cases h
    subst hx
    exact PW.iret (v := (1 : Int32)) dX9_sound_12 rfl (narZ (Or.inr rfl)) (Nat.le_refl 0) (Nat.le_refl 0)
theorem f_X9_sound_bool {s : cS} : f_X9_sound s = 0 ∨ f_X9_sound s = 1 := by
  unfold f_X9_sound
  repeat' split
  all_goals first | exact Or.inl rfl | exact Or.inr rfl
/-! X9_faultTold -/
def f_X9_faultTold (s : cS) : Int32 :=
  (((-1000 : Int32) * (iG s 1 4)) - (iG s 1 5))
set_option maxRecDepth 20000 in
set_option maxHeartbeats 4000000 in
theorem p_X9_faultTold {g : pG} {l : Launch} {s : cS} {q : Int32} (h : f_X9_faultTold s = q) : PM g l 1 M_X9_faultTold [.ref 1] (tS s) (some (.int q)) (tS s) 0 0 := by
  refine PM.of (by decide +kernel) (Nat.le_of_ble_eq_true rfl) ?_
  show PW g l (pRoom 1 0 0) M_X9_faultTold _ 0 [(0, .ref 1)] [] (tS s) 0 0
  unfold f_X9_faultTold at h
  generalize hF : pE g (some (.int q)) (tS s) 0 0 = F
  have hx := hF.symm
  refine PW.sipush (v := (-1000)) dX9_faultTold_0 (by decide) ?_
  refine PW.aload_n 0 0 dX9_faultTold_3 rfl rfl rfl ?_
  refine CW.geti dX9_faultTold_4 fL_X9_33 LA_1 (Or.inl rfl) ?_
  refine PW.imul dX9_faultTold_7 ?_
  refine PW.aload_n 0 0 dX9_faultTold_8 rfl rfl rfl ?_
  refine CW.geti dX9_faultTold_9 fL_X9_36 LA_1 (Or.inl rfl) ?_
  refine PW.isub dX9_faultTold_12 ?_
  cases h
  subst hx
  exact PW.iret (v := (((-1000 : Int32) * (iG s 1 4)) - (iG s 1 5))) dX9_faultTold_13 rfl rfl (Nat.le_refl 0) (Nat.le_refl 0)
/-! X9_word -/
def b_X9_word_4 (x1 : Int32) (x2 : Int32) (x3 : Int32) (s : cS) : Option (((Int32 × Int32) × cS) ⊕ (Int32 × cS)) :=
  if (4 : Int32) ≤ x3 then
    oR (
      some ((x2, s)))
  else
    some (.inl ((((x2 <<< ((8 : Int32) &&& 31)) ||| (aA s 2 200 (((4 : Int32) * x1) + x3))), (x3 + (1 : Int32))), s))
set_option maxRecDepth 20000 in
set_option maxHeartbeats 4000000 in
theorem ok_b_X9_word_4 {g : pG} {l : Launch} {F : pF} {x1 : Int32} {x2 : Int32} {x3 : Int32} {s : cS} {x : (((Int32 × Int32) × cS) ⊕ (Int32 × cS))} (h : b_X9_word_4 x1 x2 x3 s = some x) (hx : (KL (fun (v : (Int32 × Int32) × cS) => PW g l (pRoom 2 0 0) M_X9_word F 4 [(0, .ref 1), (1, .int x1), (2, .int v.1.1), (3, .int v.1.2)] [] (tS v.2) 0 0) (fun q => F = pE g (some (.int q.1)) (tS q.2) 0 0)) x) : PW g l (pRoom 2 0 0) M_X9_word F 4 [(0, .ref 1), (1, .int x1), (2, .int x2), (3, .int x3)] [] (tS s) 0 0 := by
  unfold b_X9_word_4 at h
  refine PW.iload_n 3 3 dX9_word_4 rfl rfl ?_
  refine PW.iconst (v := 4) dX9_word_5 (by decide) ?_
  refine PW.icmp_ge (tgt := 33) dX9_word_6 (by decide) (fun c1 => ?_) (fun c1 => ?_)
  · replace h := ifp h c1
    obtain ⟨xo, hy, hxo⟩ := oRb h
    clear h
    subst hxo
    replace hx := KLr hx
    have h := hy
    clear hy
    refine PW.iload_n 2 2 dX9_word_33 rfl rfl ?_
    cases h
    subst hx
    exact PW.iret (v := x2) dX9_word_34 rfl rfl (Nat.le_refl 0) (Nat.le_refl 0)
  · replace h := ifn h c1
    refine PW.iload_n 2 2 dX9_word_9 rfl rfl ?_
    refine PW.bipush (v := 8) dX9_word_10 (by decide) ?_
    refine PW.ishl dX9_word_12 ?_
    refine PW.aload_n 0 0 dX9_word_13 rfl rfl rfl ?_
    refine CW.getr dX9_word_14 fL_X9_7 LA_1 (Or.inr ⟨_, rfl⟩) rfl ?_
    refine PW.iconst (v := 4) dX9_word_17 (by decide) ?_
    refine PW.iload_n 1 1 dX9_word_18 rfl rfl ?_
    refine PW.imul dX9_word_19 ?_
    refine PW.iload_n 3 3 dX9_word_20 rfl rfl ?_
    refine PW.iadd dX9_word_21 ?_
    refine CW.callSNi (st := [.int (x2 <<< ((8 : Int32) &&& 31))]) [.ref 2, .int (((4 : Int32) * x1) + x3)] dX9_word_22 (ps_at LA_2 rfl) MS_X11_at mN_X9_23 rfl rfl (Nat.le_of_ble_eq_true rfl) (by first | decide | omega) ?_
    refine PW.ior dX9_word_25 ?_
    refine PW.istore_n dX9_word_26 rfl (Nat.le_of_ble_eq_true rfl) rfl ?_
    refine PW.iinc (v := (x3 + (1 : Int32))) 3 dX9_word_27 rfl (by first | rfl | decide) (Nat.le_of_ble_eq_true rfl) rfl ?_
    refine PW.goto (tgt := 4) dX9_word_30 (by decide) ?_
    cases h
    exact PW.pick [2, 3, 1, 0] rfl hx
def w_X9_word_4 (N : Nat) (x1 : Int32) (x2 : Int32) (x3 : Int32) (s : cS) : Option (Int32 × cS) := itr (fun (v : (Int32 × Int32) × cS) => b_X9_word_4 x1 v.1.1 v.1.2 v.2) N ((x2, x3), s)
theorem ok_w_X9_word_4 {g : pG} {l : Launch} {F : pF} {N : Nat} {x1 : Int32} {x2 : Int32} {x3 : Int32} {s : cS} {x : (Int32 × cS)} (h : w_X9_word_4 N x1 x2 x3 s = some x) (hx : (fun q => F = pE g (some (.int q.1)) (tS q.2) 0 0) x) : PW g l (pRoom 2 0 0) M_X9_word F 4 [(0, .ref 1), (1, .int x1), (2, .int x2), (3, .int x3)] [] (tS s) 0 0 :=
  okIter (P := (fun (v : (Int32 × Int32) × cS) => PW g l (pRoom 2 0 0) M_X9_word F 4 [(0, .ref 1), (1, .int x1), (2, .int v.1.1), (3, .int v.1.2)] [] (tS v.2) 0 0)) (K := (fun q => F = pE g (some (.int q.1)) (tS q.2) 0 0)) (fun v y hB hy => ok_b_X9_word_4 hB hy) N ((x2, x3), s) x h hx
def f_X9_word (N : Nat) (a0 : Int32) (s : cS) : Option (Int32 × cS) :=
  w_X9_word_4 N a0 (0 : Int32) (0 : Int32) s
set_option maxRecDepth 20000 in
set_option maxHeartbeats 4000000 in
theorem p_X9_word {g : pG} {l : Launch} {N : Nat} {a0 : Int32} {s : cS} {q : Int32 × cS} (h : f_X9_word N a0 s = some q) : PM g l 2 M_X9_word [.ref 1, .int a0] (tS s) (some (.int q.1)) (tS q.2) 0 0 := by
  refine PM.of (by decide +kernel) (Nat.le_of_ble_eq_true rfl) ?_
  show PW g l (pRoom 2 0 0) M_X9_word _ 0 [(0, .ref 1), (1, .int a0)] [] (tS s) 0 0
  unfold f_X9_word at h
  generalize hF : pE g (some (.int q.1)) (tS q.2) 0 0 = F
  have hx := hF.symm
  refine PW.iconst (v := 0) dX9_word_0 (by decide) ?_
  refine PW.istore_n dX9_word_1 rfl (Nat.le_of_ble_eq_true rfl) rfl ?_
  refine PW.iconst (v := 0) dX9_word_2 (by decide) ?_
  refine PW.istore_n dX9_word_3 rfl (Nat.le_of_ble_eq_true rfl) rfl ?_
  exact PW.pick [2, 3, 1, 0] rfl (ok_w_X9_word_4 h hx)
/-! X9_add -/
def b_X9_add_3 (x1 : Int32) (x2 : Int32) (s : cS) : Option ((Int32 × cS) ⊕ (Unit × cS)) :=
  if x2 < 0 then
    oR (
      some (((), s)))
  else
    sb (pA s 2 200 (iG s 1 1) ((x1.toUInt32 >>> (x2.toUInt32 &&& Int32.toUInt32 31)).toInt32 &&& (255 : Int32))) fun s3 =>
    sb (iS s3 1 1 ((iG s3 1 1) + (1 : Int32))) fun s5 =>
    some (.inl ((x2 + (-8)), s5))
set_option maxRecDepth 20000 in
set_option maxHeartbeats 4000000 in
theorem ok_b_X9_add_3 {g : pG} {l : Launch} {F : pF} {x1 : Int32} {x2 : Int32} {s : cS} {x : ((Int32 × cS) ⊕ (Unit × cS))} (h : b_X9_add_3 x1 x2 s = some x) (hx : (KL (fun (v : Int32 × cS) => PW g l (pRoom 2 0 0) M_X9_add F 3 [(0, .ref 1), (1, .int x1), (2, .int v.1)] [] (tS v.2) 0 0) (fun q => F = pE g none (tS q.2) 0 0)) x) : PW g l (pRoom 2 0 0) M_X9_add F 3 [(0, .ref 1), (1, .int x1), (2, .int x2)] [] (tS s) 0 0 := by
  unfold b_X9_add_3 at h
  refine PW.iload_n 2 2 dX9_add_3 rfl rfl ?_
  refine PW.if_lt (tgt := 41) dX9_add_4 (by decide) (fun c1 => ?_) (fun c1 => ?_)
  · replace h := ifp h c1
    obtain ⟨xo, hy, hxo⟩ := oRb h
    clear h
    subst hxo
    replace hx := KLr hx
    have h := hy
    clear hy
    cases h
    subst hx
    exact PW.vret dX9_add_41 rfl (Nat.le_refl 0) (Nat.le_refl 0)
  · replace h := ifn h c1
    refine PW.aload_n 0 0 dX9_add_7 rfl rfl rfl ?_
    refine CW.getr dX9_add_8 fL_X9_7 LA_1 (Or.inr ⟨_, rfl⟩) rfl ?_
    refine PW.aload_n 0 0 dX9_add_11 rfl rfl rfl ?_
    refine CW.geti dX9_add_12 fL_X9_13 LA_1 (Or.inl rfl) ?_
    refine PW.iload_n 1 1 dX9_add_15 rfl rfl ?_
    refine PW.iload_n 2 2 dX9_add_16 rfl rfl ?_
    refine PW.iushr dX9_add_17 rfl ?_
    refine PW.sipush (v := 255) dX9_add_18 (by decide) ?_
    refine PW.iand dX9_add_21 ?_
    obtain ⟨s3, q4, h⟩ := sbnd h
    refine CW.callSNv (st := []) [.ref 2, .int (iG s 1 1), .int ((x1.toUInt32 >>> (x2.toUInt32 &&& Int32.toUInt32 31)).toInt32 &&& (255 : Int32))] dX9_add_22 (ps_put LA_2 q4) MS_X11_put mN_X9_17 rfl rfl (Nat.le_of_ble_eq_true rfl) (by first | decide | omega) ?_
    refine PW.aload_n 0 0 dX9_add_25 rfl rfl rfl ?_
    refine PW.dup dX9_add_26 rfl ?_
    refine CW.geti dX9_add_27 fL_X9_13 LA_1 (Or.inl rfl) ?_
    refine PW.iconst (v := 1) dX9_add_30 (by decide) ?_
    refine PW.iadd dX9_add_31 ?_
    refine CW.puti dX9_add_32 fL_X9_13 rfl LA_1 rfl ?_
    obtain ⟨s5, es5, h⟩ := sbnd h
    refine PW.sbe es5 ?_
    clear es5
    refine PW.iinc (v := (x2 + (-8))) 2 dX9_add_35 rfl (by first | rfl | decide) (Nat.le_of_ble_eq_true rfl) rfl ?_
    refine PW.goto (tgt := 3) dX9_add_38 (by decide) ?_
    cases h
    exact PW.pick [1, 2, 0] rfl hx
def w_X9_add_3 (N : Nat) (x1 : Int32) (x2 : Int32) (s : cS) : Option (Unit × cS) := itr (fun (v : Int32 × cS) => b_X9_add_3 x1 v.1 v.2) N (x2, s)
theorem ok_w_X9_add_3 {g : pG} {l : Launch} {F : pF} {N : Nat} {x1 : Int32} {x2 : Int32} {s : cS} {x : (Unit × cS)} (h : w_X9_add_3 N x1 x2 s = some x) (hx : (fun q => F = pE g none (tS q.2) 0 0) x) : PW g l (pRoom 2 0 0) M_X9_add F 3 [(0, .ref 1), (1, .int x1), (2, .int x2)] [] (tS s) 0 0 :=
  okIter (P := (fun (v : Int32 × cS) => PW g l (pRoom 2 0 0) M_X9_add F 3 [(0, .ref 1), (1, .int x1), (2, .int v.1)] [] (tS v.2) 0 0)) (K := (fun q => F = pE g none (tS q.2) 0 0)) (fun v y hB hy => ok_b_X9_add_3 hB hy) N (x2, s) x h hx
def f_X9_add (N : Nat) (a0 : Int32) (s : cS) : Option (Unit × cS) :=
  w_X9_add_3 N a0 (24 : Int32) s
set_option maxRecDepth 20000 in
set_option maxHeartbeats 4000000 in
theorem p_X9_add {g : pG} {l : Launch} {N : Nat} {a0 : Int32} {s : cS} {q : Unit × cS} (h : f_X9_add N a0 s = some q) : PM g l 2 M_X9_add [.ref 1, .int a0] (tS s) none (tS q.2) 0 0 := by
  refine PM.of (by decide +kernel) (Nat.le_of_ble_eq_true rfl) ?_
  show PW g l (pRoom 2 0 0) M_X9_add _ 0 [(0, .ref 1), (1, .int a0)] [] (tS s) 0 0
  unfold f_X9_add at h
  generalize hF : pE g none (tS q.2) 0 0 = F
  have hx := hF.symm
  refine PW.bipush (v := 24) dX9_add_0 (by decide) ?_
  refine PW.istore_n dX9_add_2 rfl (Nat.le_of_ble_eq_true rfl) rfl ?_
  exact PW.pick [1, 2, 0] rfl (ok_w_X9_add_3 h hx)
/-! X9_sign -/
def f_X9_sign (s : cS) : Option (Int32 × cS) :=
  if (iG s 1 4) = 0 then
    if (iG s 1 3) < 0 then
      some (((-1 : Int32), s))
    else
      if (iG s 1 2) ≤ (iG s 1 3) then
        some (((-1 : Int32), s))
      else
        if (200 : Int32) ≤ (iG s 1 3) then
          some (((-1 : Int32), s))
        else
          if inb (iG s 1 3) 200 then
          some (((iG s 2 (iG s 1 3).toNatClampNeg), s))
          else none
  else
    some (((-1 : Int32), s))
set_option maxRecDepth 20000 in
set_option maxHeartbeats 4000000 in
theorem p_X9_sign {g : pG} {l : Launch} {s : cS} {q : Int32 × cS} (h : f_X9_sign s = some q) : PM g l 1 M_X9_sign [.ref 1] (tS s) (some (.int q.1)) (tS q.2) 0 0 := by
  refine PM.of (by decide +kernel) (Nat.le_of_ble_eq_true rfl) ?_
  show PW g l (pRoom 1 0 0) M_X9_sign _ 0 [(0, .ref 1)] [] (tS s) 0 0
  unfold f_X9_sign at h
  generalize hF : pE g (some (.int q.1)) (tS q.2) 0 0 = F
  have hx := hF.symm
  refine PW.aload_n 0 0 dX9_sign_0 rfl rfl rfl ?_
  refine CW.geti dX9_sign_1 fL_X9_33 LA_1 (Or.inl rfl) ?_
  refine PW.if_ne (tgt := 49) dX9_sign_4 (by decide) (fun c1 => ?_) (fun c1 => ?_)
  · replace h := ifn h c1
    refine PW.iconst (v := (-1)) dX9_sign_49 (by decide) ?_
    cases h
    subst hx
    exact PW.iret (v := (-1 : Int32)) dX9_sign_50 rfl rfl (Nat.le_refl 0) (Nat.le_refl 0)
  · replace h := ifp h c1
    refine PW.aload_n 0 0 dX9_sign_7 rfl rfl rfl ?_
    refine CW.geti dX9_sign_8 fL_X9_30 LA_1 (Or.inl rfl) ?_
    refine PW.if_lt (tgt := 49) dX9_sign_11 (by decide) (fun c2 => ?_) (fun c2 => ?_)
    · replace h := ifp h c2
      refine PW.iconst (v := (-1)) dX9_sign_49 (by decide) ?_
      cases h
      subst hx
      exact PW.iret (v := (-1 : Int32)) dX9_sign_50 rfl rfl (Nat.le_refl 0) (Nat.le_refl 0)
    · replace h := ifn h c2
      refine PW.aload_n 0 0 dX9_sign_14 rfl rfl rfl ?_
      refine CW.geti dX9_sign_15 fL_X9_30 LA_1 (Or.inl rfl) ?_
      refine PW.aload_n 0 0 dX9_sign_18 rfl rfl rfl ?_
      refine CW.geti dX9_sign_19 fL_X9_27 LA_1 (Or.inl rfl) ?_
      refine PW.icmp_ge (tgt := 49) dX9_sign_22 (by decide) (fun c3 => ?_) (fun c3 => ?_)
      · replace h := ifp h c3
        refine PW.iconst (v := (-1)) dX9_sign_49 (by decide) ?_
        cases h
        subst hx
        exact PW.iret (v := (-1 : Int32)) dX9_sign_50 rfl rfl (Nat.le_refl 0) (Nat.le_refl 0)
      · replace h := ifn h c3
        refine PW.aload_n 0 0 dX9_sign_25 rfl rfl rfl ?_
        refine CW.geti dX9_sign_26 fL_X9_30 LA_1 (Or.inl rfl) ?_
        refine PW.aload_n 0 0 dX9_sign_29 rfl rfl rfl ?_
        refine CW.getr dX9_sign_30 fL_X9_7 LA_1 (Or.inr ⟨_, rfl⟩) rfl ?_
        refine CW.alen (v := 200) dX9_sign_33 LA_2 (by decide) rfl ?_
        refine PW.icmp_ge (tgt := 49) dX9_sign_34 (by decide) (fun c4 => ?_) (fun c4 => ?_)
        · replace h := ifp h c4
          refine PW.iconst (v := (-1)) dX9_sign_49 (by decide) ?_
          cases h
          subst hx
          exact PW.iret (v := (-1 : Int32)) dX9_sign_50 rfl rfl (Nat.le_refl 0) (Nat.le_refl 0)
        · replace h := ifn h c4
          refine PW.aload_n 0 0 dX9_sign_37 rfl rfl rfl ?_
          refine CW.getr dX9_sign_38 fL_X9_7 LA_1 (Or.inr ⟨_, rfl⟩) rfl ?_
          refine PW.aload_n 0 0 dX9_sign_41 rfl rfl rfl ?_
          refine CW.geti dX9_sign_42 fL_X9_30 LA_1 (Or.inl rfl) ?_
          by_cases c5 : inb (iG s 1 3) 200
          rotate_left
          · have h := ifn h c5; cases h
          replace h := ifp h c5
          refine CW.iald dX9_sign_45 LA_2 c5 ?_
          refine PW.goto (tgt := 50) dX9_sign_46 (by decide) ?_
          cases h
          subst hx
          exact PW.iret (v := (iG s 2 (iG s 1 3).toNatClampNeg)) dX9_sign_50 rfl rfl (Nat.le_refl 0) (Nat.le_refl 0)
