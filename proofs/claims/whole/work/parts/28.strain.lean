/-! X8_begin -/
def f_X8_begin (T : Nat) (a0 : Int32) (a1 : Int32) (s : cS) : (Unit × cS) :=
  sb (iS s T 1 a0) fun s1 =>
  sb (iS s1 T 2 a1) fun s2 =>
  sb (iS s2 T 3 (0 : Int32)) fun s3 =>
  sb (iS s3 T 4 (0 : Int32)) fun s4 =>
  sb (iS s4 T 5 (0 : Int32)) fun s5 =>
  sb (iS s5 T 6 (0 : Int32)) fun s6 =>
  sb (iS s6 T 7 (0 : Int32)) fun s7 =>
  sb (iS s7 T 8 (0 : Int32)) fun s8 =>
  sb (iS s8 T 9 (0 : Int32)) fun s9 =>
  ((), s9)
set_option maxRecDepth 20000 in
set_option maxHeartbeats 4000000 in
theorem p_X8_begin {g : pG} {l : Launch} {T : Nat} {a0 : Int32} {a1 : Int32} {s : cS} {q : Unit × cS} (hT : kd T 8) (h : f_X8_begin T a0 a1 s = q) : PM g l 1 M_X8_begin [.ref T, .int a0, .int a1] (tS s) none (tS q.2) 0 0 := by
  refine PM.of (by decide +kernel) (Nat.le_of_ble_eq_true rfl) ?_
  show PW g l (pRoom 1 0 0) M_X8_begin _ 0 [(0, .ref T), (1, .int a0), (2, .int a1)] [] (tS s) 0 0
  unfold f_X8_begin at h
  generalize hF : pE g none (tS q.2) 0 0 = F
  have hx := hF.symm
  refine PW.aload_n 0 0 dX8_begin_0 rfl rfl rfl ?_
  refine PW.iload_n 1 1 dX8_begin_1 rfl rfl ?_
  refine CW.puti dX8_begin_2 fL_X8_13 rfl hT rfl ?_
  obtain ⟨s1, es1, h⟩ := sbnd h
  refine PW.sbe es1 ?_
  clear es1
  refine PW.aload_n 0 0 dX8_begin_5 rfl rfl rfl ?_
  refine PW.iload_n 2 2 dX8_begin_6 rfl rfl ?_
  refine CW.puti dX8_begin_7 fL_X8_17 rfl hT rfl ?_
  obtain ⟨s2, es2, h⟩ := sbnd h
  refine PW.sbe es2 ?_
  clear es2
  refine PW.aload_n 0 0 dX8_begin_10 rfl rfl rfl ?_
  refine PW.iconst (v := 0) dX8_begin_11 (by decide) ?_
  refine CW.puti dX8_begin_12 fL_X8_20 rfl hT rfl ?_
  obtain ⟨s3, es3, h⟩ := sbnd h
  refine PW.sbe es3 ?_
  clear es3
  refine PW.aload_n 0 0 dX8_begin_15 rfl rfl rfl ?_
  refine PW.iconst (v := 0) dX8_begin_16 (by decide) ?_
  refine CW.puti dX8_begin_17 fL_X8_23 rfl hT rfl ?_
  obtain ⟨s4, es4, h⟩ := sbnd h
  refine PW.sbe es4 ?_
  clear es4
  refine PW.aload_n 0 0 dX8_begin_20 rfl rfl rfl ?_
  refine PW.iconst (v := 0) dX8_begin_21 (by decide) ?_
  refine CW.puti dX8_begin_22 fL_X8_26 rfl hT rfl ?_
  obtain ⟨s5, es5, h⟩ := sbnd h
  refine PW.sbe es5 ?_
  clear es5
  refine PW.aload_n 0 0 dX8_begin_25 rfl rfl rfl ?_
  refine PW.iconst (v := 0) dX8_begin_26 (by decide) ?_
  refine CW.puti dX8_begin_27 fL_X8_29 rfl hT rfl ?_
  obtain ⟨s6, es6, h⟩ := sbnd h
  refine PW.sbe es6 ?_
  clear es6
  refine PW.aload_n 0 0 dX8_begin_30 rfl rfl rfl ?_
  refine PW.iconst (v := 0) dX8_begin_31 (by decide) ?_
  refine CW.puti dX8_begin_32 fL_X8_32 rfl hT rfl ?_
  obtain ⟨s7, es7, h⟩ := sbnd h
  refine PW.sbe es7 ?_
  clear es7
  refine PW.aload_n 0 0 dX8_begin_35 rfl rfl rfl ?_
  refine PW.iconst (v := 0) dX8_begin_36 (by decide) ?_
  refine CW.puti dX8_begin_37 fL_X8_35 rfl hT rfl ?_
  obtain ⟨s8, es8, h⟩ := sbnd h
  refine PW.sbe es8 ?_
  clear es8
  refine PW.aload_n 0 0 dX8_begin_40 rfl rfl rfl ?_
  refine PW.iconst (v := 0) dX8_begin_41 (by decide) ?_
  refine CW.putz dX8_begin_42 fL_X8_38 rfl hT rfl (Or.inl rfl) ?_
  obtain ⟨s9, es9, h⟩ := sbnd h
  refine PW.sbe es9 ?_
  clear es9
  cases h
  subst hx
  exact PW.vret dX8_begin_45 rfl (Nat.le_refl 0) (Nat.le_refl 0)
/-! X8_forget -/
def f_X8_forget (T : Nat) (s : cS) : (Unit × cS) :=
  sb (iS s T 9 (0 : Int32)) fun s1 =>
  ((), s1)
set_option maxRecDepth 20000 in
set_option maxHeartbeats 4000000 in
theorem p_X8_forget {g : pG} {l : Launch} {T : Nat} {s : cS} {q : Unit × cS} (hT : kd T 8) (h : f_X8_forget T s = q) : PM g l 1 M_X8_forget [.ref T] (tS s) none (tS q.2) 0 0 := by
  refine PM.of (by decide +kernel) (Nat.le_of_ble_eq_true rfl) ?_
  show PW g l (pRoom 1 0 0) M_X8_forget _ 0 [(0, .ref T)] [] (tS s) 0 0
  unfold f_X8_forget at h
  generalize hF : pE g none (tS q.2) 0 0 = F
  have hx := hF.symm
  refine PW.aload_n 0 0 dX8_forget_0 rfl rfl rfl ?_
  refine PW.iconst (v := 0) dX8_forget_1 (by decide) ?_
  refine CW.putz dX8_forget_2 fL_X8_38 rfl hT rfl (Or.inl rfl) ?_
  obtain ⟨s1, es1, h⟩ := sbnd h
  refine PW.sbe es1 ?_
  clear es1
  cases h
  subst hx
  exact PW.vret dX8_forget_5 rfl (Nat.le_refl 0) (Nat.le_refl 0)
/-! X8_wear -/
def f_X8_wear (T : Nat) (s : cS) : Int32 :=
  (iG s T 3)
set_option maxRecDepth 20000 in
set_option maxHeartbeats 4000000 in
theorem p_X8_wear {g : pG} {l : Launch} {T : Nat} {s : cS} {q : Int32} (hT : kd T 8) (h : f_X8_wear T s = q) : PM g l 1 M_X8_wear [.ref T] (tS s) (some (.int q)) (tS s) 0 0 := by
  refine PM.of (by decide +kernel) (Nat.le_of_ble_eq_true rfl) ?_
  show PW g l (pRoom 1 0 0) M_X8_wear _ 0 [(0, .ref T)] [] (tS s) 0 0
  unfold f_X8_wear at h
  generalize hF : pE g (some (.int q)) (tS s) 0 0 = F
  have hx := hF.symm
  refine PW.aload_n 0 0 dX8_wear_0 rfl rfl rfl ?_
  refine CW.geti dX8_wear_1 fL_X8_20 hT (Or.inl rfl) ?_
  cases h
  subst hx
  exact PW.iret (v := (iG s T 3)) dX8_wear_4 rfl rfl (Nat.le_refl 0) (Nat.le_refl 0)
/-! X8_crack -/
def f_X8_crack (T : Nat) (s : cS) : Int32 :=
  (iG s T 4)
set_option maxRecDepth 20000 in
set_option maxHeartbeats 4000000 in
theorem p_X8_crack {g : pG} {l : Launch} {T : Nat} {s : cS} {q : Int32} (hT : kd T 8) (h : f_X8_crack T s = q) : PM g l 1 M_X8_crack [.ref T] (tS s) (some (.int q)) (tS s) 0 0 := by
  refine PM.of (by decide +kernel) (Nat.le_of_ble_eq_true rfl) ?_
  show PW g l (pRoom 1 0 0) M_X8_crack _ 0 [(0, .ref T)] [] (tS s) 0 0
  unfold f_X8_crack at h
  generalize hF : pE g (some (.int q)) (tS s) 0 0 = F
  have hx := hF.symm
  refine PW.aload_n 0 0 dX8_crack_0 rfl rfl rfl ?_
  refine CW.geti dX8_crack_1 fL_X8_23 hT (Or.inl rfl) ?_
  cases h
  subst hx
  exact PW.iret (v := (iG s T 4)) dX8_crack_4 rfl rfl (Nat.le_refl 0) (Nat.le_refl 0)
/-! X8_most -/
def f_X8_most (T : Nat) (s : cS) : Int32 :=
  (iG s T 5)
set_option maxRecDepth 20000 in
set_option maxHeartbeats 4000000 in
theorem p_X8_most {g : pG} {l : Launch} {T : Nat} {s : cS} {q : Int32} (hT : kd T 8) (h : f_X8_most T s = q) : PM g l 1 M_X8_most [.ref T] (tS s) (some (.int q)) (tS s) 0 0 := by
  refine PM.of (by decide +kernel) (Nat.le_of_ble_eq_true rfl) ?_
  show PW g l (pRoom 1 0 0) M_X8_most _ 0 [(0, .ref T)] [] (tS s) 0 0
  unfold f_X8_most at h
  generalize hF : pE g (some (.int q)) (tS s) 0 0 = F
  have hx := hF.symm
  refine PW.aload_n 0 0 dX8_most_0 rfl rfl rfl ?_
  refine CW.geti dX8_most_1 fL_X8_26 hT (Or.inl rfl) ?_
  cases h
  subst hx
  exact PW.iret (v := (iG s T 5)) dX8_most_4 rfl rfl (Nat.le_refl 0) (Nat.le_refl 0)
/-! X8_crackedBy -/
def f_X8_crackedBy (T : Nat) (s : cS) : Int32 :=
  (iG s T 7)
set_option maxRecDepth 20000 in
set_option maxHeartbeats 4000000 in
theorem p_X8_crackedBy {g : pG} {l : Launch} {T : Nat} {s : cS} {q : Int32} (hT : kd T 8) (h : f_X8_crackedBy T s = q) : PM g l 1 M_X8_crackedBy [.ref T] (tS s) (some (.int q)) (tS s) 0 0 := by
  refine PM.of (by decide +kernel) (Nat.le_of_ble_eq_true rfl) ?_
  show PW g l (pRoom 1 0 0) M_X8_crackedBy _ 0 [(0, .ref T)] [] (tS s) 0 0
  unfold f_X8_crackedBy at h
  generalize hF : pE g (some (.int q)) (tS s) 0 0 = F
  have hx := hF.symm
  refine PW.aload_n 0 0 dX8_crackedBy_0 rfl rfl rfl ?_
  refine CW.geti dX8_crackedBy_1 fL_X8_32 hT (Or.inl rfl) ?_
  cases h
  subst hx
  exact PW.iret (v := (iG s T 7)) dX8_crackedBy_4 rfl rfl (Nat.le_refl 0) (Nat.le_refl 0)
/-! X8_ranBy -/
def f_X8_ranBy (T : Nat) (s : cS) : Int32 :=
  (iG s T 8)
set_option maxRecDepth 20000 in
set_option maxHeartbeats 4000000 in
theorem p_X8_ranBy {g : pG} {l : Launch} {T : Nat} {s : cS} {q : Int32} (hT : kd T 8) (h : f_X8_ranBy T s = q) : PM g l 1 M_X8_ranBy [.ref T] (tS s) (some (.int q)) (tS s) 0 0 := by
  refine PM.of (by decide +kernel) (Nat.le_of_ble_eq_true rfl) ?_
  show PW g l (pRoom 1 0 0) M_X8_ranBy _ 0 [(0, .ref T)] [] (tS s) 0 0
  unfold f_X8_ranBy at h
  generalize hF : pE g (some (.int q)) (tS s) 0 0 = F
  have hx := hF.symm
  refine PW.aload_n 0 0 dX8_ranBy_0 rfl rfl rfl ?_
  refine CW.geti dX8_ranBy_1 fL_X8_35 hT (Or.inl rfl) ?_
  cases h
  subst hx
  exact PW.iret (v := (iG s T 8)) dX8_ranBy_4 rfl rfl (Nat.le_refl 0) (Nat.le_refl 0)
/-! X8_pulled -/
def f_X8_pulled (T : Nat) (s : cS) : Int32 :=
  (iG s T 14)
set_option maxRecDepth 20000 in
set_option maxHeartbeats 4000000 in
theorem p_X8_pulled {g : pG} {l : Launch} {T : Nat} {s : cS} {q : Int32} (hT : kd T 8) (h : f_X8_pulled T s = q) : PM g l 1 M_X8_pulled [.ref T] (tS s) (some (.int q)) (tS s) 0 0 := by
  refine PM.of (by decide +kernel) (Nat.le_of_ble_eq_true rfl) ?_
  show PW g l (pRoom 1 0 0) M_X8_pulled _ 0 [(0, .ref T)] [] (tS s) 0 0
  unfold f_X8_pulled at h
  generalize hF : pE g (some (.int q)) (tS s) 0 0 = F
  have hx := hF.symm
  refine PW.aload_n 0 0 dX8_pulled_0 rfl rfl rfl ?_
  refine CW.geti dX8_pulled_1 fL_X8_42 hT (Or.inl rfl) ?_
  cases h
  subst hx
  exact PW.iret (v := (iG s T 14)) dX8_pulled_4 rfl rfl (Nat.le_refl 0) (Nat.le_refl 0)
/-! X8_more -/
def f_X8_more (T : Nat) (s : cS) : Int32 :=
  (iG s T 15)
set_option maxRecDepth 20000 in
set_option maxHeartbeats 4000000 in
theorem p_X8_more {g : pG} {l : Launch} {T : Nat} {s : cS} {q : Int32} (hT : kd T 8) (h : f_X8_more T s = q) : PM g l 1 M_X8_more [.ref T] (tS s) (some (.int q)) (tS s) 0 0 := by
  refine PM.of (by decide +kernel) (Nat.le_of_ble_eq_true rfl) ?_
  show PW g l (pRoom 1 0 0) M_X8_more _ 0 [(0, .ref T)] [] (tS s) 0 0
  unfold f_X8_more at h
  generalize hF : pE g (some (.int q)) (tS s) 0 0 = F
  have hx := hF.symm
  refine PW.aload_n 0 0 dX8_more_0 rfl rfl rfl ?_
  refine CW.geti dX8_more_1 fL_X8_45 hT (Or.inl rfl) ?_
  cases h
  subst hx
  exact PW.iret (v := (iG s T 15)) dX8_more_4 rfl rfl (Nat.le_refl 0) (Nat.le_refl 0)
/-! X8_isLikeBefore -/
def j_X8_isLikeBefore_98 (x0 : Nat) (x2 : Nat) (s : cS) : Option (Int32 × cS) :=
  if (iG s x0 3) = (iG s x0 11) then
    some (((1 : Int32), s))
  else
    if kd x2 3 then
    if (f_X3_uses x2 (9 : Int32) s) = 0 then
      some (((1 : Int32), s))
    else
      some (((0 : Int32), s))
    else none
set_option maxRecDepth 20000 in
set_option maxHeartbeats 4000000 in
theorem ok_j_X8_isLikeBefore_98 {g : pG} {l : Launch} {F : pF} {x0 : Nat} {x2 : Nat} {s : cS} {x : (Int32 × cS)} (hx0 : kd x0 8) (h : j_X8_isLikeBefore_98 x0 x2 s = some x) (hx : (fun q => F = pE g (some (.int q.1)) (tS q.2) 0 0) x) : PW g l (pRoom 2 0 0) M_X8_isLikeBefore F 98 [(0, .ref x0), (2, .ref x2)] [] (tS s) 0 0 := by
  unfold j_X8_isLikeBefore_98 at h
  refine PW.aload_n 0 0 dX8_isLikeBefore_98 rfl rfl rfl ?_
  refine CW.geti dX8_isLikeBefore_99 fL_X8_20 hx0 (Or.inl rfl) ?_
  refine PW.aload_n 0 0 dX8_isLikeBefore_102 rfl rfl rfl ?_
  refine CW.geti dX8_isLikeBefore_103 fL_X8_90 hx0 (Or.inl rfl) ?_
  refine PW.icmp_eq (tgt := 118) dX8_isLikeBefore_106 (by decide) (fun c12 => ?_) (fun c12 => ?_)
  · replace h := ifp h c12
    refine PW.iconst (v := 1) dX8_isLikeBefore_118 (by decide) ?_
    refine PW.goto (tgt := 123) dX8_isLikeBefore_119 (by decide) ?_
    cases h
    subst hx
    exact PW.iret (v := (1 : Int32)) dX8_isLikeBefore_123 rfl (narZ (Or.inr rfl)) (Nat.le_refl 0) (Nat.le_refl 0)
  · replace h := ifn h c12
    refine PW.aload_n 1 2 dX8_isLikeBefore_109 rfl rfl rfl ?_
    refine PW.bipush (v := 9) dX8_isLikeBefore_110 (by decide) ?_
    by_cases c13 : kd x2 3
    rotate_left
    · have h := ifn h c13; cases h
    replace h := ifp h c13
    refine CW.callVi (ci := 3) (st := []) [.int (9 : Int32)] dX8_isLikeBefore_112 (p_X3_uses c13 rfl) MV_X3_uses mL_X8_84 (by decide) rfl c13 rfl rfl (Nat.le_of_ble_eq_true rfl) (by first | decide | omega) ?_
    refine PW.if_ne (tgt := 122) dX8_isLikeBefore_115 (by decide) (fun c15 => ?_) (fun c15 => ?_)
    · replace h := ifn h c15
      refine PW.iconst (v := 0) dX8_isLikeBefore_122 (by decide) ?_
      cases h
      subst hx
      exact PW.iret (v := (0 : Int32)) dX8_isLikeBefore_123 rfl (narZ (Or.inl rfl)) (Nat.le_refl 0) (Nat.le_refl 0)
    · replace h := ifp h c15
      refine PW.iconst (v := 1) dX8_isLikeBefore_118 (by decide) ?_
      refine PW.goto (tgt := 123) dX8_isLikeBefore_119 (by decide) ?_
      cases h
      subst hx
      exact PW.iret (v := (1 : Int32)) dX8_isLikeBefore_123 rfl (narZ (Or.inr rfl)) (Nat.le_refl 0) (Nat.le_refl 0)
def j_X8_isLikeBefore_78 (x0 : Nat) (x2 : Nat) (s : cS) : Option (Int32 × cS) :=
  if (iG s x0 4) = (iG s x0 12) then
    j_X8_isLikeBefore_98 x0 x2 s
  else
    if kd x2 3 then
    if (f_X3_uses x2 (8 : Int32) s) = 0 then
      j_X8_isLikeBefore_98 x0 x2 s
    else
      some (((0 : Int32), s))
    else none
set_option maxRecDepth 20000 in
set_option maxHeartbeats 4000000 in
theorem ok_j_X8_isLikeBefore_78 {g : pG} {l : Launch} {F : pF} {x0 : Nat} {x2 : Nat} {s : cS} {x : (Int32 × cS)} (hx0 : kd x0 8) (h : j_X8_isLikeBefore_78 x0 x2 s = some x) (hx : (fun q => F = pE g (some (.int q.1)) (tS q.2) 0 0) x) : PW g l (pRoom 2 0 0) M_X8_isLikeBefore F 78 [(0, .ref x0), (2, .ref x2)] [] (tS s) 0 0 := by
  unfold j_X8_isLikeBefore_78 at h
  refine PW.aload_n 0 0 dX8_isLikeBefore_78 rfl rfl rfl ?_
  refine CW.geti dX8_isLikeBefore_79 fL_X8_23 hx0 (Or.inl rfl) ?_
  refine PW.aload_n 0 0 dX8_isLikeBefore_82 rfl rfl rfl ?_
  refine CW.geti dX8_isLikeBefore_83 fL_X8_79 hx0 (Or.inl rfl) ?_
  refine PW.icmp_eq (tgt := 98) dX8_isLikeBefore_86 (by decide) (fun c11 => ?_) (fun c11 => ?_)
  · replace h := ifp h c11
    exact PW.pick [0, 1] rfl (ok_j_X8_isLikeBefore_98 hx0 h hx)
  · replace h := ifn h c11
    refine PW.aload_n 1 2 dX8_isLikeBefore_89 rfl rfl rfl ?_
    refine PW.bipush (v := 8) dX8_isLikeBefore_90 (by decide) ?_
    by_cases c16 : kd x2 3
    rotate_left
    · have h := ifn h c16; cases h
    replace h := ifp h c16
    refine CW.callVi (ci := 3) (st := []) [.int (8 : Int32)] dX8_isLikeBefore_92 (p_X3_uses c16 rfl) MV_X3_uses mL_X8_84 (by decide) rfl c16 rfl rfl (Nat.le_of_ble_eq_true rfl) (by first | decide | omega) ?_
    refine PW.if_ne (tgt := 122) dX8_isLikeBefore_95 (by decide) (fun c18 => ?_) (fun c18 => ?_)
    · replace h := ifn h c18
      refine PW.iconst (v := 0) dX8_isLikeBefore_122 (by decide) ?_
      cases h
      subst hx
      exact PW.iret (v := (0 : Int32)) dX8_isLikeBefore_123 rfl (narZ (Or.inl rfl)) (Nat.le_refl 0) (Nat.le_refl 0)
    · replace h := ifp h c18
      exact PW.pick [0, 1] rfl (ok_j_X8_isLikeBefore_98 hx0 h hx)
def j_X8_isLikeBefore_47 (x0 : Nat) (x2 : Nat) (y0 : Int32) (y1 : Int32) (s : cS) : Option (Int32 × cS) :=
  if y0 = y1 then
    if kd x2 3 then
    if (f_X3_uses x2 (5 : Int32) s) = 0 then
      if (iG s x0 5) = (iG s x0 13) then
        j_X8_isLikeBefore_78 x0 x2 s
      else
        if (f_X3_uses x2 (7 : Int32) s) = 0 then
          j_X8_isLikeBefore_78 x0 x2 s
        else
          some (((0 : Int32), s))
    else
      some (((0 : Int32), s))
    else none
  else
    some (((0 : Int32), s))
set_option maxRecDepth 20000 in
set_option maxHeartbeats 4000000 in
theorem ok_j_X8_isLikeBefore_47 {g : pG} {l : Launch} {F : pF} {x0 : Nat} {x2 : Nat} {y0 : Int32} {y1 : Int32} {s : cS} {x : (Int32 × cS)} (hx0 : kd x0 8) (h : j_X8_isLikeBefore_47 x0 x2 y0 y1 s = some x) (hx : (fun q => F = pE g (some (.int q.1)) (tS q.2) 0 0) x) : PW g l (pRoom 2 0 0) M_X8_isLikeBefore F 47 [(0, .ref x0), (2, .ref x2)] [.int y1, .int y0] (tS s) 0 0 := by
  unfold j_X8_isLikeBefore_47 at h
  refine PW.icmp_ne (tgt := 122) dX8_isLikeBefore_47 (by decide) (fun c6 => ?_) (fun c6 => ?_)
  · replace h := ifn h c6
    refine PW.iconst (v := 0) dX8_isLikeBefore_122 (by decide) ?_
    cases h
    subst hx
    exact PW.iret (v := (0 : Int32)) dX8_isLikeBefore_123 rfl (narZ (Or.inl rfl)) (Nat.le_refl 0) (Nat.le_refl 0)
  · replace h := ifp h c6
    refine PW.aload_n 1 2 dX8_isLikeBefore_50 rfl rfl rfl ?_
    refine PW.iconst (v := 5) dX8_isLikeBefore_51 (by decide) ?_
    by_cases c7 : kd x2 3
    rotate_left
    · have h := ifn h c7; cases h
    replace h := ifp h c7
    refine CW.callVi (ci := 3) (st := []) [.int (5 : Int32)] dX8_isLikeBefore_52 (p_X3_uses c7 rfl) MV_X3_uses mL_X8_84 (by decide) rfl c7 rfl rfl (Nat.le_of_ble_eq_true rfl) (by first | decide | omega) ?_
    refine PW.if_ne (tgt := 122) dX8_isLikeBefore_55 (by decide) (fun c9 => ?_) (fun c9 => ?_)
    · replace h := ifn h c9
      refine PW.iconst (v := 0) dX8_isLikeBefore_122 (by decide) ?_
      cases h
      subst hx
      exact PW.iret (v := (0 : Int32)) dX8_isLikeBefore_123 rfl (narZ (Or.inl rfl)) (Nat.le_refl 0) (Nat.le_refl 0)
    · replace h := ifp h c9
      refine PW.aload_n 0 0 dX8_isLikeBefore_58 rfl rfl rfl ?_
      refine CW.geti dX8_isLikeBefore_59 fL_X8_26 hx0 (Or.inl rfl) ?_
      refine PW.aload_n 0 0 dX8_isLikeBefore_62 rfl rfl rfl ?_
      refine CW.geti dX8_isLikeBefore_63 fL_X8_87 hx0 (Or.inl rfl) ?_
      refine PW.icmp_eq (tgt := 78) dX8_isLikeBefore_66 (by decide) (fun c10 => ?_) (fun c10 => ?_)
      · replace h := ifp h c10
        exact PW.pick [0, 1] rfl (ok_j_X8_isLikeBefore_78 hx0 h hx)
      · replace h := ifn h c10
        refine PW.aload_n 1 2 dX8_isLikeBefore_69 rfl rfl rfl ?_
        refine PW.bipush (v := 7) dX8_isLikeBefore_70 (by decide) ?_
        refine CW.callVi (ci := 3) (st := []) [.int (7 : Int32)] dX8_isLikeBefore_72 (p_X3_uses c7 rfl) MV_X3_uses mL_X8_84 (by decide) rfl c7 rfl rfl (Nat.le_of_ble_eq_true rfl) (by first | decide | omega) ?_
        refine PW.if_ne (tgt := 122) dX8_isLikeBefore_75 (by decide) (fun c20 => ?_) (fun c20 => ?_)
        · replace h := ifn h c20
          refine PW.iconst (v := 0) dX8_isLikeBefore_122 (by decide) ?_
          cases h
          subst hx
          exact PW.iret (v := (0 : Int32)) dX8_isLikeBefore_123 rfl (narZ (Or.inl rfl)) (Nat.le_refl 0) (Nat.le_refl 0)
        · replace h := ifp h c20
          exact PW.pick [0, 1] rfl (ok_j_X8_isLikeBefore_78 hx0 h hx)
def j_X8_isLikeBefore_35 (x0 : Nat) (x2 : Nat) (y0 : Int32) (s : cS) : Option (Int32 × cS) :=
  if (iG s x0 12) ≤ 0 then
    j_X8_isLikeBefore_47 x0 x2 y0 (0 : Int32) s
  else
    j_X8_isLikeBefore_47 x0 x2 y0 (1 : Int32) s
set_option maxRecDepth 20000 in
set_option maxHeartbeats 4000000 in
theorem ok_j_X8_isLikeBefore_35 {g : pG} {l : Launch} {F : pF} {x0 : Nat} {x2 : Nat} {y0 : Int32} {s : cS} {x : (Int32 × cS)} (hx0 : kd x0 8) (h : j_X8_isLikeBefore_35 x0 x2 y0 s = some x) (hx : (fun q => F = pE g (some (.int q.1)) (tS q.2) 0 0) x) : PW g l (pRoom 2 0 0) M_X8_isLikeBefore F 35 [(0, .ref x0), (2, .ref x2)] [.int y0] (tS s) 0 0 := by
  unfold j_X8_isLikeBefore_35 at h
  refine PW.aload_n 0 0 dX8_isLikeBefore_35 rfl rfl rfl ?_
  refine CW.geti dX8_isLikeBefore_36 fL_X8_79 hx0 (Or.inl rfl) ?_
  refine PW.if_le (tgt := 46) dX8_isLikeBefore_39 (by decide) (fun c5 => ?_) (fun c5 => ?_)
  · replace h := ifp h c5
    refine PW.iconst (v := 0) dX8_isLikeBefore_46 (by decide) ?_
    exact PW.pick [0, 1] rfl (ok_j_X8_isLikeBefore_47 hx0 h hx)
  · replace h := ifn h c5
    refine PW.iconst (v := 1) dX8_isLikeBefore_42 (by decide) ?_
    refine PW.goto (tgt := 47) dX8_isLikeBefore_43 (by decide) ?_
    exact PW.pick [0, 1] rfl (ok_j_X8_isLikeBefore_47 hx0 h hx)
def f_X8_isLikeBefore (T : Nat) (a0 : Int32) (s : cS) : Option (Int32 × cS) :=
  if (iG s T 9) = 0 then
    some (((0 : Int32), s))
  else
    if a0 = (iG s T 10) then
      if (iG s T 4) ≤ 0 then
        j_X8_isLikeBefore_35 T s.1.1 (0 : Int32) s
      else
        j_X8_isLikeBefore_35 T s.1.1 (1 : Int32) s
    else
      some (((0 : Int32), s))
set_option maxRecDepth 20000 in
set_option maxHeartbeats 4000000 in
theorem p_X8_isLikeBefore {g : pG} {l : Launch} {T : Nat} {a0 : Int32} {s : cS} {q : Int32 × cS} (hT : kd T 8) (h : f_X8_isLikeBefore T a0 s = some q) : PM g l 2 M_X8_isLikeBefore [.ref T, .int a0] (tS s) (some (.int q.1)) (tS q.2) 0 0 := by
  refine PM.of (by decide +kernel) (Nat.le_of_ble_eq_true rfl) ?_
  show PW g l (pRoom 2 0 0) M_X8_isLikeBefore _ 0 [(0, .ref T), (1, .int a0)] [] (tS s) 0 0
  unfold f_X8_isLikeBefore at h
  generalize hF : pE g (some (.int q.1)) (tS q.2) 0 0 = F
  have hx := hF.symm
  refine PW.aload_n 0 0 dX8_isLikeBefore_0 rfl rfl rfl ?_
  refine CW.getr dX8_isLikeBefore_1 fL_X8_7 hT (Or.inl ⟨_, rfl⟩) (kr_8_0 hT _) ?_
  refine CW.callVr (ci := 1) (st := []) [] dX8_isLikeBefore_4 (p_X1_lawNow (q := some s.1.1) rfl) MV_X1_lawNow mL_X8_72 (by decide) rfl LA_3 rfl rfl (Nat.le_of_ble_eq_true rfl) (by first | decide | omega) ?_
  refine PW.astore_n dX8_isLikeBefore_7 rfl (Nat.le_of_ble_eq_true rfl) rfl rfl ?_
  refine PW.aload_n 1 0 dX8_isLikeBefore_8 rfl rfl rfl ?_
  refine CW.geti dX8_isLikeBefore_9 fL_X8_38 hT (Or.inr rfl) ?_
  refine PW.if_eq (tgt := 122) dX8_isLikeBefore_12 (by decide) (fun c2 => ?_) (fun c2 => ?_)
  · replace h := ifp h c2
    refine PW.iconst (v := 0) dX8_isLikeBefore_122 (by decide) ?_
    cases h
    subst hx
    exact PW.iret (v := (0 : Int32)) dX8_isLikeBefore_123 rfl (narZ (Or.inl rfl)) (Nat.le_refl 0) (Nat.le_refl 0)
  · replace h := ifn h c2
    refine PW.iload_n 2 1 dX8_isLikeBefore_15 rfl rfl ?_
    refine PW.aload_n 1 0 dX8_isLikeBefore_16 rfl rfl rfl ?_
    refine CW.geti dX8_isLikeBefore_17 fL_X8_76 hT (Or.inl rfl) ?_
    refine PW.icmp_ne (tgt := 122) dX8_isLikeBefore_20 (by decide) (fun c3 => ?_) (fun c3 => ?_)
    · replace h := ifn h c3
      refine PW.iconst (v := 0) dX8_isLikeBefore_122 (by decide) ?_
      cases h
      subst hx
      exact PW.iret (v := (0 : Int32)) dX8_isLikeBefore_123 rfl (narZ (Or.inl rfl)) (Nat.le_refl 0) (Nat.le_refl 0)
    · replace h := ifp h c3
      refine PW.aload_n 1 0 dX8_isLikeBefore_23 rfl rfl rfl ?_
      refine CW.geti dX8_isLikeBefore_24 fL_X8_23 hT (Or.inl rfl) ?_
      refine PW.if_le (tgt := 34) dX8_isLikeBefore_27 (by decide) (fun c4 => ?_) (fun c4 => ?_)
      · replace h := ifp h c4
        refine PW.iconst (v := 0) dX8_isLikeBefore_34 (by decide) ?_
        exact PW.pick [1, 0] rfl (ok_j_X8_isLikeBefore_35 hT h hx)
      · replace h := ifn h c4
        refine PW.iconst (v := 1) dX8_isLikeBefore_30 (by decide) ?_
        refine PW.goto (tgt := 35) dX8_isLikeBefore_31 (by decide) ?_
        exact PW.pick [1, 0] rfl (ok_j_X8_isLikeBefore_35 hT h hx)
/-! X8_reckon -/
def j_X8_reckon_89 (x0 : Nat) (x1 : Int32) (y0 : Nat) (y1 : Int32) (s : cS) : Option (Unit × cS) :=
  sb (iS s y0 15 y1) fun s20 =>
  sb (iS s20 x0 9 (1 : Int32)) fun s21 =>
  sb (iS s21 x0 10 x1) fun s22 =>
  sb (iS s22 x0 11 (iG s22 x0 3)) fun s23 =>
  sb (iS s23 x0 12 (iG s23 x0 4)) fun s24 =>
  sb (iS s24 x0 13 (iG s24 x0 5)) fun s25 =>
  some (((), s25))
set_option maxRecDepth 20000 in
set_option maxHeartbeats 4000000 in
theorem ok_j_X8_reckon_89 {g : pG} {l : Launch} {F : pF} {x0 : Nat} {x1 : Int32} {y0 : Nat} {y1 : Int32} {s : cS} {x : (Unit × cS)} (hx0 : kd x0 8) (hy0 : kd y0 8) (h : j_X8_reckon_89 x0 x1 y0 y1 s = some x) (hx : (fun q => F = pE g none (tS q.2) 0 0) x) : PW g l (pRoom 4 0 0) M_X8_reckon F 89 [(0, .ref x0), (1, .int x1)] [.int y1, .ref y0] (tS s) 0 0 := by
  unfold j_X8_reckon_89 at h
  refine CW.puti dX8_reckon_89 fL_X8_45 rfl hy0 rfl ?_
  obtain ⟨s20, es20, h⟩ := sbnd h
  refine PW.sbe es20 ?_
  clear es20
  refine PW.aload_n 0 0 dX8_reckon_92 rfl rfl rfl ?_
  refine PW.iconst (v := 1) dX8_reckon_93 (by decide) ?_
  refine CW.putz dX8_reckon_94 fL_X8_38 rfl hx0 rfl (Or.inr rfl) ?_
  obtain ⟨s21, es21, h⟩ := sbnd h
  refine PW.sbe es21 ?_
  clear es21
  refine PW.aload_n 0 0 dX8_reckon_97 rfl rfl rfl ?_
  refine PW.iload_n 1 1 dX8_reckon_98 rfl rfl ?_
  refine CW.puti dX8_reckon_99 fL_X8_76 rfl hx0 rfl ?_
  obtain ⟨s22, es22, h⟩ := sbnd h
  refine PW.sbe es22 ?_
  clear es22
  refine PW.aload_n 0 0 dX8_reckon_102 rfl rfl rfl ?_
  refine PW.aload_n 0 0 dX8_reckon_103 rfl rfl rfl ?_
  refine CW.geti dX8_reckon_104 fL_X8_20 hx0 (Or.inl rfl) ?_
  refine CW.puti dX8_reckon_107 fL_X8_90 rfl hx0 rfl ?_
  obtain ⟨s23, es23, h⟩ := sbnd h
  refine PW.sbe es23 ?_
  clear es23
  refine PW.aload_n 0 0 dX8_reckon_110 rfl rfl rfl ?_
  refine PW.aload_n 0 0 dX8_reckon_111 rfl rfl rfl ?_
  refine CW.geti dX8_reckon_112 fL_X8_23 hx0 (Or.inl rfl) ?_
  refine CW.puti dX8_reckon_115 fL_X8_79 rfl hx0 rfl ?_
  obtain ⟨s24, es24, h⟩ := sbnd h
  refine PW.sbe es24 ?_
  clear es24
  refine PW.aload_n 0 0 dX8_reckon_118 rfl rfl rfl ?_
  refine PW.aload_n 0 0 dX8_reckon_119 rfl rfl rfl ?_
  refine CW.geti dX8_reckon_120 fL_X8_26 hx0 (Or.inl rfl) ?_
  refine CW.puti dX8_reckon_123 fL_X8_87 rfl hx0 rfl ?_
  obtain ⟨s25, es25, h⟩ := sbnd h
  refine PW.sbe es25 ?_
  clear es25
  cases h
  subst hx
  exact PW.vret dX8_reckon_126 rfl (Nat.le_refl 0) (Nat.le_refl 0)
def f_X8_reckon (N : Nat) (T : Nat) (a0 : Int32) (s : cS) : Option (Unit × cS) :=
  ob (f_X1_tellLaw (iG s T 1) s) fun r2 s3 =>
  if kd s.1.1 3 then
  tb (f_X3_setState s.1.1 a0 (iG s3 T 6) (iG s3 T 5) (iG s3 T 4) (iG s3 T 3) s3) fun r6 s7 =>
  ob (f_X3_amount N s.1.1 (113 : Int32) (10000 : Int32) s7) fun r9 s10 =>
  sb (iS s10 T 14 r9) fun s12 =>
  tb (f_X3_setPulled s.1.1 (iG s12 T 14) s12) fun r13 s14 =>
  if (iG s14 T 4) ≤ 0 then
    ob (f_X3_amount N s.1.1 (100 : Int32) (100000 : Int32) s14) fun r17 s18 =>
    j_X8_reckon_89 T a0 T r17 s18
  else
    ob (f_X3_amount N s.1.1 (103 : Int32) (10000 : Int32) s14) fun r26 s27 =>
    j_X8_reckon_89 T a0 T r26 s27
  else none
set_option maxRecDepth 20000 in
set_option maxHeartbeats 4000000 in
theorem p_X8_reckon {g : pG} {l : Launch} {N : Nat} {T : Nat} {a0 : Int32} {s : cS} {q : Unit × cS} (hT : kd T 8) (h : f_X8_reckon N T a0 s = some q) : PM g l 4 M_X8_reckon [.ref T, .int a0] (tS s) none (tS q.2) 0 0 := by
  refine PM.of (by decide +kernel) (Nat.le_of_ble_eq_true rfl) ?_
  show PW g l (pRoom 4 0 0) M_X8_reckon _ 0 [(0, .ref T), (1, .int a0)] [] (tS s) 0 0
  unfold f_X8_reckon at h
  generalize hF : pE g none (tS q.2) 0 0 = F
  have hx := hF.symm
  refine PW.aload_n 0 0 dX8_reckon_0 rfl rfl rfl ?_
  refine CW.getr dX8_reckon_1 fL_X8_7 hT (Or.inl ⟨_, rfl⟩) (kr_8_0 hT _) ?_
  refine CW.callVr (ci := 1) (st := []) [] dX8_reckon_4 (p_X1_lawNow (q := some s.1.1) rfl) MV_X1_lawNow mL_X8_72 (by decide) rfl LA_3 rfl rfl (Nat.le_of_ble_eq_true rfl) (by first | decide | omega) ?_
  refine PW.astore_n dX8_reckon_7 rfl (Nat.le_of_ble_eq_true rfl) rfl rfl ?_
  refine PW.aload_n 1 0 dX8_reckon_8 rfl rfl rfl ?_
  refine CW.getr dX8_reckon_9 fL_X8_7 hT (Or.inl ⟨_, rfl⟩) (kr_8_0 hT _) ?_
  refine PW.aload_n 1 0 dX8_reckon_12 rfl rfl rfl ?_
  refine CW.geti dX8_reckon_13 fL_X8_13 hT (Or.inl rfl) ?_
  obtain ⟨r2, s3, q4, h⟩ := obnd h
  refine CW.callVv (ci := 1) (st := []) [.int (iG s T 1)] dX8_reckon_16 (p_X1_tellLaw q4) MV_X1_tellLaw mL_X8_93 (by decide) rfl LA_3 rfl rfl (Nat.le_of_ble_eq_true rfl) (by first | decide | omega) ?_
  refine PW.aload_n 0 2 dX8_reckon_19 rfl rfl rfl ?_
  refine PW.iload_n 2 1 dX8_reckon_20 rfl rfl ?_
  refine PW.aload_n 1 0 dX8_reckon_21 rfl rfl rfl ?_
  refine CW.geti dX8_reckon_22 fL_X8_29 hT (Or.inl rfl) ?_
  refine PW.aload_n 1 0 dX8_reckon_25 rfl rfl rfl ?_
  refine CW.geti dX8_reckon_26 fL_X8_26 hT (Or.inl rfl) ?_
  refine PW.aload_n 1 0 dX8_reckon_29 rfl rfl rfl ?_
  refine CW.geti dX8_reckon_30 fL_X8_23 hT (Or.inl rfl) ?_
  refine PW.aload_n 1 0 dX8_reckon_33 rfl rfl rfl ?_
  refine CW.geti dX8_reckon_34 fL_X8_20 hT (Or.inl rfl) ?_
  by_cases c5 : kd s.1.1 3
  rotate_left
  · have h := ifn h c5; cases h
  replace h := ifp h c5
  obtain ⟨r6, s7, q8, h⟩ := tbnd h
  refine CW.callVv (ci := 3) (st := []) [.int a0, .int (iG s3 T 6), .int (iG s3 T 5), .int (iG s3 T 4), .int (iG s3 T 3)] dX8_reckon_37 (p_X3_setState c5 q8) MV_X3_setState mL_X8_96 (by decide) rfl c5 rfl rfl (Nat.le_of_ble_eq_true rfl) (by first | decide | omega) ?_
  refine PW.aload_n 1 0 dX8_reckon_40 rfl rfl rfl ?_
  refine PW.aload_n 0 2 dX8_reckon_41 rfl rfl rfl ?_
  refine PW.bipush (v := 113) dX8_reckon_42 (by decide) ?_
  refine PW.sipush (v := 10000) dX8_reckon_44 (by decide) ?_
  obtain ⟨r9, s10, q11, h⟩ := obnd h
  refine CW.callVi (ci := 3) (st := [.ref T]) [.int (113 : Int32), .int (10000 : Int32)] dX8_reckon_47 (p_X3_amount c5 q11) MV_X3_amount mL_X8_100 (by decide) rfl c5 rfl rfl (Nat.le_of_ble_eq_true rfl) (by first | decide | omega) ?_
  refine CW.puti dX8_reckon_50 fL_X8_42 rfl hT rfl ?_
  obtain ⟨s12, es12, h⟩ := sbnd h
  refine PW.sbe es12 ?_
  clear es12
  refine PW.aload_n 0 2 dX8_reckon_53 rfl rfl rfl ?_
  refine PW.aload_n 1 0 dX8_reckon_54 rfl rfl rfl ?_
  refine CW.geti dX8_reckon_55 fL_X8_42 hT (Or.inl rfl) ?_
  obtain ⟨r13, s14, q15, h⟩ := tbnd h
  refine CW.callVv (ci := 3) (st := []) [.int (iG s12 T 14)] dX8_reckon_58 (p_X3_setPulled c5 q15) MV_X3_setPulled mL_X8_103 (by decide) rfl c5 rfl rfl (Nat.le_of_ble_eq_true rfl) (by first | decide | omega) ?_
  refine PW.aload_n 1 0 dX8_reckon_61 rfl rfl rfl ?_
  refine PW.aload_n 1 0 dX8_reckon_62 rfl rfl rfl ?_
  refine CW.geti dX8_reckon_63 fL_X8_23 hT (Or.inl rfl) ?_
  refine PW.if_le (tgt := 81) dX8_reckon_66 (by decide) (fun c16 => ?_) (fun c16 => ?_)
  · replace h := ifp h c16
    refine PW.aload_n 0 2 dX8_reckon_81 rfl rfl rfl ?_
    refine PW.bipush (v := 100) dX8_reckon_82 (by decide) ?_
    refine PW.ldc dX8_reckon_84 kL_X8_106 ?_
    obtain ⟨r17, s18, q19, h⟩ := obnd h
    refine CW.callVi (ci := 3) (st := [.ref T]) [.int (100 : Int32), .int (100000 : Int32)] dX8_reckon_86 (p_X3_amount c5 q19) MV_X3_amount mL_X8_100 (by decide) rfl c5 rfl rfl (Nat.le_of_ble_eq_true rfl) (by first | decide | omega) ?_
    exact PW.pick [1, 2] rfl (ok_j_X8_reckon_89 hT hT h hx)
  · replace h := ifn h c16
    refine PW.aload_n 0 2 dX8_reckon_69 rfl rfl rfl ?_
    refine PW.bipush (v := 103) dX8_reckon_70 (by decide) ?_
    refine PW.sipush (v := 10000) dX8_reckon_72 (by decide) ?_
    obtain ⟨r26, s27, q28, h⟩ := obnd h
    refine CW.callVi (ci := 3) (st := [.ref T]) [.int (103 : Int32), .int (10000 : Int32)] dX8_reckon_75 (p_X3_amount c5 q28) MV_X3_amount mL_X8_100 (by decide) rfl c5 rfl rfl (Nat.le_of_ble_eq_true rfl) (by first | decide | omega) ?_
    refine PW.goto (tgt := 89) dX8_reckon_78 (by decide) ?_
    exact PW.pick [1, 2] rfl (ok_j_X8_reckon_89 hT hT h hx)
/-! X8_pullBy -/
def j_X8_pullBy_118 (x0 : Nat) (s : cS) : Option (Unit × cS) :=
  if (iG s x0 4) ≤ 0 then
    some (((), s))
  else
    if (iG s x0 4) < (f_X1_reachOf (iG s x0 1) s) then
      some (((), s))
    else
      sb (iS s x0 8 (iG s x0 6)) fun s15 =>
      some (((), s15))
set_option maxRecDepth 20000 in
set_option maxHeartbeats 4000000 in
theorem ok_j_X8_pullBy_118 {g : pG} {l : Launch} {F : pF} {x0 : Nat} {s : cS} {x : (Unit × cS)} (hx0 : kd x0 8) (h : j_X8_pullBy_118 x0 s = some x) (hx : (fun q => F = pE g none (tS q.2) 0 0) x) : PW g l (pRoom 5 0 0) M_X8_pullBy F 118 [(0, .ref x0)] [] (tS s) 0 0 := by
  unfold j_X8_pullBy_118 at h
  refine PW.aload_n 0 0 dX8_pullBy_118 rfl rfl rfl ?_
  refine CW.geti dX8_pullBy_119 fL_X8_23 hx0 (Or.inl rfl) ?_
  refine PW.if_le (tgt := 151) dX8_pullBy_122 (by decide) (fun c12 => ?_) (fun c12 => ?_)
  · replace h := ifp h c12
    cases h
    subst hx
    exact PW.vret dX8_pullBy_151 rfl (Nat.le_refl 0) (Nat.le_refl 0)
  · replace h := ifn h c12
    refine PW.aload_n 0 0 dX8_pullBy_125 rfl rfl rfl ?_
    refine CW.geti dX8_pullBy_126 fL_X8_23 hx0 (Or.inl rfl) ?_
    refine PW.aload_n 0 0 dX8_pullBy_129 rfl rfl rfl ?_
    refine CW.getr dX8_pullBy_130 fL_X8_7 hx0 (Or.inl ⟨_, rfl⟩) (kr_8_0 hx0 _) ?_
    refine PW.aload_n 0 0 dX8_pullBy_133 rfl rfl rfl ?_
    refine CW.geti dX8_pullBy_134 fL_X8_13 hx0 (Or.inl rfl) ?_
    refine CW.callVi (ci := 1) (st := [.int (iG s x0 4)]) [.int (iG s x0 1)] dX8_pullBy_137 (p_X1_reachOf rfl) MV_X1_reachOf mL_X8_66 (by decide) rfl LA_3 rfl rfl (Nat.le_of_ble_eq_true rfl) (by first | decide | omega) ?_
    refine PW.icmp_lt (tgt := 151) dX8_pullBy_140 (by decide) (fun c14 => ?_) (fun c14 => ?_)
    · replace h := ifp h c14
      cases h
      subst hx
      exact PW.vret dX8_pullBy_151 rfl (Nat.le_refl 0) (Nat.le_refl 0)
    · replace h := ifn h c14
      refine PW.aload_n 0 0 dX8_pullBy_143 rfl rfl rfl ?_
      refine PW.aload_n 0 0 dX8_pullBy_144 rfl rfl rfl ?_
      refine CW.geti dX8_pullBy_145 fL_X8_29 hx0 (Or.inl rfl) ?_
      refine CW.puti dX8_pullBy_148 fL_X8_35 rfl hx0 rfl ?_
      obtain ⟨s15, es15, h⟩ := sbnd h
      refine PW.sbe es15 ?_
      clear es15
      cases h
      subst hx
      exact PW.vret dX8_pullBy_151 rfl (Nat.le_refl 0) (Nat.le_refl 0)
def j_X8_pullBy_28 (x0 : Nat) (s : cS) : Option (Unit × cS) :=
  sb (iS s x0 6 ((iG s x0 6) + (1 : Int32))) fun s7 =>
  sb (iS s7 x0 5 (if (iG s7 x0 5) < (iG s7 x0 14) then (iG s7 x0 14) else (iG s7 x0 5))) fun s8 =>
  if (iG s8 x0 4) ≤ 0 then
    sb (iS s8 x0 3 (if ((iG s8 x0 3) + (iG s8 x0 15)) < (1000000 : Int32) then ((iG s8 x0 3) + (iG s8 x0 15)) else (1000000 : Int32))) fun s10 =>
    if (iG s10 x0 3) < (iG s10 x0 2) then
      j_X8_pullBy_118 x0 s10
    else
      sb (iS s10 x0 4 (1 : Int32)) fun s16 =>
      sb (iS s16 x0 7 (iG s16 x0 6)) fun s17 =>
      j_X8_pullBy_118 x0 s17
  else
    sb (iS s8 x0 4 ((iG s8 x0 4) + (iG s8 x0 15))) fun s18 =>
    j_X8_pullBy_118 x0 s18
set_option maxRecDepth 20000 in
set_option maxHeartbeats 4000000 in
theorem ok_j_X8_pullBy_28 {g : pG} {l : Launch} {F : pF} {x0 : Nat} {s : cS} {x : (Unit × cS)} (hx0 : kd x0 8) (h : j_X8_pullBy_28 x0 s = some x) (hx : (fun q => F = pE g none (tS q.2) 0 0) x) : PW g l (pRoom 5 0 0) M_X8_pullBy F 28 [(0, .ref x0)] [] (tS s) 0 0 := by
  unfold j_X8_pullBy_28 at h
  refine PW.aload_n 0 0 dX8_pullBy_28 rfl rfl rfl ?_
  refine PW.dup dX8_pullBy_29 rfl ?_
  refine CW.geti dX8_pullBy_30 fL_X8_29 hx0 (Or.inl rfl) ?_
  refine PW.iconst (v := 1) dX8_pullBy_33 (by decide) ?_
  refine PW.iadd dX8_pullBy_34 ?_
  refine CW.puti dX8_pullBy_35 fL_X8_29 rfl hx0 rfl ?_
  obtain ⟨s7, es7, h⟩ := sbnd h
  refine PW.sbe es7 ?_
  clear es7
  refine PW.aload_n 0 0 dX8_pullBy_38 rfl rfl rfl ?_
  refine PW.aload_n 0 0 dX8_pullBy_39 rfl rfl rfl ?_
  refine CW.geti dX8_pullBy_40 fL_X8_26 hx0 (Or.inl rfl) ?_
  refine PW.aload_n 0 0 dX8_pullBy_43 rfl rfl rfl ?_
  refine CW.geti dX8_pullBy_44 fL_X8_42 hx0 (Or.inl rfl) ?_
  refine CW.mmax dX8_pullBy_47 mL_X8_56 (Nat.le_of_ble_eq_true rfl) (by decide) ?_
  refine CW.puti dX8_pullBy_50 fL_X8_26 rfl hx0 rfl ?_
  obtain ⟨s8, es8, h⟩ := sbnd h
  refine PW.sbe es8 ?_
  clear es8
  refine PW.aload_n 0 0 dX8_pullBy_53 rfl rfl rfl ?_
  refine CW.geti dX8_pullBy_54 fL_X8_23 hx0 (Or.inl rfl) ?_
  refine PW.if_le (tgt := 76) dX8_pullBy_57 (by decide) (fun c9 => ?_) (fun c9 => ?_)
  · replace h := ifp h c9
    refine PW.aload_n 0 0 dX8_pullBy_76 rfl rfl rfl ?_
    refine PW.ldc dX8_pullBy_77 kL_X8_62 ?_
    refine PW.aload_n 0 0 dX8_pullBy_79 rfl rfl rfl ?_
    refine CW.geti dX8_pullBy_80 fL_X8_20 hx0 (Or.inl rfl) ?_
    refine PW.aload_n 0 0 dX8_pullBy_83 rfl rfl rfl ?_
    refine CW.geti dX8_pullBy_84 fL_X8_45 hx0 (Or.inl rfl) ?_
    refine PW.iadd dX8_pullBy_87 ?_
    refine CW.mmin dX8_pullBy_88 mL_X8_63 (Nat.le_of_ble_eq_true rfl) (by decide) ?_
    refine CW.puti dX8_pullBy_91 fL_X8_20 rfl hx0 rfl ?_
    obtain ⟨s10, es10, h⟩ := sbnd h
    refine PW.sbe es10 ?_
    clear es10
    refine PW.aload_n 0 0 dX8_pullBy_94 rfl rfl rfl ?_
    refine CW.geti dX8_pullBy_95 fL_X8_20 hx0 (Or.inl rfl) ?_
    refine PW.aload_n 0 0 dX8_pullBy_98 rfl rfl rfl ?_
    refine CW.geti dX8_pullBy_99 fL_X8_17 hx0 (Or.inl rfl) ?_
    refine PW.icmp_lt (tgt := 118) dX8_pullBy_102 (by decide) (fun c11 => ?_) (fun c11 => ?_)
    · replace h := ifp h c11
      exact PW.pick [0] rfl (ok_j_X8_pullBy_118 hx0 h hx)
    · replace h := ifn h c11
      refine PW.aload_n 0 0 dX8_pullBy_105 rfl rfl rfl ?_
      refine PW.iconst (v := 1) dX8_pullBy_106 (by decide) ?_
      refine CW.puti dX8_pullBy_107 fL_X8_23 rfl hx0 rfl ?_
      obtain ⟨s16, es16, h⟩ := sbnd h
      refine PW.sbe es16 ?_
      clear es16
      refine PW.aload_n 0 0 dX8_pullBy_110 rfl rfl rfl ?_
      refine PW.aload_n 0 0 dX8_pullBy_111 rfl rfl rfl ?_
      refine CW.geti dX8_pullBy_112 fL_X8_29 hx0 (Or.inl rfl) ?_
      refine CW.puti dX8_pullBy_115 fL_X8_32 rfl hx0 rfl ?_
      obtain ⟨s17, es17, h⟩ := sbnd h
      refine PW.sbe es17 ?_
      clear es17
      exact PW.pick [0] rfl (ok_j_X8_pullBy_118 hx0 h hx)
  · replace h := ifn h c9
    refine PW.aload_n 0 0 dX8_pullBy_60 rfl rfl rfl ?_
    refine PW.dup dX8_pullBy_61 rfl ?_
    refine CW.geti dX8_pullBy_62 fL_X8_23 hx0 (Or.inl rfl) ?_
    refine PW.aload_n 0 0 dX8_pullBy_65 rfl rfl rfl ?_
    refine CW.geti dX8_pullBy_66 fL_X8_45 hx0 (Or.inl rfl) ?_
    refine PW.iadd dX8_pullBy_69 ?_
    refine CW.puti dX8_pullBy_70 fL_X8_23 rfl hx0 rfl ?_
    obtain ⟨s18, es18, h⟩ := sbnd h
    refine PW.sbe es18 ?_
    clear es18
    refine PW.goto (tgt := 118) dX8_pullBy_73 (by decide) ?_
    exact PW.pick [0] rfl (ok_j_X8_pullBy_118 hx0 h hx)
def f_X8_pullBy (N : Nat) (T : Nat) (a0 : Int32) (s : cS) : Option (Unit × cS) :=
  if (iG s T 2) = 0 then
    some (((), s))
  else
    if (iG s T 8) ≤ 0 then
      ob (f_X8_isLikeBefore T a0 s) fun r3 s4 =>
      if r3 = 0 then
        ob (f_X8_reckon N T a0 s4) fun r19 s20 =>
        j_X8_pullBy_28 T s20
      else
        j_X8_pullBy_28 T s4
    else
      some (((), s))
set_option maxRecDepth 20000 in
set_option maxHeartbeats 4000000 in
theorem p_X8_pullBy {g : pG} {l : Launch} {N : Nat} {T : Nat} {a0 : Int32} {s : cS} {q : Unit × cS} (hT : kd T 8) (h : f_X8_pullBy N T a0 s = some q) : PM g l 5 M_X8_pullBy [.ref T, .int a0] (tS s) none (tS q.2) 0 0 := by
  refine PM.of (by decide +kernel) (Nat.le_of_ble_eq_true rfl) ?_
  show PW g l (pRoom 5 0 0) M_X8_pullBy _ 0 [(0, .ref T), (1, .int a0)] [] (tS s) 0 0
  unfold f_X8_pullBy at h
  generalize hF : pE g none (tS q.2) 0 0 = F
  have hx := hF.symm
  refine PW.aload_n 0 0 dX8_pullBy_0 rfl rfl rfl ?_
  refine CW.geti dX8_pullBy_1 fL_X8_17 hT (Or.inl rfl) ?_
  refine PW.if_eq (tgt := 14) dX8_pullBy_4 (by decide) (fun c1 => ?_) (fun c1 => ?_)
  · replace h := ifp h c1
    cases h
    subst hx
    exact PW.vret dX8_pullBy_14 rfl (Nat.le_refl 0) (Nat.le_refl 0)
  · replace h := ifn h c1
    refine PW.aload_n 0 0 dX8_pullBy_7 rfl rfl rfl ?_
    refine CW.geti dX8_pullBy_8 fL_X8_35 hT (Or.inl rfl) ?_
    refine PW.if_le (tgt := 15) dX8_pullBy_11 (by decide) (fun c2 => ?_) (fun c2 => ?_)
    · replace h := ifp h c2
      refine PW.aload_n 0 0 dX8_pullBy_15 rfl rfl rfl ?_
      refine PW.iload_n 1 1 dX8_pullBy_16 rfl rfl ?_
      obtain ⟨r3, s4, q5, h⟩ := obnd h
      refine CW.callVi (ci := 8) (st := []) [.int a0] dX8_pullBy_17 (p_X8_isLikeBefore hT q5) MV_X8_isLikeBefore mL_X8_48 (by decide) rfl hT rfl rfl (Nat.le_of_ble_eq_true rfl) (by first | decide | omega) ?_
      refine PW.if_ne (tgt := 28) dX8_pullBy_20 (by decide) (fun c6 => ?_) (fun c6 => ?_)
      · replace h := ifn h c6
        exact PW.pick [0] rfl (ok_j_X8_pullBy_28 hT h hx)
      · replace h := ifp h c6
        refine PW.aload_n 0 0 dX8_pullBy_23 rfl rfl rfl ?_
        refine PW.iload_n 1 1 dX8_pullBy_24 rfl rfl ?_
        obtain ⟨r19, s20, q21, h⟩ := obnd h
        refine CW.callVv (ci := 8) (st := []) [.int a0] dX8_pullBy_25 (p_X8_reckon hT q21) MV_X8_reckon mL_X8_52 (by decide) rfl hT rfl rfl (Nat.le_of_ble_eq_true rfl) (by first | decide | omega) ?_
        exact PW.pick [0] rfl (ok_j_X8_pullBy_28 hT h hx)
    · replace h := ifn h c2
      cases h
      subst hx
      exact PW.vret dX8_pullBy_14 rfl (Nat.le_refl 0) (Nat.le_refl 0)
