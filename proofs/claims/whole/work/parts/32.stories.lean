/-! X7_size -/
def f_X7_size (s : cS) : Int32 :=
  (iG s 154 7)
set_option maxRecDepth 20000 in
set_option maxHeartbeats 4000000 in
theorem p_X7_size {g : pG} {l : Launch} {s : cS} {q : Int32} (h : f_X7_size s = q) : PM g l 1 M_X7_size [.ref 154] (tS s) (some (.int q)) (tS s) 0 0 := by
  refine PM.of (by decide +kernel) (Nat.le_of_ble_eq_true rfl) ?_
  show PW g l (pRoom 1 0 0) M_X7_size _ 0 [(0, .ref 154)] [] (tS s) 0 0
  unfold f_X7_size at h
  generalize hF : pE g (some (.int q)) (tS s) 0 0 = F
  have hx := hF.symm
  refine PW.aload_n 0 0 dX7_size_0 rfl rfl rfl ?_
  refine CW.geti dX7_size_1 fL_X7_34 LA_154 (Or.inl rfl) ?_
  cases h
  subst hx
  exact PW.iret (v := (iG s 154 7)) dX7_size_4 rfl rfl (Nat.le_refl 0) (Nat.le_refl 0)
/-! X7_finds -/
def f_X7_finds (s : cS) : Int32 :=
  (iG s 154 8)
set_option maxRecDepth 20000 in
set_option maxHeartbeats 4000000 in
theorem p_X7_finds {g : pG} {l : Launch} {s : cS} {q : Int32} (h : f_X7_finds s = q) : PM g l 1 M_X7_finds [.ref 154] (tS s) (some (.int q)) (tS s) 0 0 := by
  refine PM.of (by decide +kernel) (Nat.le_of_ble_eq_true rfl) ?_
  show PW g l (pRoom 1 0 0) M_X7_finds _ 0 [(0, .ref 154)] [] (tS s) 0 0
  unfold f_X7_finds at h
  generalize hF : pE g (some (.int q)) (tS s) 0 0 = F
  have hx := hF.symm
  refine PW.aload_n 0 0 dX7_finds_0 rfl rfl rfl ?_
  refine CW.geti dX7_finds_1 fL_X7_38 LA_154 (Or.inl rfl) ?_
  cases h
  subst hx
  exact PW.iret (v := (iG s 154 8)) dX7_finds_4 rfl rfl (Nat.le_refl 0) (Nat.le_refl 0)
/-! X7_has -/
def f_X7_has (a0 : Int32) (s : cS) : Int32 :=
  if a0 < 0 then
    (0 : Int32)
  else
    if (iG s 154 7) ≤ a0 then
      (0 : Int32)
    else
      (1 : Int32)
set_option maxRecDepth 20000 in
set_option maxHeartbeats 4000000 in
theorem p_X7_has {g : pG} {l : Launch} {a0 : Int32} {s : cS} {q : Int32} (h : f_X7_has a0 s = q) : PM g l 1 M_X7_has [.ref 154, .int a0] (tS s) (some (.int q)) (tS s) 0 0 := by
  refine PM.of (by decide +kernel) (Nat.le_of_ble_eq_true rfl) ?_
  show PW g l (pRoom 1 0 0) M_X7_has _ 0 [(0, .ref 154), (1, .int a0)] [] (tS s) 0 0
  unfold f_X7_has at h
  generalize hF : pE g (some (.int q)) (tS s) 0 0 = F
  have hx := hF.symm
  refine PW.iload_n 1 1 dX7_has_0 rfl rfl ?_
  refine PW.if_lt (tgt := 16) dX7_has_1 (by decide) (fun c1 => ?_) (fun c1 => ?_)
  · replace h := ifp h c1
    refine PW.iconst (v := 0) dX7_has_16 (by decide) ?_
    cases h
    subst hx
    exact PW.iret (v := (0 : Int32)) dX7_has_17 rfl (narZ (Or.inl rfl)) (Nat.le_refl 0) (Nat.le_refl 0)
  · replace h := ifn h c1
    refine PW.iload_n 1 1 dX7_has_4 rfl rfl ?_
    refine PW.aload_n 0 0 dX7_has_5 rfl rfl rfl ?_
    refine CW.geti dX7_has_6 fL_X7_34 LA_154 (Or.inl rfl) ?_
    refine PW.icmp_ge (tgt := 16) dX7_has_9 (by decide) (fun c2 => ?_) (fun c2 => ?_)
    · replace h := ifp h c2
      refine PW.iconst (v := 0) dX7_has_16 (by decide) ?_
      cases h
      subst hx
      exact PW.iret (v := (0 : Int32)) dX7_has_17 rfl (narZ (Or.inl rfl)) (Nat.le_refl 0) (Nat.le_refl 0)
    · replace h := ifn h c2
      refine PW.iconst (v := 1) dX7_has_12 (by decide) ?_
      refine PW.goto (tgt := 17) dX7_has_13 (by decide) ?_
      cases h
      subst hx
      exact PW.iret (v := (1 : Int32)) dX7_has_17 rfl (narZ (Or.inr rfl)) (Nat.le_refl 0) (Nat.le_refl 0)
theorem f_X7_has_bool {a0 : Int32} {s : cS} : f_X7_has a0 s = 0 ∨ f_X7_has a0 s = 1 := by
  unfold f_X7_has
  repeat' split
  all_goals first | exact Or.inl rfl | exact Or.inr rfl
/-! X7_hasFind -/
def f_X7_hasFind (a0 : Int32) (s : cS) : Int32 :=
  if a0 < 0 then
    (0 : Int32)
  else
    if (iG s 154 8) ≤ a0 then
      (0 : Int32)
    else
      (1 : Int32)
set_option maxRecDepth 20000 in
set_option maxHeartbeats 4000000 in
theorem p_X7_hasFind {g : pG} {l : Launch} {a0 : Int32} {s : cS} {q : Int32} (h : f_X7_hasFind a0 s = q) : PM g l 1 M_X7_hasFind [.ref 154, .int a0] (tS s) (some (.int q)) (tS s) 0 0 := by
  refine PM.of (by decide +kernel) (Nat.le_of_ble_eq_true rfl) ?_
  show PW g l (pRoom 1 0 0) M_X7_hasFind _ 0 [(0, .ref 154), (1, .int a0)] [] (tS s) 0 0
  unfold f_X7_hasFind at h
  generalize hF : pE g (some (.int q)) (tS s) 0 0 = F
  have hx := hF.symm
  refine PW.iload_n 1 1 dX7_hasFind_0 rfl rfl ?_
  refine PW.if_lt (tgt := 16) dX7_hasFind_1 (by decide) (fun c1 => ?_) (fun c1 => ?_)
  · replace h := ifp h c1
    refine PW.iconst (v := 0) dX7_hasFind_16 (by decide) ?_
    cases h
    subst hx
    exact PW.iret (v := (0 : Int32)) dX7_hasFind_17 rfl (narZ (Or.inl rfl)) (Nat.le_refl 0) (Nat.le_refl 0)
  · replace h := ifn h c1
    refine PW.iload_n 1 1 dX7_hasFind_4 rfl rfl ?_
    refine PW.aload_n 0 0 dX7_hasFind_5 rfl rfl rfl ?_
    refine CW.geti dX7_hasFind_6 fL_X7_38 LA_154 (Or.inl rfl) ?_
    refine PW.icmp_ge (tgt := 16) dX7_hasFind_9 (by decide) (fun c2 => ?_) (fun c2 => ?_)
    · replace h := ifp h c2
      refine PW.iconst (v := 0) dX7_hasFind_16 (by decide) ?_
      cases h
      subst hx
      exact PW.iret (v := (0 : Int32)) dX7_hasFind_17 rfl (narZ (Or.inl rfl)) (Nat.le_refl 0) (Nat.le_refl 0)
    · replace h := ifn h c2
      refine PW.iconst (v := 1) dX7_hasFind_12 (by decide) ?_
      refine PW.goto (tgt := 17) dX7_hasFind_13 (by decide) ?_
      cases h
      subst hx
      exact PW.iret (v := (1 : Int32)) dX7_hasFind_17 rfl (narZ (Or.inr rfl)) (Nat.le_refl 0) (Nat.le_refl 0)
theorem f_X7_hasFind_bool {a0 : Int32} {s : cS} : f_X7_hasFind a0 s = 0 ∨ f_X7_hasFind a0 s = 1 := by
  unfold f_X7_hasFind
  repeat' split
  all_goals first | exact Or.inl rfl | exact Or.inr rfl
/-! X7_add -/
def f_X7_add (a0 : Int32) (s : cS) : (Int32 × cS) :=
  sb (pA s 155 6 (iG s 154 7) a0) fun s2 =>
  sb (iS s2 154 7 ((iG s2 154 7) + (1 : Int32))) fun s4 =>
  (((iG s4 154 7) - (1 : Int32)), s4)
set_option maxRecDepth 20000 in
set_option maxHeartbeats 4000000 in
theorem p_X7_add {g : pG} {l : Launch} {a0 : Int32} {s : cS} {q : Int32 × cS} (h : f_X7_add a0 s = q) : PM g l 2 M_X7_add [.ref 154, .int a0] (tS s) (some (.int q.1)) (tS q.2) 0 0 := by
  refine PM.of (by decide +kernel) (Nat.le_of_ble_eq_true rfl) ?_
  show PW g l (pRoom 2 0 0) M_X7_add _ 0 [(0, .ref 154), (1, .int a0)] [] (tS s) 0 0
  unfold f_X7_add at h
  generalize hF : pE g (some (.int q.1)) (tS q.2) 0 0 = F
  have hx := hF.symm
  refine PW.aload_n 0 0 dX7_add_0 rfl rfl rfl ?_
  refine CW.getr dX7_add_1 fL_X7_11 LA_154 (Or.inr ⟨_, rfl⟩) rfl ?_
  refine PW.aload_n 0 0 dX7_add_4 rfl rfl rfl ?_
  refine CW.geti dX7_add_5 fL_X7_34 LA_154 (Or.inl rfl) ?_
  refine PW.iload_n 1 1 dX7_add_8 rfl rfl ?_
  obtain ⟨s2, q3, h⟩ := sbnd h
  refine CW.callSNv (st := []) [.ref 155, .int (iG s 154 7), .int a0] dX7_add_9 (ps_put LA_155 q3) MS_X11_put mN_X7_41 rfl rfl (Nat.le_of_ble_eq_true rfl) (by first | decide | omega) ?_
  refine PW.aload_n 0 0 dX7_add_12 rfl rfl rfl ?_
  refine PW.dup dX7_add_13 rfl ?_
  refine CW.geti dX7_add_14 fL_X7_34 LA_154 (Or.inl rfl) ?_
  refine PW.iconst (v := 1) dX7_add_17 (by decide) ?_
  refine PW.iadd dX7_add_18 ?_
  refine CW.puti dX7_add_19 fL_X7_34 rfl LA_154 rfl ?_
  obtain ⟨s4, es4, h⟩ := sbnd h
  refine PW.sbe es4 ?_
  clear es4
  refine PW.aload_n 0 0 dX7_add_22 rfl rfl rfl ?_
  refine CW.geti dX7_add_23 fL_X7_34 LA_154 (Or.inl rfl) ?_
  refine PW.iconst (v := 1) dX7_add_26 (by decide) ?_
  refine PW.isub dX7_add_27 ?_
  cases h
  subst hx
  exact PW.iret (v := ((iG s4 154 7) - (1 : Int32))) dX7_add_28 rfl rfl (Nat.le_refl 0) (Nat.le_refl 0)
/-! X7_addFind -/
def f_X7_addFind (s : cS) : (Int32 × cS) :=
  sb (iS s 154 8 ((iG s 154 8) + (1 : Int32))) fun s1 =>
  (((iG s1 154 8) - (1 : Int32)), s1)
set_option maxRecDepth 20000 in
set_option maxHeartbeats 4000000 in
theorem p_X7_addFind {g : pG} {l : Launch} {s : cS} {q : Int32 × cS} (h : f_X7_addFind s = q) : PM g l 1 M_X7_addFind [.ref 154] (tS s) (some (.int q.1)) (tS q.2) 0 0 := by
  refine PM.of (by decide +kernel) (Nat.le_of_ble_eq_true rfl) ?_
  show PW g l (pRoom 1 0 0) M_X7_addFind _ 0 [(0, .ref 154)] [] (tS s) 0 0
  unfold f_X7_addFind at h
  generalize hF : pE g (some (.int q.1)) (tS q.2) 0 0 = F
  have hx := hF.symm
  refine PW.aload_n 0 0 dX7_addFind_0 rfl rfl rfl ?_
  refine PW.dup dX7_addFind_1 rfl ?_
  refine CW.geti dX7_addFind_2 fL_X7_38 LA_154 (Or.inl rfl) ?_
  refine PW.iconst (v := 1) dX7_addFind_5 (by decide) ?_
  refine PW.iadd dX7_addFind_6 ?_
  refine CW.puti dX7_addFind_7 fL_X7_38 rfl LA_154 rfl ?_
  obtain ⟨s1, es1, h⟩ := sbnd h
  refine PW.sbe es1 ?_
  clear es1
  refine PW.aload_n 0 0 dX7_addFind_10 rfl rfl rfl ?_
  refine CW.geti dX7_addFind_11 fL_X7_38 LA_154 (Or.inl rfl) ?_
  refine PW.iconst (v := 1) dX7_addFind_14 (by decide) ?_
  refine PW.isub dX7_addFind_15 ?_
  cases h
  subst hx
  exact PW.iret (v := ((iG s1 154 8) - (1 : Int32))) dX7_addFind_16 rfl rfl (Nat.le_refl 0) (Nat.le_refl 0)
/-! X7_foretell -/
def f_X7_foretell (a0 : Int32) (a1 : Int32) (a2 : Int32) (s : cS) : (Unit × cS) :=
  sb (pA s 156 60 ((a0 * (6 : Int32)) + a1) a2) fun s2 =>
  ((), s2)
set_option maxRecDepth 20000 in
set_option maxHeartbeats 4000000 in
theorem p_X7_foretell {g : pG} {l : Launch} {a0 : Int32} {a1 : Int32} {a2 : Int32} {s : cS} {q : Unit × cS} (h : f_X7_foretell a0 a1 a2 s = q) : PM g l 2 M_X7_foretell [.ref 154, .int a0, .int a1, .int a2] (tS s) none (tS q.2) 0 0 := by
  refine PM.of (by decide +kernel) (Nat.le_of_ble_eq_true rfl) ?_
  show PW g l (pRoom 2 0 0) M_X7_foretell _ 0 [(0, .ref 154), (1, .int a0), (2, .int a1), (3, .int a2)] [] (tS s) 0 0
  unfold f_X7_foretell at h
  generalize hF : pE g none (tS q.2) 0 0 = F
  have hx := hF.symm
  refine PW.aload_n 0 0 dX7_foretell_0 rfl rfl rfl ?_
  refine CW.getr dX7_foretell_1 fL_X7_15 LA_154 (Or.inr ⟨_, rfl⟩) rfl ?_
  refine PW.iload_n 1 1 dX7_foretell_4 rfl rfl ?_
  refine PW.bipush (v := 6) dX7_foretell_5 (by decide) ?_
  refine PW.imul dX7_foretell_7 ?_
  refine PW.iload_n 2 2 dX7_foretell_8 rfl rfl ?_
  refine PW.iadd dX7_foretell_9 ?_
  refine PW.iload_n 3 3 dX7_foretell_10 rfl rfl ?_
  obtain ⟨s2, q3, h⟩ := sbnd h
  refine CW.callSNv (st := []) [.ref 156, .int ((a0 * (6 : Int32)) + a1), .int a2] dX7_foretell_11 (ps_put LA_156 q3) MS_X11_put mN_X7_41 rfl rfl (Nat.le_of_ble_eq_true rfl) (by first | decide | omega) ?_
  cases h
  subst hx
  exact PW.vret dX7_foretell_14 rfl (Nat.le_refl 0) (Nat.le_refl 0)
/-! X7_know -/
def f_X7_know (a0 : Int32) (a1 : Int32) (s : cS) : (Unit × cS) :=
  sb (pA s 157 10 a0 a1) fun s2 =>
  ((), s2)
set_option maxRecDepth 20000 in
set_option maxHeartbeats 4000000 in
theorem p_X7_know {g : pG} {l : Launch} {a0 : Int32} {a1 : Int32} {s : cS} {q : Unit × cS} (h : f_X7_know a0 a1 s = q) : PM g l 2 M_X7_know [.ref 154, .int a0, .int a1] (tS s) none (tS q.2) 0 0 := by
  refine PM.of (by decide +kernel) (Nat.le_of_ble_eq_true rfl) ?_
  show PW g l (pRoom 2 0 0) M_X7_know _ 0 [(0, .ref 154), (1, .int a0), (2, .int a1)] [] (tS s) 0 0
  unfold f_X7_know at h
  generalize hF : pE g none (tS q.2) 0 0 = F
  have hx := hF.symm
  refine PW.aload_n 0 0 dX7_know_0 rfl rfl rfl ?_
  refine CW.getr dX7_know_1 fL_X7_18 LA_154 (Or.inr ⟨_, rfl⟩) rfl ?_
  refine PW.iload_n 1 1 dX7_know_4 rfl rfl ?_
  refine PW.iload_n 2 2 dX7_know_5 rfl rfl ?_
  obtain ⟨s2, q3, h⟩ := sbnd h
  refine CW.callSNv (st := []) [.ref 157, .int a0, .int a1] dX7_know_6 (ps_put LA_157 q3) MS_X11_put mN_X7_41 rfl rfl (Nat.le_of_ble_eq_true rfl) (by first | decide | omega) ?_
  cases h
  subst hx
  exact PW.vret dX7_know_9 rfl (Nat.le_refl 0) (Nat.le_refl 0)
/-! X7_weigh -/
def f_X7_weigh (a0 : Int32) (a1 : Int32) (a2 : Int32) (s : cS) : (Unit × cS) :=
  sb (pA s 158 240 ((a0 * (40 : Int32)) + a1) a2) fun s2 =>
  ((), s2)
set_option maxRecDepth 20000 in
set_option maxHeartbeats 4000000 in
theorem p_X7_weigh {g : pG} {l : Launch} {a0 : Int32} {a1 : Int32} {a2 : Int32} {s : cS} {q : Unit × cS} (h : f_X7_weigh a0 a1 a2 s = q) : PM g l 2 M_X7_weigh [.ref 154, .int a0, .int a1, .int a2] (tS s) none (tS q.2) 0 0 := by
  refine PM.of (by decide +kernel) (Nat.le_of_ble_eq_true rfl) ?_
  show PW g l (pRoom 2 0 0) M_X7_weigh _ 0 [(0, .ref 154), (1, .int a0), (2, .int a1), (3, .int a2)] [] (tS s) 0 0
  unfold f_X7_weigh at h
  generalize hF : pE g none (tS q.2) 0 0 = F
  have hx := hF.symm
  refine PW.aload_n 0 0 dX7_weigh_0 rfl rfl rfl ?_
  refine CW.getr dX7_weigh_1 fL_X7_21 LA_154 (Or.inr ⟨_, rfl⟩) rfl ?_
  refine PW.iload_n 1 1 dX7_weigh_4 rfl rfl ?_
  refine PW.bipush (v := 40) dX7_weigh_5 (by decide) ?_
  refine PW.imul dX7_weigh_7 ?_
  refine PW.iload_n 2 2 dX7_weigh_8 rfl rfl ?_
  refine PW.iadd dX7_weigh_9 ?_
  refine PW.iload_n 3 3 dX7_weigh_10 rfl rfl ?_
  obtain ⟨s2, q3, h⟩ := sbnd h
  refine CW.callSNv (st := []) [.ref 158, .int ((a0 * (40 : Int32)) + a1), .int a2] dX7_weigh_11 (ps_put LA_158 q3) MS_X11_put mN_X7_41 rfl rfl (Nat.le_of_ble_eq_true rfl) (by first | decide | omega) ?_
  cases h
  subst hx
  exact PW.vret dX7_weigh_14 rfl (Nat.le_refl 0) (Nat.le_refl 0)
/-! X7_oddsOf -/
def j_X7_oddsOf_78 (x1 : Int32) (x4 : Int32) (y0 : Int64) (y1 : Int64) (s : cS) : Option (((Int64 × Int32) × cS) ⊕ (Int64 × cS)) :=
  some (.inl (((y0 * y1), (x4 + (1 : Int32))), s))
set_option maxRecDepth 20000 in
set_option maxHeartbeats 4000000 in
theorem ok_j_X7_oddsOf_78 {g : pG} {l : Launch} {F : pF} {x1 : Int32} {x4 : Int32} {y0 : Int64} {y1 : Int64} {s : cS} {x : (((Int64 × Int32) × cS) ⊕ (Int64 × cS))} (h : j_X7_oddsOf_78 x1 x4 y0 y1 s = some x) (hx : (KL (fun (v : (Int64 × Int32) × cS) => PW g l (pRoom 2 0 0) M_X7_oddsOf F 13 [(0, .ref 154), (1, .int x1), (2, .long v.1.1), (4, .int v.1.2)] [] (tS v.2) 0 0) (fun q => F = pE g (some (.long q.1)) (tS q.2) 0 0)) x) : PW g l (pRoom 2 0 0) M_X7_oddsOf F 78 [(0, .ref 154), (1, .int x1), (4, .int x4)] [.long y1, .long y0] (tS s) 0 0 := by
  unfold j_X7_oddsOf_78 at h
  refine PW.lmul dX7_oddsOf_78 ?_
  refine PW.lstore_n dX7_oddsOf_79 rfl (Nat.le_of_ble_eq_true rfl) rfl ?_
  refine PW.iinc (v := (x4 + (1 : Int32))) 3 dX7_oddsOf_80 rfl (by first | rfl | decide) (Nat.le_of_ble_eq_true rfl) rfl ?_
  refine PW.goto (tgt := 13) dX7_oddsOf_83 (by decide) ?_
  cases h
  exact PW.pick [2, 3, 1, 0] rfl hx
def b_X7_oddsOf_13 (x1 : Int32) (x2 : Int64) (x4 : Int32) (s : cS) : Option (((Int64 × Int32) × cS) ⊕ (Int64 × cS)) :=
  if (iG s 154 8) ≤ x4 then
    oR (
      some ((x2, s)))
  else
    if (aA s 157 10 x4) = (-1 : Int32) then
      j_X7_oddsOf_78 x1 x4 x2 (1 : Int64) s
    else
      if (aA s 157 10 x4) = (1 : Int32) then
        j_X7_oddsOf_78 x1 x4 x2 ((aA s 156 60 ((x4 * (6 : Int32)) + x1)).toInt64) s
      else
        j_X7_oddsOf_78 x1 x4 x2 (((10 : Int32) - (aA s 156 60 ((x4 * (6 : Int32)) + x1))).toInt64) s
set_option maxRecDepth 20000 in
set_option maxHeartbeats 4000000 in
theorem ok_b_X7_oddsOf_13 {g : pG} {l : Launch} {F : pF} {x1 : Int32} {x2 : Int64} {x4 : Int32} {s : cS} {x : (((Int64 × Int32) × cS) ⊕ (Int64 × cS))} (h : b_X7_oddsOf_13 x1 x2 x4 s = some x) (hx : (KL (fun (v : (Int64 × Int32) × cS) => PW g l (pRoom 2 0 0) M_X7_oddsOf F 13 [(0, .ref 154), (1, .int x1), (2, .long v.1.1), (4, .int v.1.2)] [] (tS v.2) 0 0) (fun q => F = pE g (some (.long q.1)) (tS q.2) 0 0)) x) : PW g l (pRoom 2 0 0) M_X7_oddsOf F 13 [(0, .ref 154), (1, .int x1), (2, .long x2), (4, .int x4)] [] (tS s) 0 0 := by
  unfold b_X7_oddsOf_13 at h
  refine PW.iload 3 dX7_oddsOf_13 rfl ?_
  refine PW.aload_n 0 0 dX7_oddsOf_15 rfl rfl rfl ?_
  refine CW.geti dX7_oddsOf_16 fL_X7_38 LA_154 (Or.inl rfl) ?_
  refine PW.icmp_ge (tgt := 86) dX7_oddsOf_19 (by decide) (fun c2 => ?_) (fun c2 => ?_)
  · replace h := ifp h c2
    obtain ⟨xo, hy, hxo⟩ := oRb h
    clear h
    subst hxo
    replace hx := KLr hx
    have h := hy
    clear hy
    refine PW.lload_n 2 2 dX7_oddsOf_86 rfl rfl ?_
    cases h
    subst hx
    exact PW.lret dX7_oddsOf_87 rfl (Nat.le_refl 0) (Nat.le_refl 0)
  · replace h := ifn h c2
    refine PW.aload_n 0 0 dX7_oddsOf_22 rfl rfl rfl ?_
    refine CW.getr dX7_oddsOf_23 fL_X7_18 LA_154 (Or.inr ⟨_, rfl⟩) rfl ?_
    refine PW.iload 3 dX7_oddsOf_26 rfl ?_
    refine CW.callSNi (st := []) [.ref 157, .int x4] dX7_oddsOf_28 (ps_at LA_157 rfl) MS_X11_at mN_X7_45 rfl rfl (Nat.le_of_ble_eq_true rfl) (by first | decide | omega) ?_
    refine PW.istore dX7_oddsOf_31 (Nat.le_of_ble_eq_true rfl) rfl ?_
    refine PW.aload_n 1 0 dX7_oddsOf_33 rfl rfl rfl ?_
    refine CW.getr dX7_oddsOf_34 fL_X7_15 LA_154 (Or.inr ⟨_, rfl⟩) rfl ?_
    refine PW.iload 4 dX7_oddsOf_37 rfl ?_
    refine PW.bipush (v := 6) dX7_oddsOf_39 (by decide) ?_
    refine PW.imul dX7_oddsOf_41 ?_
    refine PW.iload_n 2 1 dX7_oddsOf_42 rfl rfl ?_
    refine PW.iadd dX7_oddsOf_43 ?_
    refine CW.callSNi (st := []) [.ref 156, .int ((x4 * (6 : Int32)) + x1)] dX7_oddsOf_44 (ps_at LA_156 rfl) MS_X11_at mN_X7_45 rfl rfl (Nat.le_of_ble_eq_true rfl) (by first | decide | omega) ?_
    refine PW.istore dX7_oddsOf_47 (Nat.le_of_ble_eq_true rfl) rfl ?_
    refine PW.lload_n 4 2 dX7_oddsOf_49 rfl rfl ?_
    refine PW.iload 1 dX7_oddsOf_50 rfl ?_
    refine PW.iconst (v := (-1)) dX7_oddsOf_52 (by decide) ?_
    refine PW.icmp_ne (tgt := 60) dX7_oddsOf_53 (by decide) (fun c5 => ?_) (fun c5 => ?_)
    · replace h := ifn h c5
      refine PW.iload 1 dX7_oddsOf_60 rfl ?_
      refine PW.iconst (v := 1) dX7_oddsOf_62 (by decide) ?_
      refine PW.icmp_ne (tgt := 72) dX7_oddsOf_63 (by decide) (fun c6 => ?_) (fun c6 => ?_)
      · replace h := ifn h c6
        refine PW.bipush (v := 10) dX7_oddsOf_72 (by decide) ?_
        refine PW.iload 0 dX7_oddsOf_74 rfl ?_
        refine PW.isub dX7_oddsOf_76 ?_
        refine PW.i2l dX7_oddsOf_77 ?_
        exact PW.pick [2, 3, 5] rfl (ok_j_X7_oddsOf_78 h hx)
      · replace h := ifp h c6
        refine PW.iload 0 dX7_oddsOf_66 rfl ?_
        refine PW.i2l dX7_oddsOf_68 ?_
        refine PW.goto (tgt := 78) dX7_oddsOf_69 (by decide) ?_
        exact PW.pick [2, 3, 5] rfl (ok_j_X7_oddsOf_78 h hx)
    · replace h := ifp h c5
      refine PW.lconst (v := 1) dX7_oddsOf_56 (by decide) ?_
      refine PW.goto (tgt := 78) dX7_oddsOf_57 (by decide) ?_
      exact PW.pick [2, 3, 5] rfl (ok_j_X7_oddsOf_78 h hx)
def w_X7_oddsOf_13 (N : Nat) (x1 : Int32) (x2 : Int64) (x4 : Int32) (s : cS) : Option (Int64 × cS) := itr (fun (v : (Int64 × Int32) × cS) => b_X7_oddsOf_13 x1 v.1.1 v.1.2 v.2) N ((x2, x4), s)
theorem ok_w_X7_oddsOf_13 {g : pG} {l : Launch} {F : pF} {N : Nat} {x1 : Int32} {x2 : Int64} {x4 : Int32} {s : cS} {x : (Int64 × cS)} (h : w_X7_oddsOf_13 N x1 x2 x4 s = some x) (hx : (fun q => F = pE g (some (.long q.1)) (tS q.2) 0 0) x) : PW g l (pRoom 2 0 0) M_X7_oddsOf F 13 [(0, .ref 154), (1, .int x1), (2, .long x2), (4, .int x4)] [] (tS s) 0 0 :=
  okIter (P := (fun (v : (Int64 × Int32) × cS) => PW g l (pRoom 2 0 0) M_X7_oddsOf F 13 [(0, .ref 154), (1, .int x1), (2, .long v.1.1), (4, .int v.1.2)] [] (tS v.2) 0 0)) (K := (fun q => F = pE g (some (.long q.1)) (tS q.2) 0 0)) (fun v y hB hy => ok_b_X7_oddsOf_13 hB hy) N ((x2, x4), s) x h hx
def f_X7_oddsOf (N : Nat) (a0 : Int32) (s : cS) : Option (Int64 × cS) :=
  w_X7_oddsOf_13 N a0 ((aA s 155 6 a0).toInt64) (0 : Int32) s
set_option maxRecDepth 20000 in
set_option maxHeartbeats 4000000 in
theorem p_X7_oddsOf {g : pG} {l : Launch} {N : Nat} {a0 : Int32} {s : cS} {q : Int64 × cS} (h : f_X7_oddsOf N a0 s = some q) : PM g l 2 M_X7_oddsOf [.ref 154, .int a0] (tS s) (some (.long q.1)) (tS q.2) 0 0 := by
  refine PM.of (by decide +kernel) (Nat.le_of_ble_eq_true rfl) ?_
  show PW g l (pRoom 2 0 0) M_X7_oddsOf _ 0 [(0, .ref 154), (1, .int a0)] [] (tS s) 0 0
  unfold f_X7_oddsOf at h
  generalize hF : pE g (some (.long q.1)) (tS q.2) 0 0 = F
  have hx := hF.symm
  refine PW.aload_n 0 0 dX7_oddsOf_0 rfl rfl rfl ?_
  refine CW.getr dX7_oddsOf_1 fL_X7_11 LA_154 (Or.inr ⟨_, rfl⟩) rfl ?_
  refine PW.iload_n 1 1 dX7_oddsOf_4 rfl rfl ?_
  refine CW.callSNi (st := []) [.ref 155, .int a0] dX7_oddsOf_5 (ps_at LA_155 rfl) MS_X11_at mN_X7_45 rfl rfl (Nat.le_of_ble_eq_true rfl) (by first | decide | omega) ?_
  refine PW.i2l dX7_oddsOf_8 ?_
  refine PW.lstore_n dX7_oddsOf_9 rfl (Nat.le_of_ble_eq_true rfl) rfl ?_
  refine PW.iconst (v := 0) dX7_oddsOf_10 (by decide) ?_
  refine PW.istore dX7_oddsOf_11 (Nat.le_of_ble_eq_true rfl) rfl ?_
  exact PW.pick [2, 3, 1, 0] rfl (ok_w_X7_oddsOf_13 h hx)
/-! X7_together -/
def b_X7_together_4 (N : Nat) (x1 : Int64) (x3 : Int32) (s : cS) : Option (((Int64 × Int32) × cS) ⊕ (Int64 × cS)) :=
  if (iG s 154 7) ≤ x3 then
    oR (
      some ((x1, s)))
  else
    ob (f_X7_oddsOf N x3 s) fun r2 s3 =>
    some (.inl (((x1 + r2), (x3 + (1 : Int32))), s3))
set_option maxRecDepth 20000 in
set_option maxHeartbeats 4000000 in
theorem ok_b_X7_together_4 {g : pG} {l : Launch} {F : pF} {N : Nat} {x1 : Int64} {x3 : Int32} {s : cS} {x : (((Int64 × Int32) × cS) ⊕ (Int64 × cS))} (h : b_X7_together_4 N x1 x3 s = some x) (hx : (KL (fun (v : (Int64 × Int32) × cS) => PW g l (pRoom 3 0 0) M_X7_together F 4 [(0, .ref 154), (1, .long v.1.1), (3, .int v.1.2)] [] (tS v.2) 0 0) (fun q => F = pE g (some (.long q.1)) (tS q.2) 0 0)) x) : PW g l (pRoom 3 0 0) M_X7_together F 4 [(0, .ref 154), (1, .long x1), (3, .int x3)] [] (tS s) 0 0 := by
  unfold b_X7_together_4 at h
  refine PW.iload_n 2 3 dX7_together_4 rfl rfl ?_
  refine PW.aload_n 0 0 dX7_together_5 rfl rfl rfl ?_
  refine CW.geti dX7_together_6 fL_X7_34 LA_154 (Or.inl rfl) ?_
  refine PW.icmp_ge (tgt := 26) dX7_together_9 (by decide) (fun c1 => ?_) (fun c1 => ?_)
  · replace h := ifp h c1
    obtain ⟨xo, hy, hxo⟩ := oRb h
    clear h
    subst hxo
    replace hx := KLr hx
    have h := hy
    clear hy
    refine PW.lload_n 1 1 dX7_together_26 rfl rfl ?_
    cases h
    subst hx
    exact PW.lret dX7_together_27 rfl (Nat.le_refl 0) (Nat.le_refl 0)
  · replace h := ifn h c1
    refine PW.lload_n 1 1 dX7_together_12 rfl rfl ?_
    refine PW.aload_n 0 0 dX7_together_13 rfl rfl rfl ?_
    refine PW.iload_n 2 3 dX7_together_14 rfl rfl ?_
    obtain ⟨r2, s3, q4, h⟩ := obnd h
    refine CW.callVl (ci := 7) (st := [.long x1]) [.int x3] dX7_together_15 (p_X7_oddsOf q4) MV_X7_oddsOf mL_X7_49 (by decide) rfl LA_154 rfl rfl (Nat.le_of_ble_eq_true rfl) (by first | decide | omega) ?_
    refine PW.ladd dX7_together_18 ?_
    refine PW.lstore_n dX7_together_19 rfl (Nat.le_of_ble_eq_true rfl) rfl ?_
    refine PW.iinc (v := (x3 + (1 : Int32))) 2 dX7_together_20 rfl (by first | rfl | decide) (Nat.le_of_ble_eq_true rfl) rfl ?_
    refine PW.goto (tgt := 4) dX7_together_23 (by decide) ?_
    cases h
    exact PW.pick [2, 1, 0] rfl hx
def w_X7_together_4 (N : Nat) (x1 : Int64) (x3 : Int32) (s : cS) : Option (Int64 × cS) := itr (fun (v : (Int64 × Int32) × cS) => b_X7_together_4 N v.1.1 v.1.2 v.2) N ((x1, x3), s)
theorem ok_w_X7_together_4 {g : pG} {l : Launch} {F : pF} {N : Nat} {x1 : Int64} {x3 : Int32} {s : cS} {x : (Int64 × cS)} (h : w_X7_together_4 N x1 x3 s = some x) (hx : (fun q => F = pE g (some (.long q.1)) (tS q.2) 0 0) x) : PW g l (pRoom 3 0 0) M_X7_together F 4 [(0, .ref 154), (1, .long x1), (3, .int x3)] [] (tS s) 0 0 :=
  okIter (P := (fun (v : (Int64 × Int32) × cS) => PW g l (pRoom 3 0 0) M_X7_together F 4 [(0, .ref 154), (1, .long v.1.1), (3, .int v.1.2)] [] (tS v.2) 0 0)) (K := (fun q => F = pE g (some (.long q.1)) (tS q.2) 0 0)) (fun v y hB hy => ok_b_X7_together_4 hB hy) N ((x1, x3), s) x h hx
def f_X7_together (N : Nat) (s : cS) : Option (Int64 × cS) :=
  w_X7_together_4 N (0 : Int64) (0 : Int32) s
set_option maxRecDepth 20000 in
set_option maxHeartbeats 4000000 in
theorem p_X7_together {g : pG} {l : Launch} {N : Nat} {s : cS} {q : Int64 × cS} (h : f_X7_together N s = some q) : PM g l 3 M_X7_together [.ref 154] (tS s) (some (.long q.1)) (tS q.2) 0 0 := by
  refine PM.of (by decide +kernel) (Nat.le_of_ble_eq_true rfl) ?_
  show PW g l (pRoom 3 0 0) M_X7_together _ 0 [(0, .ref 154)] [] (tS s) 0 0
  unfold f_X7_together at h
  generalize hF : pE g (some (.long q.1)) (tS q.2) 0 0 = F
  have hx := hF.symm
  refine PW.lconst (v := 0) dX7_together_0 (by decide) ?_
  refine PW.lstore_n dX7_together_1 rfl (Nat.le_of_ble_eq_true rfl) rfl ?_
  refine PW.iconst (v := 0) dX7_together_2 (by decide) ?_
  refine PW.istore_n dX7_together_3 rfl (Nat.le_of_ble_eq_true rfl) rfl ?_
  exact PW.pick [2, 1, 0] rfl (ok_w_X7_together_4 h hx)
/-! X7_greatestOfBoth -/
def b_X7_greatestOfBoth_8 (N : Nat) (x1 : Int32) (x2 : Int64) (x4 : Int64) (x6 : Int32) (s : cS) : Option (((Int64 × Int64 × Int32) × cS) ⊕ (Int64 × cS)) :=
  if (iG s 154 7) ≤ x6 then
    oR (
      some (((x2 + x4), s)))
  else
    ob (f_X7_oddsOf N x6 s) fun r2 s3 =>
    some (.inl (((if (r2 * (aA s3 156 60 ((x1 * (6 : Int32)) + x6)).toInt64) < x2 then x2 else (r2 * (aA s3 156 60 ((x1 * (6 : Int32)) + x6)).toInt64)), (if (r2 * ((10 : Int32) - (aA s3 156 60 ((x1 * (6 : Int32)) + x6))).toInt64) < x4 then x4 else (r2 * ((10 : Int32) - (aA s3 156 60 ((x1 * (6 : Int32)) + x6))).toInt64)), (x6 + (1 : Int32))), s3))
set_option maxRecDepth 20000 in
set_option maxHeartbeats 4000000 in
theorem ok_b_X7_greatestOfBoth_8 {g : pG} {l : Launch} {F : pF} {N : Nat} {x1 : Int32} {x2 : Int64} {x4 : Int64} {x6 : Int32} {s : cS} {x : (((Int64 × Int64 × Int32) × cS) ⊕ (Int64 × cS))} (h : b_X7_greatestOfBoth_8 N x1 x2 x4 x6 s = some x) (hx : (KL (fun (v : (Int64 × Int64 × Int32) × cS) => PW g l (pRoom 3 0 0) M_X7_greatestOfBoth F 8 [(0, .ref 154), (1, .int x1), (2, .long v.1.1), (4, .long v.1.2.1), (6, .int v.1.2.2)] [] (tS v.2) 0 0) (fun q => F = pE g (some (.long q.1)) (tS q.2) 0 0)) x) : PW g l (pRoom 3 0 0) M_X7_greatestOfBoth F 8 [(0, .ref 154), (1, .int x1), (2, .long x2), (4, .long x4), (6, .int x6)] [] (tS s) 0 0 := by
  unfold b_X7_greatestOfBoth_8 at h
  refine PW.iload 4 dX7_greatestOfBoth_8 rfl ?_
  refine PW.aload_n 0 0 dX7_greatestOfBoth_10 rfl rfl rfl ?_
  refine CW.geti dX7_greatestOfBoth_11 fL_X7_34 LA_154 (Or.inl rfl) ?_
  refine PW.icmp_ge (tgt := 74) dX7_greatestOfBoth_14 (by decide) (fun c1 => ?_) (fun c1 => ?_)
  · replace h := ifp h c1
    obtain ⟨xo, hy, hxo⟩ := oRb h
    clear h
    subst hxo
    replace hx := KLr hx
    have h := hy
    clear hy
    refine PW.lload_n 2 2 dX7_greatestOfBoth_74 rfl rfl ?_
    refine PW.lload 3 dX7_greatestOfBoth_75 rfl ?_
    refine PW.ladd dX7_greatestOfBoth_77 ?_
    cases h
    subst hx
    exact PW.lret dX7_greatestOfBoth_78 rfl (Nat.le_refl 0) (Nat.le_refl 0)
  · replace h := ifn h c1
    refine PW.aload_n 0 0 dX7_greatestOfBoth_17 rfl rfl rfl ?_
    refine PW.iload 4 dX7_greatestOfBoth_18 rfl ?_
    obtain ⟨r2, s3, q4, h⟩ := obnd h
    refine CW.callVl (ci := 7) (st := []) [.int x6] dX7_greatestOfBoth_20 (p_X7_oddsOf q4) MV_X7_oddsOf mL_X7_49 (by decide) rfl LA_154 rfl rfl (Nat.le_of_ble_eq_true rfl) (by first | decide | omega) ?_
    refine PW.lstore dX7_greatestOfBoth_23 (Nat.le_of_ble_eq_true rfl) rfl ?_
    refine PW.aload_n 1 0 dX7_greatestOfBoth_25 rfl rfl rfl ?_
    refine CW.getr dX7_greatestOfBoth_26 fL_X7_15 LA_154 (Or.inr ⟨_, rfl⟩) rfl ?_
    refine PW.iload_n 2 1 dX7_greatestOfBoth_29 rfl rfl ?_
    refine PW.bipush (v := 6) dX7_greatestOfBoth_30 (by decide) ?_
    refine PW.imul dX7_greatestOfBoth_32 ?_
    refine PW.iload 5 dX7_greatestOfBoth_33 rfl ?_
    refine PW.iadd dX7_greatestOfBoth_35 ?_
    refine CW.callSNi (st := []) [.ref 156, .int ((x1 * (6 : Int32)) + x6)] dX7_greatestOfBoth_36 (ps_at LA_156 rfl) MS_X11_at mN_X7_45 rfl rfl (Nat.le_of_ble_eq_true rfl) (by first | decide | omega) ?_
    refine PW.istore dX7_greatestOfBoth_39 (Nat.le_of_ble_eq_true rfl) rfl ?_
    refine PW.lload_n 4 2 dX7_greatestOfBoth_41 rfl rfl ?_
    refine PW.lload 1 dX7_greatestOfBoth_42 rfl ?_
    refine PW.iload 0 dX7_greatestOfBoth_44 rfl ?_
    refine PW.i2l dX7_greatestOfBoth_46 ?_
    refine PW.lmul dX7_greatestOfBoth_47 ?_
    refine CW.mmaxl dX7_greatestOfBoth_48 mL_X7_58 (Nat.le_of_ble_eq_true rfl) (by decide) ?_
    refine PW.lstore_n dX7_greatestOfBoth_51 rfl (Nat.le_of_ble_eq_true rfl) rfl ?_
    refine PW.lload 5 dX7_greatestOfBoth_52 rfl ?_
    refine PW.lload 2 dX7_greatestOfBoth_54 rfl ?_
    refine PW.bipush (v := 10) dX7_greatestOfBoth_56 (by decide) ?_
    refine PW.iload 1 dX7_greatestOfBoth_58 rfl ?_
    refine PW.isub dX7_greatestOfBoth_60 ?_
    refine PW.i2l dX7_greatestOfBoth_61 ?_
    refine PW.lmul dX7_greatestOfBoth_62 ?_
    refine CW.mmaxl dX7_greatestOfBoth_63 mL_X7_58 (Nat.le_of_ble_eq_true rfl) (by decide) ?_
    refine PW.lstore dX7_greatestOfBoth_66 (Nat.le_of_ble_eq_true rfl) rfl ?_
    refine PW.iinc (v := (x6 + (1 : Int32))) 6 dX7_greatestOfBoth_68 rfl (by first | rfl | decide) (Nat.le_of_ble_eq_true rfl) rfl ?_
    refine PW.goto (tgt := 8) dX7_greatestOfBoth_71 (by decide) ?_
    cases h
    exact PW.pick [5, 6, 2, 1, 0] rfl hx
def w_X7_greatestOfBoth_8 (N : Nat) (x1 : Int32) (x2 : Int64) (x4 : Int64) (x6 : Int32) (s : cS) : Option (Int64 × cS) := itr (fun (v : (Int64 × Int64 × Int32) × cS) => b_X7_greatestOfBoth_8 N x1 v.1.1 v.1.2.1 v.1.2.2 v.2) N ((x2, x4, x6), s)
theorem ok_w_X7_greatestOfBoth_8 {g : pG} {l : Launch} {F : pF} {N : Nat} {x1 : Int32} {x2 : Int64} {x4 : Int64} {x6 : Int32} {s : cS} {x : (Int64 × cS)} (h : w_X7_greatestOfBoth_8 N x1 x2 x4 x6 s = some x) (hx : (fun q => F = pE g (some (.long q.1)) (tS q.2) 0 0) x) : PW g l (pRoom 3 0 0) M_X7_greatestOfBoth F 8 [(0, .ref 154), (1, .int x1), (2, .long x2), (4, .long x4), (6, .int x6)] [] (tS s) 0 0 :=
  okIter (P := (fun (v : (Int64 × Int64 × Int32) × cS) => PW g l (pRoom 3 0 0) M_X7_greatestOfBoth F 8 [(0, .ref 154), (1, .int x1), (2, .long v.1.1), (4, .long v.1.2.1), (6, .int v.1.2.2)] [] (tS v.2) 0 0)) (K := (fun q => F = pE g (some (.long q.1)) (tS q.2) 0 0)) (fun v y hB hy => ok_b_X7_greatestOfBoth_8 hB hy) N ((x2, x4, x6), s) x h hx
def f_X7_greatestOfBoth (N : Nat) (a0 : Int32) (s : cS) : Option (Int64 × cS) :=
  w_X7_greatestOfBoth_8 N a0 (0 : Int64) (0 : Int64) (0 : Int32) s
set_option maxRecDepth 20000 in
set_option maxHeartbeats 4000000 in
theorem p_X7_greatestOfBoth {g : pG} {l : Launch} {N : Nat} {a0 : Int32} {s : cS} {q : Int64 × cS} (h : f_X7_greatestOfBoth N a0 s = some q) : PM g l 3 M_X7_greatestOfBoth [.ref 154, .int a0] (tS s) (some (.long q.1)) (tS q.2) 0 0 := by
  refine PM.of (by decide +kernel) (Nat.le_of_ble_eq_true rfl) ?_
  show PW g l (pRoom 3 0 0) M_X7_greatestOfBoth _ 0 [(0, .ref 154), (1, .int a0)] [] (tS s) 0 0
  unfold f_X7_greatestOfBoth at h
  generalize hF : pE g (some (.long q.1)) (tS q.2) 0 0 = F
  have hx := hF.symm
  refine PW.lconst (v := 0) dX7_greatestOfBoth_0 (by decide) ?_
  refine PW.lstore_n dX7_greatestOfBoth_1 rfl (Nat.le_of_ble_eq_true rfl) rfl ?_
  refine PW.lconst (v := 0) dX7_greatestOfBoth_2 (by decide) ?_
  refine PW.lstore dX7_greatestOfBoth_3 (Nat.le_of_ble_eq_true rfl) rfl ?_
  refine PW.iconst (v := 0) dX7_greatestOfBoth_5 (by decide) ?_
  refine PW.istore dX7_greatestOfBoth_6 (Nat.le_of_ble_eq_true rfl) rfl ?_
  exact PW.pick [3, 4, 2, 1, 0] rfl (ok_w_X7_greatestOfBoth_8 h hx)
/-! X7_mostMoving -/
def j_X7_mostMoving_65 (x1 : Int32) (x2 : Int64) (x4 : Int32) (s : cS) : Option (((Int32 × Int64 × Int32) × cS) ⊕ (Int32 × cS)) :=
  some (.inl ((x1, x2, (x4 + (1 : Int32))), s))
set_option maxRecDepth 20000 in
set_option maxHeartbeats 4000000 in
theorem ok_j_X7_mostMoving_65 {g : pG} {l : Launch} {F : pF} {x1 : Int32} {x2 : Int64} {x4 : Int32} {s : cS} {x : (((Int32 × Int64 × Int32) × cS) ⊕ (Int32 × cS))} (h : j_X7_mostMoving_65 x1 x2 x4 s = some x) (hx : (KL (fun (v : (Int32 × Int64 × Int32) × cS) => PW g l (pRoom 4 0 0) M_X7_mostMoving F 9 [(0, .ref 154), (1, .int v.1.1), (2, .long v.1.2.1), (4, .int v.1.2.2)] [] (tS v.2) 0 0) (fun q => F = pE g (some (.int q.1)) (tS q.2) 0 0)) x) : PW g l (pRoom 4 0 0) M_X7_mostMoving F 65 [(0, .ref 154), (1, .int x1), (2, .long x2), (4, .int x4)] [] (tS s) 0 0 := by
  unfold j_X7_mostMoving_65 at h
  refine PW.iinc (v := (x4 + (1 : Int32))) 3 dX7_mostMoving_65 rfl (by first | rfl | decide) (Nat.le_of_ble_eq_true rfl) rfl ?_
  refine PW.goto (tgt := 9) dX7_mostMoving_68 (by decide) ?_
  cases h
  exact PW.pick [1, 2, 3, 0] rfl hx
def j_X7_mostMoving_50 (x1 : Int32) (x2 : Int64) (x4 : Int32) (y0 : Int64) (s : cS) : Option (((Int32 × Int64 × Int32) × cS) ⊕ (Int32 × cS)) :=
  if (lg_cmp y0 x2) ≤ 0 then
    j_X7_mostMoving_65 x1 x2 x4 s
  else
    j_X7_mostMoving_65 x4 y0 x4 s
set_option maxRecDepth 20000 in
set_option maxHeartbeats 4000000 in
theorem ok_j_X7_mostMoving_50 {g : pG} {l : Launch} {F : pF} {x1 : Int32} {x2 : Int64} {x4 : Int32} {y0 : Int64} {s : cS} {x : (((Int32 × Int64 × Int32) × cS) ⊕ (Int32 × cS))} (h : j_X7_mostMoving_50 x1 x2 x4 y0 s = some x) (hx : (KL (fun (v : (Int32 × Int64 × Int32) × cS) => PW g l (pRoom 4 0 0) M_X7_mostMoving F 9 [(0, .ref 154), (1, .int v.1.1), (2, .long v.1.2.1), (4, .int v.1.2.2)] [] (tS v.2) 0 0) (fun q => F = pE g (some (.int q.1)) (tS q.2) 0 0)) x) : PW g l (pRoom 4 0 0) M_X7_mostMoving F 50 [(0, .ref 154), (1, .int x1), (2, .long x2), (4, .int x4)] [.long y0] (tS s) 0 0 := by
  unfold j_X7_mostMoving_50 at h
  refine PW.lstore dX7_mostMoving_50 (Nat.le_of_ble_eq_true rfl) rfl ?_
  refine PW.lload 0 dX7_mostMoving_52 rfl ?_
  refine PW.lload_n 3 2 dX7_mostMoving_54 rfl rfl ?_
  refine PW.lcmp dX7_mostMoving_55 ?_
  refine PW.if_le (tgt := 65) dX7_mostMoving_56 (by decide) (fun c5 => ?_) (fun c5 => ?_)
  · replace h := ifp h c5
    exact PW.pick [1, 2, 3, 4] rfl (ok_j_X7_mostMoving_65 h hx)
  · replace h := ifn h c5
    refine PW.lload 0 dX7_mostMoving_59 rfl ?_
    refine PW.lstore_n dX7_mostMoving_61 rfl (Nat.le_of_ble_eq_true rfl) rfl ?_
    refine PW.iload 4 dX7_mostMoving_62 rfl ?_
    refine PW.istore_n dX7_mostMoving_64 rfl (Nat.le_of_ble_eq_true rfl) rfl ?_
    exact PW.pick [3, 0, 1, 4] rfl (ok_j_X7_mostMoving_65 h hx)
def b_X7_mostMoving_9 (N : Nat) (x1 : Int32) (x2 : Int64) (x4 : Int32) (s : cS) : Option (((Int32 × Int64 × Int32) × cS) ⊕ (Int32 × cS)) :=
  if (iG s 154 8) ≤ x4 then
    oR (
      some ((x1, s)))
  else
    if (iG s 154 7) ≤ 0 then
      oR (
        some ((x1, s)))
    else
      if (aA s 157 10 x4) = (-1 : Int32) then
        ob (f_X7_greatestOfBoth N x4 s) fun r6 s7 =>
        j_X7_mostMoving_50 x1 x2 x4 r6 s7
      else
        j_X7_mostMoving_50 x1 x2 x4 (-1 : Int64) s
set_option maxRecDepth 20000 in
set_option maxHeartbeats 4000000 in
theorem ok_b_X7_mostMoving_9 {g : pG} {l : Launch} {F : pF} {N : Nat} {x1 : Int32} {x2 : Int64} {x4 : Int32} {s : cS} {x : (((Int32 × Int64 × Int32) × cS) ⊕ (Int32 × cS))} (h : b_X7_mostMoving_9 N x1 x2 x4 s = some x) (hx : (KL (fun (v : (Int32 × Int64 × Int32) × cS) => PW g l (pRoom 4 0 0) M_X7_mostMoving F 9 [(0, .ref 154), (1, .int v.1.1), (2, .long v.1.2.1), (4, .int v.1.2.2)] [] (tS v.2) 0 0) (fun q => F = pE g (some (.int q.1)) (tS q.2) 0 0)) x) : PW g l (pRoom 4 0 0) M_X7_mostMoving F 9 [(0, .ref 154), (1, .int x1), (2, .long x2), (4, .int x4)] [] (tS s) 0 0 := by
  unfold b_X7_mostMoving_9 at h
  refine PW.iload 3 dX7_mostMoving_9 rfl ?_
  refine PW.aload_n 0 0 dX7_mostMoving_11 rfl rfl rfl ?_
  refine CW.geti dX7_mostMoving_12 fL_X7_38 LA_154 (Or.inl rfl) ?_
  refine PW.icmp_ge (tgt := 71) dX7_mostMoving_15 (by decide) (fun c1 => ?_) (fun c1 => ?_)
  · replace h := ifp h c1
    obtain ⟨xo, hy, hxo⟩ := oRb h
    clear h
    subst hxo
    replace hx := KLr hx
    have h := hy
    clear hy
    refine PW.iload_n 1 1 dX7_mostMoving_71 rfl rfl ?_
    cases h
    subst hx
    exact PW.iret (v := x1) dX7_mostMoving_72 rfl rfl (Nat.le_refl 0) (Nat.le_refl 0)
  · replace h := ifn h c1
    refine PW.aload_n 0 0 dX7_mostMoving_18 rfl rfl rfl ?_
    refine CW.geti dX7_mostMoving_19 fL_X7_34 LA_154 (Or.inl rfl) ?_
    refine PW.if_le (tgt := 71) dX7_mostMoving_22 (by decide) (fun c2 => ?_) (fun c2 => ?_)
    · replace h := ifp h c2
      obtain ⟨xo, hy, hxo⟩ := oRb h
      clear h
      subst hxo
      replace hx := KLr hx
      have h := hy
      clear hy
      refine PW.iload_n 1 1 dX7_mostMoving_71 rfl rfl ?_
      cases h
      subst hx
      exact PW.iret (v := x1) dX7_mostMoving_72 rfl rfl (Nat.le_refl 0) (Nat.le_refl 0)
    · replace h := ifn h c2
      refine PW.aload_n 0 0 dX7_mostMoving_25 rfl rfl rfl ?_
      refine CW.getr dX7_mostMoving_26 fL_X7_18 LA_154 (Or.inr ⟨_, rfl⟩) rfl ?_
      refine PW.iload 3 dX7_mostMoving_29 rfl ?_
      refine CW.callSNi (st := []) [.ref 157, .int x4] dX7_mostMoving_31 (ps_at LA_157 rfl) MS_X11_at mN_X7_45 rfl rfl (Nat.le_of_ble_eq_true rfl) (by first | decide | omega) ?_
      refine PW.iconst (v := (-1)) dX7_mostMoving_34 (by decide) ?_
      refine PW.icmp_ne (tgt := 47) dX7_mostMoving_35 (by decide) (fun c4 => ?_) (fun c4 => ?_)
      · replace h := ifn h c4
        refine PW.ldc2_w dX7_mostMoving_47 kL_X7_53 ?_
        exact PW.pick [0, 1, 2, 3] rfl (ok_j_X7_mostMoving_50 h hx)
      · replace h := ifp h c4
        refine PW.aload_n 0 0 dX7_mostMoving_38 rfl rfl rfl ?_
        refine PW.iload 3 dX7_mostMoving_39 rfl ?_
        obtain ⟨r6, s7, q8, h⟩ := obnd h
        refine CW.callVl (ci := 7) (st := []) [.int x4] dX7_mostMoving_41 (p_X7_greatestOfBoth q8) MV_X7_greatestOfBoth mL_X7_55 (by decide) rfl LA_154 rfl rfl (Nat.le_of_ble_eq_true rfl) (by first | decide | omega) ?_
        refine PW.goto (tgt := 50) dX7_mostMoving_44 (by decide) ?_
        exact PW.pick [0, 1, 2, 3] rfl (ok_j_X7_mostMoving_50 h hx)
def w_X7_mostMoving_9 (N : Nat) (x1 : Int32) (x2 : Int64) (x4 : Int32) (s : cS) : Option (Int32 × cS) := itr (fun (v : (Int32 × Int64 × Int32) × cS) => b_X7_mostMoving_9 N v.1.1 v.1.2.1 v.1.2.2 v.2) N ((x1, x2, x4), s)
theorem ok_w_X7_mostMoving_9 {g : pG} {l : Launch} {F : pF} {N : Nat} {x1 : Int32} {x2 : Int64} {x4 : Int32} {s : cS} {x : (Int32 × cS)} (h : w_X7_mostMoving_9 N x1 x2 x4 s = some x) (hx : (fun q => F = pE g (some (.int q.1)) (tS q.2) 0 0) x) : PW g l (pRoom 4 0 0) M_X7_mostMoving F 9 [(0, .ref 154), (1, .int x1), (2, .long x2), (4, .int x4)] [] (tS s) 0 0 :=
  okIter (P := (fun (v : (Int32 × Int64 × Int32) × cS) => PW g l (pRoom 4 0 0) M_X7_mostMoving F 9 [(0, .ref 154), (1, .int v.1.1), (2, .long v.1.2.1), (4, .int v.1.2.2)] [] (tS v.2) 0 0)) (K := (fun q => F = pE g (some (.int q.1)) (tS q.2) 0 0)) (fun v y hB hy => ok_b_X7_mostMoving_9 hB hy) N ((x1, x2, x4), s) x h hx
def f_X7_mostMoving (N : Nat) (s : cS) : Option (Int32 × cS) :=
  w_X7_mostMoving_9 N (-1 : Int32) (-1 : Int64) (0 : Int32) s
set_option maxRecDepth 20000 in
set_option maxHeartbeats 4000000 in
theorem p_X7_mostMoving {g : pG} {l : Launch} {N : Nat} {s : cS} {q : Int32 × cS} (h : f_X7_mostMoving N s = some q) : PM g l 4 M_X7_mostMoving [.ref 154] (tS s) (some (.int q.1)) (tS q.2) 0 0 := by
  refine PM.of (by decide +kernel) (Nat.le_of_ble_eq_true rfl) ?_
  show PW g l (pRoom 4 0 0) M_X7_mostMoving _ 0 [(0, .ref 154)] [] (tS s) 0 0
  unfold f_X7_mostMoving at h
  generalize hF : pE g (some (.int q.1)) (tS q.2) 0 0 = F
  have hx := hF.symm
  refine PW.iconst (v := (-1)) dX7_mostMoving_0 (by decide) ?_
  refine PW.istore_n dX7_mostMoving_1 rfl (Nat.le_of_ble_eq_true rfl) rfl ?_
  refine PW.ldc2_w dX7_mostMoving_2 kL_X7_53 ?_
  refine PW.lstore_n dX7_mostMoving_5 rfl (Nat.le_of_ble_eq_true rfl) rfl ?_
  refine PW.iconst (v := 0) dX7_mostMoving_6 (by decide) ?_
  refine PW.istore dX7_mostMoving_7 (Nat.le_of_ble_eq_true rfl) rfl ?_
  exact PW.pick [3, 2, 1, 0] rfl (ok_w_X7_mostMoving_9 h hx)
/-! X7_bestOf -/
def f_X7_bestOf (a0 : Int32) (a1 : Int32) (s : cS) : Int64 :=
  (lA s 160 205 ((a0 * (41 : Int32)) + a1))
set_option maxRecDepth 20000 in
set_option maxHeartbeats 4000000 in
theorem p_X7_bestOf {g : pG} {l : Launch} {a0 : Int32} {a1 : Int32} {s : cS} {q : Int64} (h : f_X7_bestOf a0 a1 s = q) : PM g l 2 M_X7_bestOf [.ref 154, .int a0, .int a1] (tS s) (some (.long q)) (tS s) 0 0 := by
  refine PM.of (by decide +kernel) (Nat.le_of_ble_eq_true rfl) ?_
  show PW g l (pRoom 2 0 0) M_X7_bestOf _ 0 [(0, .ref 154), (1, .int a0), (2, .int a1)] [] (tS s) 0 0
  unfold f_X7_bestOf at h
  generalize hF : pE g (some (.long q)) (tS s) 0 0 = F
  have hx := hF.symm
  refine PW.aload_n 0 0 dX7_bestOf_0 rfl rfl rfl ?_
  refine CW.getr dX7_bestOf_1 fL_X7_28 LA_154 (Or.inr ⟨_, rfl⟩) rfl ?_
  refine PW.iload_n 1 1 dX7_bestOf_4 rfl rfl ?_
  refine PW.bipush (v := 41) dX7_bestOf_5 (by decide) ?_
  refine PW.imul dX7_bestOf_7 ?_
  refine PW.iload_n 2 2 dX7_bestOf_8 rfl rfl ?_
  refine PW.iadd dX7_bestOf_9 ?_
  refine CW.callSNl (st := []) [.ref 160, .int ((a0 * (41 : Int32)) + a1)] dX7_bestOf_10 (ps_longAt LA_160 rfl) MS_X11_longAt mN_X7_79 rfl rfl (Nat.le_of_ble_eq_true rfl) (by first | decide | omega) ?_
  cases h
  subst hx
  exact PW.lret dX7_bestOf_13 rfl (Nat.le_refl 0) (Nat.le_refl 0)
/-! X7_setBest -/
def f_X7_setBest (a0 : Int32) (a1 : Int32) (a2 : Int64) (s : cS) : (Unit × cS) :=
  sb (plA s 160 205 ((a0 * (41 : Int32)) + a1) a2) fun s2 =>
  ((), s2)
set_option maxRecDepth 20000 in
set_option maxHeartbeats 4000000 in
theorem p_X7_setBest {g : pG} {l : Launch} {a0 : Int32} {a1 : Int32} {a2 : Int64} {s : cS} {q : Unit × cS} (h : f_X7_setBest a0 a1 a2 s = q) : PM g l 2 M_X7_setBest [.ref 154, .int a0, .int a1, .long a2] (tS s) none (tS q.2) 0 0 := by
  refine PM.of (by decide +kernel) (Nat.le_of_ble_eq_true rfl) ?_
  show PW g l (pRoom 2 0 0) M_X7_setBest _ 0 [(0, .ref 154), (1, .int a0), (2, .int a1), (3, .long a2)] [] (tS s) 0 0
  unfold f_X7_setBest at h
  generalize hF : pE g none (tS q.2) 0 0 = F
  have hx := hF.symm
  refine PW.aload_n 0 0 dX7_setBest_0 rfl rfl rfl ?_
  refine CW.getr dX7_setBest_1 fL_X7_28 LA_154 (Or.inr ⟨_, rfl⟩) rfl ?_
  refine PW.iload_n 1 1 dX7_setBest_4 rfl rfl ?_
  refine PW.bipush (v := 41) dX7_setBest_5 (by decide) ?_
  refine PW.imul dX7_setBest_7 ?_
  refine PW.iload_n 2 2 dX7_setBest_8 rfl rfl ?_
  refine PW.iadd dX7_setBest_9 ?_
  refine PW.lload_n 3 3 dX7_setBest_10 rfl rfl ?_
  obtain ⟨s2, q3, h⟩ := sbnd h
  refine CW.callSNv (st := []) [.ref 160, .int ((a0 * (41 : Int32)) + a1), .long a2] dX7_setBest_11 (ps_putLong LA_160 q3) MS_X11_putLong mN_X7_86 rfl rfl (Nat.le_of_ble_eq_true rfl) (by first | decide | omega) ?_
  cases h
  subst hx
  exact PW.vret dX7_setBest_14 rfl (Nat.le_refl 0) (Nat.le_refl 0)
/-! X7_worthFrom -/
def f_X7_worthFrom (a0 : Int32) (a1 : Int32) (a2 : Int32) (s : cS) : Int64 :=
  if (40 : Int32) < (a1 + a2) then
    (-1 : Int64)
  else
    if 0 ≤ (lg_cmp (f_X7_bestOf (a0 - (1 : Int32)) (a1 + a2) s) (0 : Int64)) then
      (((lA s 159 41 (a1 + a2)) - (lA s 159 41 a1)) + (f_X7_bestOf (a0 - (1 : Int32)) (a1 + a2) s))
    else
      (-1 : Int64)
set_option maxRecDepth 20000 in
set_option maxHeartbeats 4000000 in
theorem p_X7_worthFrom {g : pG} {l : Launch} {a0 : Int32} {a1 : Int32} {a2 : Int32} {s : cS} {q : Int64} (h : f_X7_worthFrom a0 a1 a2 s = q) : PM g l 3 M_X7_worthFrom [.ref 154, .int a0, .int a1, .int a2] (tS s) (some (.long q)) (tS s) 0 0 := by
  refine PM.of (by decide +kernel) (Nat.le_of_ble_eq_true rfl) ?_
  show PW g l (pRoom 3 0 0) M_X7_worthFrom _ 0 [(0, .ref 154), (1, .int a0), (2, .int a1), (3, .int a2)] [] (tS s) 0 0
  unfold f_X7_worthFrom at h
  generalize hF : pE g (some (.long q)) (tS s) 0 0 = F
  have hx := hF.symm
  refine PW.iload_n 2 2 dX7_worthFrom_0 rfl rfl ?_
  refine PW.iload_n 3 3 dX7_worthFrom_1 rfl rfl ?_
  refine PW.iadd dX7_worthFrom_2 ?_
  refine PW.bipush (v := 40) dX7_worthFrom_3 (by decide) ?_
  refine PW.icmp_gt (tgt := 23) dX7_worthFrom_5 (by decide) (fun c1 => ?_) (fun c1 => ?_)
  · replace h := ifp h c1
    refine PW.ldc2_w dX7_worthFrom_23 kL_X7_53 ?_
    cases h
    subst hx
    exact PW.lret dX7_worthFrom_26 rfl (Nat.le_refl 0) (Nat.le_refl 0)
  · replace h := ifn h c1
    refine PW.aload_n 0 0 dX7_worthFrom_8 rfl rfl rfl ?_
    refine PW.iload_n 1 1 dX7_worthFrom_9 rfl rfl ?_
    refine PW.iconst (v := 1) dX7_worthFrom_10 (by decide) ?_
    refine PW.isub dX7_worthFrom_11 ?_
    refine PW.iload_n 2 2 dX7_worthFrom_12 rfl rfl ?_
    refine PW.iload_n 3 3 dX7_worthFrom_13 rfl rfl ?_
    refine PW.iadd dX7_worthFrom_14 ?_
    refine CW.callVl (ci := 7) (st := []) [.int (a0 - (1 : Int32)), .int (a1 + a2)] dX7_worthFrom_15 (p_X7_bestOf rfl) MV_X7_bestOf mL_X7_71 (by decide) rfl LA_154 rfl rfl (Nat.le_of_ble_eq_true rfl) (by first | decide | omega) ?_
    refine PW.lconst (v := 0) dX7_worthFrom_18 (by decide) ?_
    refine PW.lcmp dX7_worthFrom_19 ?_
    refine PW.if_ge (tgt := 27) dX7_worthFrom_20 (by decide) (fun c3 => ?_) (fun c3 => ?_)
    · replace h := ifp h c3
      refine PW.aload_n 0 0 dX7_worthFrom_27 rfl rfl rfl ?_
      refine CW.getr dX7_worthFrom_28 fL_X7_24 LA_154 (Or.inr ⟨_, rfl⟩) rfl ?_
      refine PW.iload_n 2 2 dX7_worthFrom_31 rfl rfl ?_
      refine PW.iload_n 3 3 dX7_worthFrom_32 rfl rfl ?_
      refine PW.iadd dX7_worthFrom_33 ?_
      refine CW.callSNl (st := []) [.ref 159, .int (a1 + a2)] dX7_worthFrom_34 (ps_longAt LA_159 rfl) MS_X11_longAt mN_X7_79 rfl rfl (Nat.le_of_ble_eq_true rfl) (by first | decide | omega) ?_
      refine PW.aload_n 0 0 dX7_worthFrom_37 rfl rfl rfl ?_
      refine CW.getr dX7_worthFrom_38 fL_X7_24 LA_154 (Or.inr ⟨_, rfl⟩) rfl ?_
      refine PW.iload_n 2 2 dX7_worthFrom_41 rfl rfl ?_
      refine CW.callSNl (st := [.long (lA s 159 41 (a1 + a2))]) [.ref 159, .int a1] dX7_worthFrom_42 (ps_longAt LA_159 rfl) MS_X11_longAt mN_X7_79 rfl rfl (Nat.le_of_ble_eq_true rfl) (by first | decide | omega) ?_
      refine PW.lsub dX7_worthFrom_45 ?_
      refine PW.aload_n 0 0 dX7_worthFrom_46 rfl rfl rfl ?_
      refine PW.iload_n 1 1 dX7_worthFrom_47 rfl rfl ?_
      refine PW.iconst (v := 1) dX7_worthFrom_48 (by decide) ?_
      refine PW.isub dX7_worthFrom_49 ?_
      refine PW.iload_n 2 2 dX7_worthFrom_50 rfl rfl ?_
      refine PW.iload_n 3 3 dX7_worthFrom_51 rfl rfl ?_
      refine PW.iadd dX7_worthFrom_52 ?_
      refine CW.callVl (ci := 7) (st := [.long ((lA s 159 41 (a1 + a2)) - (lA s 159 41 a1))]) [.int (a0 - (1 : Int32)), .int (a1 + a2)] dX7_worthFrom_53 (p_X7_bestOf rfl) MV_X7_bestOf mL_X7_71 (by decide) rfl LA_154 rfl rfl (Nat.le_of_ble_eq_true rfl) (by first | decide | omega) ?_
      refine PW.ladd dX7_worthFrom_56 ?_
      cases h
      subst hx
      exact PW.lret dX7_worthFrom_57 rfl (Nat.le_refl 0) (Nat.le_refl 0)
    · replace h := ifn h c3
      refine PW.ldc2_w dX7_worthFrom_23 kL_X7_53 ?_
      cases h
      subst hx
      exact PW.lret dX7_worthFrom_26 rfl (Nat.le_refl 0) (Nat.le_refl 0)
/-! X7_worthOf -/
def j_X7_worthOf_50 (x1 : Int32) (x4 : Int32) (y0 : Int64) (y1 : Int64) (s : cS) : Option (((Int64 × Int32) × cS) ⊕ (Int64 × cS)) :=
  some (.inl (((y0 + y1), (x4 + (1 : Int32))), s))
set_option maxRecDepth 20000 in
set_option maxHeartbeats 4000000 in
theorem ok_j_X7_worthOf_50 {g : pG} {l : Launch} {F : pF} {x1 : Int32} {x4 : Int32} {y0 : Int64} {y1 : Int64} {s : cS} {x : (((Int64 × Int32) × cS) ⊕ (Int64 × cS))} (h : j_X7_worthOf_50 x1 x4 y0 y1 s = some x) (hx : (KL (fun (v : (Int64 × Int32) × cS) => PW g l (pRoom 3 0 0) M_X7_worthOf F 5 [(0, .ref 154), (1, .int x1), (2, .long v.1.1), (4, .int v.1.2)] [] (tS v.2) 0 0) (fun q => F = pE g (some (.long q.1)) (tS q.2) 0 0)) x) : PW g l (pRoom 3 0 0) M_X7_worthOf F 50 [(0, .ref 154), (1, .int x1), (4, .int x4)] [.long y1, .long y0] (tS s) 0 0 := by
  unfold j_X7_worthOf_50 at h
  refine PW.ladd dX7_worthOf_50 ?_
  refine PW.lstore_n dX7_worthOf_51 rfl (Nat.le_of_ble_eq_true rfl) rfl ?_
  refine PW.iinc (v := (x4 + (1 : Int32))) 3 dX7_worthOf_52 rfl (by first | rfl | decide) (Nat.le_of_ble_eq_true rfl) rfl ?_
  refine PW.goto (tgt := 5) dX7_worthOf_55 (by decide) ?_
  cases h
  exact PW.pick [2, 3, 1, 0] rfl hx
def b_X7_worthOf_5 (N : Nat) (x1 : Int32) (x2 : Int64) (x4 : Int32) (s : cS) : Option (((Int64 × Int32) × cS) ⊕ (Int64 × cS)) :=
  if (iG s 154 7) ≤ x4 then
    oR (
      some ((x2, s)))
  else
    if (aA s 158 240 ((x4 * (40 : Int32)) + x1)) = 0 then
      j_X7_worthOf_50 x1 x4 x2 (0 : Int64) s
    else
      ob (f_X7_oddsOf N x4 s) fun r4 s5 =>
      j_X7_worthOf_50 x1 x4 x2 ((aA s 158 240 ((x4 * (40 : Int32)) + x1)).toInt64 * r4) s5
set_option maxRecDepth 20000 in
set_option maxHeartbeats 4000000 in
theorem ok_b_X7_worthOf_5 {g : pG} {l : Launch} {F : pF} {N : Nat} {x1 : Int32} {x2 : Int64} {x4 : Int32} {s : cS} {x : (((Int64 × Int32) × cS) ⊕ (Int64 × cS))} (h : b_X7_worthOf_5 N x1 x2 x4 s = some x) (hx : (KL (fun (v : (Int64 × Int32) × cS) => PW g l (pRoom 3 0 0) M_X7_worthOf F 5 [(0, .ref 154), (1, .int x1), (2, .long v.1.1), (4, .int v.1.2)] [] (tS v.2) 0 0) (fun q => F = pE g (some (.long q.1)) (tS q.2) 0 0)) x) : PW g l (pRoom 3 0 0) M_X7_worthOf F 5 [(0, .ref 154), (1, .int x1), (2, .long x2), (4, .int x4)] [] (tS s) 0 0 := by
  unfold b_X7_worthOf_5 at h
  refine PW.iload 3 dX7_worthOf_5 rfl ?_
  refine PW.aload_n 0 0 dX7_worthOf_7 rfl rfl rfl ?_
  refine CW.geti dX7_worthOf_8 fL_X7_34 LA_154 (Or.inl rfl) ?_
  refine PW.icmp_ge (tgt := 58) dX7_worthOf_11 (by decide) (fun c1 => ?_) (fun c1 => ?_)
  · replace h := ifp h c1
    obtain ⟨xo, hy, hxo⟩ := oRb h
    clear h
    subst hxo
    replace hx := KLr hx
    have h := hy
    clear hy
    refine PW.lload_n 2 2 dX7_worthOf_58 rfl rfl ?_
    cases h
    subst hx
    exact PW.lret dX7_worthOf_59 rfl (Nat.le_refl 0) (Nat.le_refl 0)
  · replace h := ifn h c1
    refine PW.aload_n 0 0 dX7_worthOf_14 rfl rfl rfl ?_
    refine CW.getr dX7_worthOf_15 fL_X7_21 LA_154 (Or.inr ⟨_, rfl⟩) rfl ?_
    refine PW.iload 3 dX7_worthOf_18 rfl ?_
    refine PW.bipush (v := 40) dX7_worthOf_20 (by decide) ?_
    refine PW.imul dX7_worthOf_22 ?_
    refine PW.iload_n 1 1 dX7_worthOf_23 rfl rfl ?_
    refine PW.iadd dX7_worthOf_24 ?_
    refine CW.callSNi (st := []) [.ref 158, .int ((x4 * (40 : Int32)) + x1)] dX7_worthOf_25 (ps_at LA_158 rfl) MS_X11_at mN_X7_45 rfl rfl (Nat.le_of_ble_eq_true rfl) (by first | decide | omega) ?_
    refine PW.istore dX7_worthOf_28 (Nat.le_of_ble_eq_true rfl) rfl ?_
    refine PW.lload_n 3 2 dX7_worthOf_30 rfl rfl ?_
    refine PW.iload 0 dX7_worthOf_31 rfl ?_
    refine PW.if_ne (tgt := 40) dX7_worthOf_33 (by decide) (fun c3 => ?_) (fun c3 => ?_)
    · replace h := ifn h c3
      refine PW.iload 0 dX7_worthOf_40 rfl ?_
      refine PW.i2l dX7_worthOf_42 ?_
      refine PW.aload_n 1 0 dX7_worthOf_43 rfl rfl rfl ?_
      refine PW.iload 4 dX7_worthOf_44 rfl ?_
      obtain ⟨r4, s5, q6, h⟩ := obnd h
      refine CW.callVl (ci := 7) (st := [.long (aA s 158 240 ((x4 * (40 : Int32)) + x1)).toInt64, .long x2]) [.int x4] dX7_worthOf_46 (p_X7_oddsOf q6) MV_X7_oddsOf mL_X7_49 (by decide) rfl LA_154 rfl rfl (Nat.le_of_ble_eq_true rfl) (by first | decide | omega) ?_
      refine PW.lmul dX7_worthOf_49 ?_
      exact PW.pick [1, 2, 4] rfl (ok_j_X7_worthOf_50 h hx)
    · replace h := ifp h c3
      refine PW.lconst (v := 0) dX7_worthOf_36 (by decide) ?_
      refine PW.goto (tgt := 50) dX7_worthOf_37 (by decide) ?_
      exact PW.pick [1, 2, 4] rfl (ok_j_X7_worthOf_50 h hx)
def w_X7_worthOf_5 (N : Nat) (x1 : Int32) (x2 : Int64) (x4 : Int32) (s : cS) : Option (Int64 × cS) := itr (fun (v : (Int64 × Int32) × cS) => b_X7_worthOf_5 N x1 v.1.1 v.1.2 v.2) N ((x2, x4), s)
theorem ok_w_X7_worthOf_5 {g : pG} {l : Launch} {F : pF} {N : Nat} {x1 : Int32} {x2 : Int64} {x4 : Int32} {s : cS} {x : (Int64 × cS)} (h : w_X7_worthOf_5 N x1 x2 x4 s = some x) (hx : (fun q => F = pE g (some (.long q.1)) (tS q.2) 0 0) x) : PW g l (pRoom 3 0 0) M_X7_worthOf F 5 [(0, .ref 154), (1, .int x1), (2, .long x2), (4, .int x4)] [] (tS s) 0 0 :=
  okIter (P := (fun (v : (Int64 × Int32) × cS) => PW g l (pRoom 3 0 0) M_X7_worthOf F 5 [(0, .ref 154), (1, .int x1), (2, .long v.1.1), (4, .int v.1.2)] [] (tS v.2) 0 0)) (K := (fun q => F = pE g (some (.long q.1)) (tS q.2) 0 0)) (fun v y hB hy => ok_b_X7_worthOf_5 hB hy) N ((x2, x4), s) x h hx
def f_X7_worthOf (N : Nat) (a0 : Int32) (s : cS) : Option (Int64 × cS) :=
  w_X7_worthOf_5 N a0 (0 : Int64) (0 : Int32) s
set_option maxRecDepth 20000 in
set_option maxHeartbeats 4000000 in
theorem p_X7_worthOf {g : pG} {l : Launch} {N : Nat} {a0 : Int32} {s : cS} {q : Int64 × cS} (h : f_X7_worthOf N a0 s = some q) : PM g l 3 M_X7_worthOf [.ref 154, .int a0] (tS s) (some (.long q.1)) (tS q.2) 0 0 := by
  refine PM.of (by decide +kernel) (Nat.le_of_ble_eq_true rfl) ?_
  show PW g l (pRoom 3 0 0) M_X7_worthOf _ 0 [(0, .ref 154), (1, .int a0)] [] (tS s) 0 0
  unfold f_X7_worthOf at h
  generalize hF : pE g (some (.long q.1)) (tS q.2) 0 0 = F
  have hx := hF.symm
  refine PW.lconst (v := 0) dX7_worthOf_0 (by decide) ?_
  refine PW.lstore_n dX7_worthOf_1 rfl (Nat.le_of_ble_eq_true rfl) rfl ?_
  refine PW.iconst (v := 0) dX7_worthOf_2 (by decide) ?_
  refine PW.istore dX7_worthOf_3 (Nat.le_of_ble_eq_true rfl) rfl ?_
  exact PW.pick [2, 3, 1, 0] rfl (ok_w_X7_worthOf_5 h hx)
/-! X7_sumWorths -/
def b_X7_sumWorths_2 (N : Nat) (x1 : Int32) (s : cS) : Option ((Int32 × cS) ⊕ (Unit × cS)) :=
  if (40 : Int32) ≤ x1 then
    oR (
      some (((), s)))
  else
    ob (f_X7_worthOf N x1 s) fun r3 s4 =>
    sb (plA s4 159 41 (x1 + (1 : Int32)) ((lA s 159 41 x1) + r3)) fun s7 =>
    some (.inl ((x1 + (1 : Int32)), s7))
set_option maxRecDepth 20000 in
set_option maxHeartbeats 4000000 in
theorem ok_b_X7_sumWorths_2 {g : pG} {l : Launch} {F : pF} {N : Nat} {x1 : Int32} {s : cS} {x : ((Int32 × cS) ⊕ (Unit × cS))} (h : b_X7_sumWorths_2 N x1 s = some x) (hx : (KL (fun (v : Int32 × cS) => PW g l (pRoom 4 0 0) M_X7_sumWorths F 2 [(0, .ref 154), (1, .int v.1)] [] (tS v.2) 0 0) (fun q => F = pE g none (tS q.2) 0 0)) x) : PW g l (pRoom 4 0 0) M_X7_sumWorths F 2 [(0, .ref 154), (1, .int x1)] [] (tS s) 0 0 := by
  unfold b_X7_sumWorths_2 at h
  refine PW.iload_n 1 1 dX7_sumWorths_2 rfl rfl ?_
  refine PW.bipush (v := 40) dX7_sumWorths_3 (by decide) ?_
  refine PW.icmp_ge (tgt := 38) dX7_sumWorths_5 (by decide) (fun c1 => ?_) (fun c1 => ?_)
  · replace h := ifp h c1
    obtain ⟨xo, hy, hxo⟩ := oRb h
    clear h
    subst hxo
    replace hx := KLr hx
    have h := hy
    clear hy
    cases h
    subst hx
    exact PW.vret dX7_sumWorths_38 rfl (Nat.le_refl 0) (Nat.le_refl 0)
  · replace h := ifn h c1
    refine PW.aload_n 0 0 dX7_sumWorths_8 rfl rfl rfl ?_
    refine CW.getr dX7_sumWorths_9 fL_X7_24 LA_154 (Or.inr ⟨_, rfl⟩) rfl ?_
    refine PW.iload_n 1 1 dX7_sumWorths_12 rfl rfl ?_
    refine PW.iconst (v := 1) dX7_sumWorths_13 (by decide) ?_
    refine PW.iadd dX7_sumWorths_14 ?_
    refine PW.aload_n 0 0 dX7_sumWorths_15 rfl rfl rfl ?_
    refine CW.getr dX7_sumWorths_16 fL_X7_24 LA_154 (Or.inr ⟨_, rfl⟩) rfl ?_
    refine PW.iload_n 1 1 dX7_sumWorths_19 rfl rfl ?_
    refine CW.callSNl (st := [.int (x1 + (1 : Int32)), .ref 159]) [.ref 159, .int x1] dX7_sumWorths_20 (ps_longAt LA_159 rfl) MS_X11_longAt mN_X7_79 rfl rfl (Nat.le_of_ble_eq_true rfl) (by first | decide | omega) ?_
    refine PW.aload_n 0 0 dX7_sumWorths_23 rfl rfl rfl ?_
    refine PW.iload_n 1 1 dX7_sumWorths_24 rfl rfl ?_
    obtain ⟨r3, s4, q5, h⟩ := obnd h
    refine CW.callVl (ci := 7) (st := [.long (lA s 159 41 x1), .int (x1 + (1 : Int32)), .ref 159]) [.int x1] dX7_sumWorths_25 (p_X7_worthOf q5) MV_X7_worthOf mL_X7_83 (by decide) rfl LA_154 rfl rfl (Nat.le_of_ble_eq_true rfl) (by first | decide | omega) ?_
    refine PW.ladd dX7_sumWorths_28 ?_
    obtain ⟨s7, q8, h⟩ := sbnd h
    refine CW.callSNv (st := []) [.ref 159, .int (x1 + (1 : Int32)), .long ((lA s 159 41 x1) + r3)] dX7_sumWorths_29 (ps_putLong LA_159 q8) MS_X11_putLong mN_X7_86 rfl rfl (Nat.le_of_ble_eq_true rfl) (by first | decide | omega) ?_
    refine PW.iinc (v := (x1 + (1 : Int32))) 1 dX7_sumWorths_32 rfl (by first | rfl | decide) (Nat.le_of_ble_eq_true rfl) rfl ?_
    refine PW.goto (tgt := 2) dX7_sumWorths_35 (by decide) ?_
    cases h
    exact PW.pick [1, 0] rfl hx
def w_X7_sumWorths_2 (N : Nat) (x1 : Int32) (s : cS) : Option (Unit × cS) := itr (fun (v : Int32 × cS) => b_X7_sumWorths_2 N v.1 v.2) N (x1, s)
theorem ok_w_X7_sumWorths_2 {g : pG} {l : Launch} {F : pF} {N : Nat} {x1 : Int32} {s : cS} {x : (Unit × cS)} (h : w_X7_sumWorths_2 N x1 s = some x) (hx : (fun q => F = pE g none (tS q.2) 0 0) x) : PW g l (pRoom 4 0 0) M_X7_sumWorths F 2 [(0, .ref 154), (1, .int x1)] [] (tS s) 0 0 :=
  okIter (P := (fun (v : Int32 × cS) => PW g l (pRoom 4 0 0) M_X7_sumWorths F 2 [(0, .ref 154), (1, .int v.1)] [] (tS v.2) 0 0)) (K := (fun q => F = pE g none (tS q.2) 0 0)) (fun v y hB hy => ok_b_X7_sumWorths_2 hB hy) N (x1, s) x h hx
def f_X7_sumWorths (N : Nat) (s : cS) : Option (Unit × cS) :=
  w_X7_sumWorths_2 N (0 : Int32) s
set_option maxRecDepth 20000 in
set_option maxHeartbeats 4000000 in
theorem p_X7_sumWorths {g : pG} {l : Launch} {N : Nat} {s : cS} {q : Unit × cS} (h : f_X7_sumWorths N s = some q) : PM g l 4 M_X7_sumWorths [.ref 154] (tS s) none (tS q.2) 0 0 := by
  refine PM.of (by decide +kernel) (Nat.le_of_ble_eq_true rfl) ?_
  show PW g l (pRoom 4 0 0) M_X7_sumWorths _ 0 [(0, .ref 154)] [] (tS s) 0 0
  unfold f_X7_sumWorths at h
  generalize hF : pE g none (tS q.2) 0 0 = F
  have hx := hF.symm
  refine PW.iconst (v := 0) dX7_sumWorths_0 (by decide) ?_
  refine PW.istore_n dX7_sumWorths_1 rfl (Nat.le_of_ble_eq_true rfl) rfl ?_
  exact PW.pick [1, 0] rfl (ok_w_X7_sumWorths_2 h hx)
/-! X7_castNets -/
def j_X7_castNets_133 (x1 : Int32) (x2 : Int32) (x4 : Int32) (x5 : Int32) (s : cS) : Option (((Int32 × Int32) × cS) ⊕ (Int64 × cS)) :=
  sb (pA s 161 4 x4 x5) fun s9 =>
  some (.inl (((x5 + x2), (x4 + (1 : Int32))), s9))
set_option maxRecDepth 20000 in
set_option maxHeartbeats 4000000 in
theorem ok_j_X7_castNets_133 {g : pG} {l : Launch} {F : pF} {x1 : Int32} {x2 : Int32} {x4 : Int32} {x5 : Int32} {s : cS} {x : (((Int32 × Int32) × cS) ⊕ (Int64 × cS))} (h : j_X7_castNets_133 x1 x2 x4 x5 s = some x) (hx : (KL (fun (v : (Int32 × Int32) × cS) => PW g l (pRoom 5 0 0) M_X7_castNets F 87 [(0, .ref 154), (1, .int x1), (2, .int x2), (3, .int v.1.1), (4, .int v.1.2)] [] (tS v.2) 0 0) (fun q => F = pE g (some (.long q.1)) (tS q.2) 0 0)) x) : PW g l (pRoom 5 0 0) M_X7_castNets F 133 [(0, .ref 154), (1, .int x1), (2, .int x2), (4, .int x4), (5, .int x5)] [] (tS s) 0 0 := by
  unfold j_X7_castNets_133 at h
  refine PW.aload_n 0 0 dX7_castNets_133 rfl rfl rfl ?_
  refine CW.getr dX7_castNets_134 fL_X7_31 LA_154 (Or.inr ⟨_, rfl⟩) rfl ?_
  refine PW.iload 3 dX7_castNets_137 rfl ?_
  refine PW.iload 4 dX7_castNets_139 rfl ?_
  obtain ⟨s9, q10, h⟩ := sbnd h
  refine CW.callSNv (st := []) [.ref 161, .int x4, .int x5] dX7_castNets_141 (ps_put LA_161 q10) MS_X11_put mN_X7_41 rfl rfl (Nat.le_of_ble_eq_true rfl) (by first | decide | omega) ?_
  refine PW.iload 4 dX7_castNets_144 rfl ?_
  refine PW.iload_n 2 2 dX7_castNets_146 rfl rfl ?_
  refine PW.iadd dX7_castNets_147 ?_
  refine PW.istore_n dX7_castNets_148 rfl (Nat.le_of_ble_eq_true rfl) rfl ?_
  refine PW.iinc (v := (x4 + (1 : Int32))) 4 dX7_castNets_149 rfl (by first | rfl | decide) (Nat.le_of_ble_eq_true rfl) rfl ?_
  refine PW.goto (tgt := 87) dX7_castNets_152 (by decide) ?_
  cases h
  exact PW.pick [2, 3, 4, 1, 0] rfl hx
def b_X7_castNets_96 (x1 : Int32) (x2 : Int32) (x3 : Int32) (x4 : Int32) (x5 : Int32) (s : cS) : Option ((Int32 × cS) ⊕ (((Int32 × Int32) × cS) ⊕ (Int64 × cS))) :=
  if (40 : Int32) ≤ x5 then
    oR (
      j_X7_castNets_133 x1 x2 x4 x5 s)
  else
    if (lg_cmp (f_X7_worthFrom (x1 - x4) x5 x2 s) (f_X7_bestOf (x1 - x4) x3 s)) = 0 then
      oR (
        j_X7_castNets_133 x1 x2 x4 x5 s)
    else
      some (.inl ((x5 + (1 : Int32)), s))
set_option maxRecDepth 20000 in
set_option maxHeartbeats 4000000 in
theorem ok_b_X7_castNets_96 {g : pG} {l : Launch} {F : pF} {x1 : Int32} {x2 : Int32} {x3 : Int32} {x4 : Int32} {x5 : Int32} {s : cS} {x : ((Int32 × cS) ⊕ (((Int32 × Int32) × cS) ⊕ (Int64 × cS)))} (h : b_X7_castNets_96 x1 x2 x3 x4 x5 s = some x) (hx : (KL (fun (v : Int32 × cS) => PW g l (pRoom 5 0 0) M_X7_castNets F 96 [(0, .ref 154), (1, .int x1), (2, .int x2), (3, .int x3), (4, .int x4), (5, .int v.1)] [] (tS v.2) 0 0) (KL (fun (v : (Int32 × Int32) × cS) => PW g l (pRoom 5 0 0) M_X7_castNets F 87 [(0, .ref 154), (1, .int x1), (2, .int x2), (3, .int v.1.1), (4, .int v.1.2)] [] (tS v.2) 0 0) (fun q => F = pE g (some (.long q.1)) (tS q.2) 0 0))) x) : PW g l (pRoom 5 0 0) M_X7_castNets F 96 [(0, .ref 154), (1, .int x1), (2, .int x2), (3, .int x3), (4, .int x4), (5, .int x5)] [] (tS s) 0 0 := by
  unfold b_X7_castNets_96 at h
  refine PW.iload 5 dX7_castNets_96 rfl ?_
  refine PW.bipush (v := 40) dX7_castNets_98 (by decide) ?_
  refine PW.icmp_ge (tgt := 133) dX7_castNets_100 (by decide) (fun c7 => ?_) (fun c7 => ?_)
  · replace h := ifp h c7
    obtain ⟨xo, hy, hxo⟩ := oRb h
    clear h
    subst hxo
    replace hx := KLr hx
    have h := hy
    clear hy
    exact PW.pick [0, 1, 2, 4, 5] rfl (ok_j_X7_castNets_133 h hx)
  · replace h := ifn h c7
    refine PW.aload_n 0 0 dX7_castNets_103 rfl rfl rfl ?_
    refine PW.iload_n 1 1 dX7_castNets_104 rfl rfl ?_
    refine PW.iload 4 dX7_castNets_105 rfl ?_
    refine PW.isub dX7_castNets_107 ?_
    refine PW.iload 5 dX7_castNets_108 rfl ?_
    refine PW.iload_n 2 2 dX7_castNets_110 rfl rfl ?_
    refine CW.callVl (ci := 7) (st := []) [.int (x1 - x4), .int x5, .int x2] dX7_castNets_111 (p_X7_worthFrom rfl) MV_X7_worthFrom mL_X7_75 (by decide) rfl LA_154 rfl rfl (Nat.le_of_ble_eq_true rfl) (by first | decide | omega) ?_
    refine PW.aload_n 0 0 dX7_castNets_114 rfl rfl rfl ?_
    refine PW.iload_n 1 1 dX7_castNets_115 rfl rfl ?_
    refine PW.iload 4 dX7_castNets_116 rfl ?_
    refine PW.isub dX7_castNets_118 ?_
    refine PW.iload_n 3 3 dX7_castNets_119 rfl rfl ?_
    refine CW.callVl (ci := 7) (st := [.long (f_X7_worthFrom (x1 - x4) x5 x2 s)]) [.int (x1 - x4), .int x3] dX7_castNets_120 (p_X7_bestOf rfl) MV_X7_bestOf mL_X7_71 (by decide) rfl LA_154 rfl rfl (Nat.le_of_ble_eq_true rfl) (by first | decide | omega) ?_
    refine PW.lcmp dX7_castNets_123 ?_
    refine PW.if_eq (tgt := 133) dX7_castNets_124 (by decide) (fun c13 => ?_) (fun c13 => ?_)
    · replace h := ifp h c13
      obtain ⟨xo, hy, hxo⟩ := oRb h
      clear h
      subst hxo
      replace hx := KLr hx
      have h := hy
      clear hy
      exact PW.pick [0, 1, 2, 4, 5] rfl (ok_j_X7_castNets_133 h hx)
    · replace h := ifn h c13
      refine PW.iinc (v := (x5 + (1 : Int32))) 5 dX7_castNets_127 rfl (by first | rfl | decide) (Nat.le_of_ble_eq_true rfl) rfl ?_
      refine PW.goto (tgt := 96) dX7_castNets_130 (by decide) ?_
      cases h
      exact PW.pick [1, 2, 3, 4, 5, 0] rfl hx
def w_X7_castNets_96 (N : Nat) (x1 : Int32) (x2 : Int32) (x3 : Int32) (x4 : Int32) (x5 : Int32) (s : cS) : Option (((Int32 × Int32) × cS) ⊕ (Int64 × cS)) := itr (fun (v : Int32 × cS) => b_X7_castNets_96 x1 x2 x3 x4 v.1 v.2) N (x5, s)
theorem ok_w_X7_castNets_96 {g : pG} {l : Launch} {F : pF} {N : Nat} {x1 : Int32} {x2 : Int32} {x3 : Int32} {x4 : Int32} {x5 : Int32} {s : cS} {x : (((Int32 × Int32) × cS) ⊕ (Int64 × cS))} (h : w_X7_castNets_96 N x1 x2 x3 x4 x5 s = some x) (hx : (KL (fun (v : (Int32 × Int32) × cS) => PW g l (pRoom 5 0 0) M_X7_castNets F 87 [(0, .ref 154), (1, .int x1), (2, .int x2), (3, .int v.1.1), (4, .int v.1.2)] [] (tS v.2) 0 0) (fun q => F = pE g (some (.long q.1)) (tS q.2) 0 0)) x) : PW g l (pRoom 5 0 0) M_X7_castNets F 96 [(0, .ref 154), (1, .int x1), (2, .int x2), (3, .int x3), (4, .int x4), (5, .int x5)] [] (tS s) 0 0 :=
  okIter (P := (fun (v : Int32 × cS) => PW g l (pRoom 5 0 0) M_X7_castNets F 96 [(0, .ref 154), (1, .int x1), (2, .int x2), (3, .int x3), (4, .int x4), (5, .int v.1)] [] (tS v.2) 0 0)) (K := (KL (fun (v : (Int32 × Int32) × cS) => PW g l (pRoom 5 0 0) M_X7_castNets F 87 [(0, .ref 154), (1, .int x1), (2, .int x2), (3, .int v.1.1), (4, .int v.1.2)] [] (tS v.2) 0 0) (fun q => F = pE g (some (.long q.1)) (tS q.2) 0 0))) (fun v y hB hy => ok_b_X7_castNets_96 hB hy) N (x5, s) x h hx
def b_X7_castNets_87 (N : Nat) (x1 : Int32) (x2 : Int32) (x3 : Int32) (x4 : Int32) (s : cS) : Option (((Int32 × Int32) × cS) ⊕ (Int64 × cS)) :=
  if x1 ≤ x4 then
    oR (
      some (((f_X7_bestOf x1 (0 : Int32) s), s)))
  else
    w_X7_castNets_96 N x1 x2 x3 x4 x3 s
set_option maxRecDepth 20000 in
set_option maxHeartbeats 4000000 in
theorem ok_b_X7_castNets_87 {g : pG} {l : Launch} {F : pF} {N : Nat} {x1 : Int32} {x2 : Int32} {x3 : Int32} {x4 : Int32} {s : cS} {x : (((Int32 × Int32) × cS) ⊕ (Int64 × cS))} (h : b_X7_castNets_87 N x1 x2 x3 x4 s = some x) (hx : (KL (fun (v : (Int32 × Int32) × cS) => PW g l (pRoom 5 0 0) M_X7_castNets F 87 [(0, .ref 154), (1, .int x1), (2, .int x2), (3, .int v.1.1), (4, .int v.1.2)] [] (tS v.2) 0 0) (fun q => F = pE g (some (.long q.1)) (tS q.2) 0 0)) x) : PW g l (pRoom 5 0 0) M_X7_castNets F 87 [(0, .ref 154), (1, .int x1), (2, .int x2), (3, .int x3), (4, .int x4)] [] (tS s) 0 0 := by
  unfold b_X7_castNets_87 at h
  refine PW.iload 4 dX7_castNets_87 rfl ?_
  refine PW.iload_n 1 1 dX7_castNets_89 rfl rfl ?_
  refine PW.icmp_ge (tgt := 155) dX7_castNets_90 (by decide) (fun c5 => ?_) (fun c5 => ?_)
  · replace h := ifp h c5
    obtain ⟨xo, hy, hxo⟩ := oRb h
    clear h
    subst hxo
    replace hx := KLr hx
    have h := hy
    clear hy
    refine PW.aload_n 0 0 dX7_castNets_155 rfl rfl rfl ?_
    refine PW.iload_n 1 1 dX7_castNets_156 rfl rfl ?_
    refine PW.iconst (v := 0) dX7_castNets_157 (by decide) ?_
    refine CW.callVl (ci := 7) (st := []) [.int x1, .int (0 : Int32)] dX7_castNets_158 (p_X7_bestOf rfl) MV_X7_bestOf mL_X7_71 (by decide) rfl LA_154 rfl rfl (Nat.le_of_ble_eq_true rfl) (by first | decide | omega) ?_
    cases h
    subst hx
    exact PW.lret dX7_castNets_161 rfl (Nat.le_refl 0) (Nat.le_refl 0)
  · replace h := ifn h c5
    refine PW.iload_n 3 3 dX7_castNets_93 rfl rfl ?_
    refine PW.istore dX7_castNets_94 (Nat.le_of_ble_eq_true rfl) rfl ?_
    exact PW.pick [1, 2, 3, 4, 5, 0] rfl (ok_w_X7_castNets_96 h hx)
def w_X7_castNets_87 (N : Nat) (x1 : Int32) (x2 : Int32) (x3 : Int32) (x4 : Int32) (s : cS) : Option (Int64 × cS) := itr (fun (v : (Int32 × Int32) × cS) => b_X7_castNets_87 N x1 x2 v.1.1 v.1.2 v.2) N ((x3, x4), s)
theorem ok_w_X7_castNets_87 {g : pG} {l : Launch} {F : pF} {N : Nat} {x1 : Int32} {x2 : Int32} {x3 : Int32} {x4 : Int32} {s : cS} {x : (Int64 × cS)} (h : w_X7_castNets_87 N x1 x2 x3 x4 s = some x) (hx : (fun q => F = pE g (some (.long q.1)) (tS q.2) 0 0) x) : PW g l (pRoom 5 0 0) M_X7_castNets F 87 [(0, .ref 154), (1, .int x1), (2, .int x2), (3, .int x3), (4, .int x4)] [] (tS s) 0 0 :=
  okIter (P := (fun (v : (Int32 × Int32) × cS) => PW g l (pRoom 5 0 0) M_X7_castNets F 87 [(0, .ref 154), (1, .int x1), (2, .int x2), (3, .int v.1.1), (4, .int v.1.2)] [] (tS v.2) 0 0)) (K := (fun q => F = pE g (some (.long q.1)) (tS q.2) 0 0)) (fun v y hB hy => ok_b_X7_castNets_87 hB hy) N ((x3, x4), s) x h hx
def j_X7_castNets_48 (x1 : Int32) (x2 : Int32) (x3 : Int32) (x4 : Int32) (y0 : Int64) (s : cS) : Option ((Int32 × cS) ⊕ ((Int32 × cS) ⊕ (Int64 × cS))) :=
  tb (f_X7_setBest x4 x3 (if (f_X7_worthFrom x4 x3 x2 s) < y0 then y0 else (f_X7_worthFrom x4 x3 x2 s)) s) fun r20 s21 =>
  some (.inl ((x4 + (1 : Int32)), s21))
set_option maxRecDepth 20000 in
set_option maxHeartbeats 4000000 in
theorem ok_j_X7_castNets_48 {g : pG} {l : Launch} {F : pF} {x1 : Int32} {x2 : Int32} {x3 : Int32} {x4 : Int32} {y0 : Int64} {s : cS} {x : ((Int32 × cS) ⊕ ((Int32 × cS) ⊕ (Int64 × cS)))} (h : j_X7_castNets_48 x1 x2 x3 x4 y0 s = some x) (hx : (KL (fun (v : Int32 × cS) => PW g l (pRoom 5 0 0) M_X7_castNets F 21 [(0, .ref 154), (1, .int x1), (2, .int x2), (3, .int x3), (4, .int v.1)] [] (tS v.2) 0 0) (KL (fun (v : Int32 × cS) => PW g l (pRoom 5 0 0) M_X7_castNets F 7 [(0, .ref 154), (1, .int x1), (2, .int x2), (3, .int v.1)] [] (tS v.2) 0 0) (fun q => F = pE g (some (.long q.1)) (tS q.2) 0 0))) x) : PW g l (pRoom 5 0 0) M_X7_castNets F 48 [(0, .ref 154), (1, .int x1), (2, .int x2), (3, .int x3), (4, .int x4)] [.long y0] (tS s) 0 0 := by
  unfold j_X7_castNets_48 at h
  refine PW.lstore dX7_castNets_48 (Nat.le_of_ble_eq_true rfl) rfl ?_
  refine PW.aload_n 1 0 dX7_castNets_50 rfl rfl rfl ?_
  refine PW.iload 5 dX7_castNets_51 rfl ?_
  refine PW.iload_n 4 3 dX7_castNets_53 rfl rfl ?_
  refine PW.lload 0 dX7_castNets_54 rfl ?_
  refine PW.aload_n 1 0 dX7_castNets_56 rfl rfl rfl ?_
  refine PW.iload 5 dX7_castNets_57 rfl ?_
  refine PW.iload_n 4 3 dX7_castNets_59 rfl rfl ?_
  refine PW.iload_n 3 2 dX7_castNets_60 rfl rfl ?_
  refine CW.callVl (ci := 7) (st := [.long y0, .int x3, .int x4, .ref 154]) [.int x4, .int x3, .int x2] dX7_castNets_61 (p_X7_worthFrom rfl) MV_X7_worthFrom mL_X7_75 (by decide) rfl LA_154 rfl rfl (Nat.le_of_ble_eq_true rfl) (by first | decide | omega) ?_
  refine CW.mmaxl dX7_castNets_64 mL_X7_58 (Nat.le_of_ble_eq_true rfl) (by decide) ?_
  obtain ⟨r20, s21, q22, h⟩ := tbnd h
  refine CW.callVv (ci := 7) (st := []) [.int x4, .int x3, .long (if (f_X7_worthFrom x4 x3 x2 s) < y0 then y0 else (f_X7_worthFrom x4 x3 x2 s))] dX7_castNets_67 (p_X7_setBest q22) MV_X7_setBest mL_X7_67 (by decide) rfl LA_154 rfl rfl (Nat.le_of_ble_eq_true rfl) (by first | decide | omega) ?_
  refine PW.iinc (v := (x4 + (1 : Int32))) 5 dX7_castNets_70 rfl (by first | rfl | decide) (Nat.le_of_ble_eq_true rfl) rfl ?_
  refine PW.goto (tgt := 21) dX7_castNets_73 (by decide) ?_
  cases h
  exact PW.pick [2, 3, 4, 5, 0] rfl hx
def b_X7_castNets_21 (x1 : Int32) (x2 : Int32) (x3 : Int32) (x4 : Int32) (s : cS) : Option ((Int32 × cS) ⊕ ((Int32 × cS) ⊕ (Int64 × cS))) :=
  if x1 < x4 then
    oR (
      some (.inl ((x3 + (-1)), s)))
  else
    if (40 : Int32) ≤ x3 then
      j_X7_castNets_48 x1 x2 x3 x4 (-1 : Int64) s
    else
      j_X7_castNets_48 x1 x2 x3 x4 (f_X7_bestOf x4 (x3 + (1 : Int32)) s) s
set_option maxRecDepth 20000 in
set_option maxHeartbeats 4000000 in
theorem ok_b_X7_castNets_21 {g : pG} {l : Launch} {F : pF} {x1 : Int32} {x2 : Int32} {x3 : Int32} {x4 : Int32} {s : cS} {x : ((Int32 × cS) ⊕ ((Int32 × cS) ⊕ (Int64 × cS)))} (h : b_X7_castNets_21 x1 x2 x3 x4 s = some x) (hx : (KL (fun (v : Int32 × cS) => PW g l (pRoom 5 0 0) M_X7_castNets F 21 [(0, .ref 154), (1, .int x1), (2, .int x2), (3, .int x3), (4, .int v.1)] [] (tS v.2) 0 0) (KL (fun (v : Int32 × cS) => PW g l (pRoom 5 0 0) M_X7_castNets F 7 [(0, .ref 154), (1, .int x1), (2, .int x2), (3, .int v.1)] [] (tS v.2) 0 0) (fun q => F = pE g (some (.long q.1)) (tS q.2) 0 0))) x) : PW g l (pRoom 5 0 0) M_X7_castNets F 21 [(0, .ref 154), (1, .int x1), (2, .int x2), (3, .int x3), (4, .int x4)] [] (tS s) 0 0 := by
  unfold b_X7_castNets_21 at h
  refine PW.iload 4 dX7_castNets_21 rfl ?_
  refine PW.iload_n 1 1 dX7_castNets_23 rfl rfl ?_
  refine PW.icmp_gt (tgt := 76) dX7_castNets_24 (by decide) (fun c17 => ?_) (fun c17 => ?_)
  · replace h := ifp h c17
    obtain ⟨xo, hy, hxo⟩ := oRb h
    clear h
    subst hxo
    replace hx := KLr hx
    have h := hy
    clear hy
    refine PW.iinc (v := (x3 + (-1))) 3 dX7_castNets_76 rfl (by first | rfl | decide) (Nat.le_of_ble_eq_true rfl) rfl ?_
    refine PW.goto (tgt := 7) dX7_castNets_79 (by decide) ?_
    cases h
    exact PW.pick [1, 2, 3, 0] rfl hx
  · replace h := ifn h c17
    refine PW.iload_n 3 3 dX7_castNets_27 rfl rfl ?_
    refine PW.bipush (v := 40) dX7_castNets_28 (by decide) ?_
    refine PW.icmp_ge (tgt := 45) dX7_castNets_30 (by decide) (fun c18 => ?_) (fun c18 => ?_)
    · replace h := ifp h c18
      refine PW.ldc2_w dX7_castNets_45 kL_X7_53 ?_
      exact PW.pick [0, 1, 2, 3, 4] rfl (ok_j_X7_castNets_48 h hx)
    · replace h := ifn h c18
      refine PW.aload_n 0 0 dX7_castNets_33 rfl rfl rfl ?_
      refine PW.iload 4 dX7_castNets_34 rfl ?_
      refine PW.iload_n 3 3 dX7_castNets_36 rfl rfl ?_
      refine PW.iconst (v := 1) dX7_castNets_37 (by decide) ?_
      refine PW.iadd dX7_castNets_38 ?_
      refine CW.callVl (ci := 7) (st := []) [.int x4, .int (x3 + (1 : Int32))] dX7_castNets_39 (p_X7_bestOf rfl) MV_X7_bestOf mL_X7_71 (by decide) rfl LA_154 rfl rfl (Nat.le_of_ble_eq_true rfl) (by first | decide | omega) ?_
      refine PW.goto (tgt := 48) dX7_castNets_42 (by decide) ?_
      exact PW.pick [0, 1, 2, 3, 4] rfl (ok_j_X7_castNets_48 h hx)
def w_X7_castNets_21 (N : Nat) (x1 : Int32) (x2 : Int32) (x3 : Int32) (x4 : Int32) (s : cS) : Option ((Int32 × cS) ⊕ (Int64 × cS)) := itr (fun (v : Int32 × cS) => b_X7_castNets_21 x1 x2 x3 v.1 v.2) N (x4, s)
theorem ok_w_X7_castNets_21 {g : pG} {l : Launch} {F : pF} {N : Nat} {x1 : Int32} {x2 : Int32} {x3 : Int32} {x4 : Int32} {s : cS} {x : ((Int32 × cS) ⊕ (Int64 × cS))} (h : w_X7_castNets_21 N x1 x2 x3 x4 s = some x) (hx : (KL (fun (v : Int32 × cS) => PW g l (pRoom 5 0 0) M_X7_castNets F 7 [(0, .ref 154), (1, .int x1), (2, .int x2), (3, .int v.1)] [] (tS v.2) 0 0) (fun q => F = pE g (some (.long q.1)) (tS q.2) 0 0)) x) : PW g l (pRoom 5 0 0) M_X7_castNets F 21 [(0, .ref 154), (1, .int x1), (2, .int x2), (3, .int x3), (4, .int x4)] [] (tS s) 0 0 :=
  okIter (P := (fun (v : Int32 × cS) => PW g l (pRoom 5 0 0) M_X7_castNets F 21 [(0, .ref 154), (1, .int x1), (2, .int x2), (3, .int x3), (4, .int v.1)] [] (tS v.2) 0 0)) (K := (KL (fun (v : Int32 × cS) => PW g l (pRoom 5 0 0) M_X7_castNets F 7 [(0, .ref 154), (1, .int x1), (2, .int x2), (3, .int v.1)] [] (tS v.2) 0 0) (fun q => F = pE g (some (.long q.1)) (tS q.2) 0 0))) (fun v y hB hy => ok_b_X7_castNets_21 hB hy) N (x4, s) x h hx
def b_X7_castNets_7 (N : Nat) (x1 : Int32) (x2 : Int32) (x3 : Int32) (s : cS) : Option ((Int32 × cS) ⊕ (Int64 × cS)) :=
  if x3 < 0 then
    oR (
      w_X7_castNets_87 N x1 x2 (0 : Int32) (0 : Int32) s)
  else
    tb (f_X7_setBest (0 : Int32) x3 (0 : Int64) s) fun r14 s15 =>
    w_X7_castNets_21 N x1 x2 x3 (1 : Int32) s15
set_option maxRecDepth 20000 in
set_option maxHeartbeats 4000000 in
theorem ok_b_X7_castNets_7 {g : pG} {l : Launch} {F : pF} {N : Nat} {x1 : Int32} {x2 : Int32} {x3 : Int32} {s : cS} {x : ((Int32 × cS) ⊕ (Int64 × cS))} (h : b_X7_castNets_7 N x1 x2 x3 s = some x) (hx : (KL (fun (v : Int32 × cS) => PW g l (pRoom 5 0 0) M_X7_castNets F 7 [(0, .ref 154), (1, .int x1), (2, .int x2), (3, .int v.1)] [] (tS v.2) 0 0) (fun q => F = pE g (some (.long q.1)) (tS q.2) 0 0)) x) : PW g l (pRoom 5 0 0) M_X7_castNets F 7 [(0, .ref 154), (1, .int x1), (2, .int x2), (3, .int x3)] [] (tS s) 0 0 := by
  unfold b_X7_castNets_7 at h
  refine PW.iload_n 3 3 dX7_castNets_7 rfl rfl ?_
  refine PW.if_lt (tgt := 82) dX7_castNets_8 (by decide) (fun c4 => ?_) (fun c4 => ?_)
  · replace h := ifp h c4
    obtain ⟨xo, hy, hxo⟩ := oRb h
    clear h
    subst hxo
    replace hx := KLr hx
    have h := hy
    clear hy
    refine PW.iconst (v := 0) dX7_castNets_82 (by decide) ?_
    refine PW.istore_n dX7_castNets_83 rfl (Nat.le_of_ble_eq_true rfl) rfl ?_
    refine PW.iconst (v := 0) dX7_castNets_84 (by decide) ?_
    refine PW.istore dX7_castNets_85 (Nat.le_of_ble_eq_true rfl) rfl ?_
    exact PW.pick [2, 3, 4, 1, 0] rfl (ok_w_X7_castNets_87 h hx)
  · replace h := ifn h c4
    refine PW.aload_n 0 0 dX7_castNets_11 rfl rfl rfl ?_
    refine PW.iconst (v := 0) dX7_castNets_12 (by decide) ?_
    refine PW.iload_n 3 3 dX7_castNets_13 rfl rfl ?_
    refine PW.lconst (v := 0) dX7_castNets_14 (by decide) ?_
    obtain ⟨r14, s15, q16, h⟩ := tbnd h
    refine CW.callVv (ci := 7) (st := []) [.int (0 : Int32), .int x3, .long (0 : Int64)] dX7_castNets_15 (p_X7_setBest q16) MV_X7_setBest mL_X7_67 (by decide) rfl LA_154 rfl rfl (Nat.le_of_ble_eq_true rfl) (by first | decide | omega) ?_
    refine PW.iconst (v := 1) dX7_castNets_18 (by decide) ?_
    refine PW.istore dX7_castNets_19 (Nat.le_of_ble_eq_true rfl) rfl ?_
    exact PW.pick [1, 2, 3, 4, 0] rfl (ok_w_X7_castNets_21 h hx)
def w_X7_castNets_7 (N : Nat) (x1 : Int32) (x2 : Int32) (x3 : Int32) (s : cS) : Option (Int64 × cS) := itr (fun (v : Int32 × cS) => b_X7_castNets_7 N x1 x2 v.1 v.2) N (x3, s)
theorem ok_w_X7_castNets_7 {g : pG} {l : Launch} {F : pF} {N : Nat} {x1 : Int32} {x2 : Int32} {x3 : Int32} {s : cS} {x : (Int64 × cS)} (h : w_X7_castNets_7 N x1 x2 x3 s = some x) (hx : (fun q => F = pE g (some (.long q.1)) (tS q.2) 0 0) x) : PW g l (pRoom 5 0 0) M_X7_castNets F 7 [(0, .ref 154), (1, .int x1), (2, .int x2), (3, .int x3)] [] (tS s) 0 0 :=
  okIter (P := (fun (v : Int32 × cS) => PW g l (pRoom 5 0 0) M_X7_castNets F 7 [(0, .ref 154), (1, .int x1), (2, .int x2), (3, .int v.1)] [] (tS v.2) 0 0)) (K := (fun q => F = pE g (some (.long q.1)) (tS q.2) 0 0)) (fun v y hB hy => ok_b_X7_castNets_7 hB hy) N (x3, s) x h hx
def f_X7_castNets (N : Nat) (a0 : Int32) (a1 : Int32) (s : cS) : Option (Int64 × cS) :=
  ob (f_X7_sumWorths N s) fun r1 s2 =>
  w_X7_castNets_7 N a0 a1 (40 : Int32) s2
set_option maxRecDepth 20000 in
set_option maxHeartbeats 4000000 in
theorem p_X7_castNets {g : pG} {l : Launch} {N : Nat} {a0 : Int32} {a1 : Int32} {s : cS} {q : Int64 × cS} (h : f_X7_castNets N a0 a1 s = some q) : PM g l 5 M_X7_castNets [.ref 154, .int a0, .int a1] (tS s) (some (.long q.1)) (tS q.2) 0 0 := by
  refine PM.of (by decide +kernel) (Nat.le_of_ble_eq_true rfl) ?_
  show PW g l (pRoom 5 0 0) M_X7_castNets _ 0 [(0, .ref 154), (1, .int a0), (2, .int a1)] [] (tS s) 0 0
  unfold f_X7_castNets at h
  generalize hF : pE g (some (.long q.1)) (tS q.2) 0 0 = F
  have hx := hF.symm
  refine PW.aload_n 0 0 dX7_castNets_0 rfl rfl rfl ?_
  obtain ⟨r1, s2, q3, h⟩ := obnd h
  refine CW.callVv (ci := 7) (st := []) [] dX7_castNets_1 (p_X7_sumWorths q3) MV_X7_sumWorths mL_X7_64 (by decide) rfl LA_154 rfl rfl (Nat.le_of_ble_eq_true rfl) (by first | decide | omega) ?_
  refine PW.bipush (v := 40) dX7_castNets_4 (by decide) ?_
  refine PW.istore_n dX7_castNets_6 rfl (Nat.le_of_ble_eq_true rfl) rfl ?_
  exact PW.pick [1, 2, 3, 0] rfl (ok_w_X7_castNets_7 h hx)
/-! X7_net -/
def f_X7_net (a0 : Int32) (s : cS) : Int32 :=
  (aA s 161 4 a0)
set_option maxRecDepth 20000 in
set_option maxHeartbeats 4000000 in
theorem p_X7_net {g : pG} {l : Launch} {a0 : Int32} {s : cS} {q : Int32} (h : f_X7_net a0 s = q) : PM g l 2 M_X7_net [.ref 154, .int a0] (tS s) (some (.int q)) (tS s) 0 0 := by
  refine PM.of (by decide +kernel) (Nat.le_of_ble_eq_true rfl) ?_
  show PW g l (pRoom 2 0 0) M_X7_net _ 0 [(0, .ref 154), (1, .int a0)] [] (tS s) 0 0
  unfold f_X7_net at h
  generalize hF : pE g (some (.int q)) (tS s) 0 0 = F
  have hx := hF.symm
  refine PW.aload_n 0 0 dX7_net_0 rfl rfl rfl ?_
  refine CW.getr dX7_net_1 fL_X7_31 LA_154 (Or.inr ⟨_, rfl⟩) rfl ?_
  refine PW.iload_n 1 1 dX7_net_4 rfl rfl ?_
  refine CW.callSNi (st := []) [.ref 161, .int a0] dX7_net_5 (ps_at LA_161 rfl) MS_X11_at mN_X7_45 rfl rfl (Nat.le_of_ble_eq_true rfl) (by first | decide | omega) ?_
  cases h
  subst hx
  exact PW.iret (v := (aA s 161 4 a0)) dX7_net_8 rfl rfl (Nat.le_refl 0) (Nat.le_refl 0)
