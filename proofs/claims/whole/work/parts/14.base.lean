/-! X11_within -/
def f_X11_within (a0 : Int32) (a1 : Int32) (a2 : Int32) (s : cS) : Int32 :=
  if a0 < a1 then
    (0 : Int32)
  else
    if a2 < a0 then
      (0 : Int32)
    else
      (1 : Int32)
set_option maxRecDepth 20000 in
set_option maxHeartbeats 4000000 in
theorem p_X11_within {g : pG} {l : Launch} {a0 : Int32} {a1 : Int32} {a2 : Int32} {s : cS} {q : Int32} (h : f_X11_within a0 a1 a2 s = q) : PM g l 1 M_X11_within [.int a0, .int a1, .int a2] (tS s) (some (.int q)) (tS s) 0 0 := by
  refine PM.of (by decide +kernel) (Nat.le_of_ble_eq_true rfl) ?_
  show PW g l (pRoom 1 0 0) M_X11_within _ 0 [(0, .int a0), (1, .int a1), (2, .int a2)] [] (tS s) 0 0
  unfold f_X11_within at h
  generalize hF : pE g (some (.int q)) (tS s) 0 0 = F
  have hx := hF.symm
  refine PW.iload_n 0 0 dX11_within_0 rfl rfl ?_
  refine PW.iload_n 1 1 dX11_within_1 rfl rfl ?_
  refine PW.icmp_lt (tgt := 14) dX11_within_2 (by decide) (fun c1 => ?_) (fun c1 => ?_)
  · replace h := ifp h c1
    refine PW.iconst (v := 0) dX11_within_14 (by decide) ?_
    cases h
    subst hx
    exact PW.iret (v := (0 : Int32)) dX11_within_15 rfl (narZ (Or.inl rfl)) (Nat.le_refl 0) (Nat.le_refl 0)
  · replace h := ifn h c1
    refine PW.iload_n 0 0 dX11_within_5 rfl rfl ?_
    refine PW.iload_n 2 2 dX11_within_6 rfl rfl ?_
    refine PW.icmp_gt (tgt := 14) dX11_within_7 (by decide) (fun c2 => ?_) (fun c2 => ?_)
    · replace h := ifp h c2
      refine PW.iconst (v := 0) dX11_within_14 (by decide) ?_
      cases h
      subst hx
      exact PW.iret (v := (0 : Int32)) dX11_within_15 rfl (narZ (Or.inl rfl)) (Nat.le_refl 0) (Nat.le_refl 0)
    · replace h := ifn h c2
      refine PW.iconst (v := 1) dX11_within_10 (by decide) ?_
      refine PW.goto (tgt := 15) dX11_within_11 (by decide) ?_
      cases h
      subst hx
      exact PW.iret (v := (1 : Int32)) dX11_within_15 rfl (narZ (Or.inr rfl)) (Nat.le_refl 0) (Nat.le_refl 0)
theorem f_X11_within_bool {a0 : Int32} {a1 : Int32} {a2 : Int32} {s : cS} : f_X11_within a0 a1 a2 s = 0 ∨ f_X11_within a0 a1 a2 s = 1 := by
  unfold f_X11_within
  repeat' split
  all_goals first | exact Or.inl rfl | exact Or.inr rfl
/-! X11_at -/
def f_X11_at (A : Nat) (n : Nat) (a1 : Int32) (s : cS) : Option (Int32 × cS) :=
  if a1 < 0 then
    some (((0 : Int32), s))
  else
    if (Int32.ofNat n) ≤ a1 then
      some (((0 : Int32), s))
    else
      if inb a1 n then
      some (((iG s A a1.toNatClampNeg), s))
      else none
set_option maxRecDepth 20000 in
set_option maxHeartbeats 4000000 in
theorem p_X11_at {g : pG} {l : Launch} {A : Nat} {n : Nat} {a1 : Int32} {s : cS} {q : Int32 × cS} (hA : LAY[A]? = some (.inr (0, n))) (h : f_X11_at A n a1 s = some q) : PM g l 1 M_X11_at [.ref A, .int a1] (tS s) (some (.int q.1)) (tS q.2) 0 0 := by
  refine PM.of (by decide +kernel) (Nat.le_of_ble_eq_true rfl) ?_
  show PW g l (pRoom 1 0 0) M_X11_at _ 0 [(0, .ref A), (1, .int a1)] [] (tS s) 0 0
  unfold f_X11_at at h
  generalize hF : pE g (some (.int q.1)) (tS q.2) 0 0 = F
  have hx := hF.symm
  refine PW.iload_n 1 1 dX11_at_0 rfl rfl ?_
  refine PW.if_lt (tgt := 16) dX11_at_1 (by decide) (fun c1 => ?_) (fun c1 => ?_)
  · replace h := ifp h c1
    refine PW.iconst (v := 0) dX11_at_16 (by decide) ?_
    cases h
    subst hx
    exact PW.iret (v := (0 : Int32)) dX11_at_17 rfl rfl (Nat.le_refl 0) (Nat.le_refl 0)
  · replace h := ifn h c1
    refine PW.iload_n 1 1 dX11_at_4 rfl rfl ?_
    refine PW.aload_n 0 0 dX11_at_5 rfl rfl rfl ?_
    refine CW.alen (v := Int32.ofNat n) dX11_at_6 hA (by decide) rfl ?_
    refine PW.icmp_ge (tgt := 16) dX11_at_7 (by decide) (fun c2 => ?_) (fun c2 => ?_)
    · replace h := ifp h c2
      refine PW.iconst (v := 0) dX11_at_16 (by decide) ?_
      cases h
      subst hx
      exact PW.iret (v := (0 : Int32)) dX11_at_17 rfl rfl (Nat.le_refl 0) (Nat.le_refl 0)
    · replace h := ifn h c2
      refine PW.aload_n 0 0 dX11_at_10 rfl rfl rfl ?_
      refine PW.iload_n 1 1 dX11_at_11 rfl rfl ?_
      by_cases c3 : inb a1 n
      rotate_left
      · have h := ifn h c3; cases h
      replace h := ifp h c3
      refine CW.iald dX11_at_12 hA c3 ?_
      refine PW.goto (tgt := 17) dX11_at_13 (by decide) ?_
      cases h
      subst hx
      exact PW.iret (v := (iG s A a1.toNatClampNeg)) dX11_at_17 rfl rfl (Nat.le_refl 0) (Nat.le_refl 0)
/-! X11_put -/
def f_X11_put (A : Nat) (n : Nat) (a1 : Int32) (a2 : Int32) (s : cS) : Option (Unit × cS) :=
  if a1 < 0 then
    some (((), s))
  else
    if (Int32.ofNat n) ≤ a1 then
      some (((), s))
    else
      if inb a1 n then
      sb (iS s A a1.toNatClampNeg a2) fun s4 =>
      some (((), s4))
      else none
set_option maxRecDepth 20000 in
set_option maxHeartbeats 4000000 in
theorem p_X11_put {g : pG} {l : Launch} {A : Nat} {n : Nat} {a1 : Int32} {a2 : Int32} {s : cS} {q : Unit × cS} (hA : LAY[A]? = some (.inr (0, n))) (h : f_X11_put A n a1 a2 s = some q) : PM g l 1 M_X11_put [.ref A, .int a1, .int a2] (tS s) none (tS q.2) 0 0 := by
  refine PM.of (by decide +kernel) (Nat.le_of_ble_eq_true rfl) ?_
  show PW g l (pRoom 1 0 0) M_X11_put _ 0 [(0, .ref A), (1, .int a1), (2, .int a2)] [] (tS s) 0 0
  unfold f_X11_put at h
  generalize hF : pE g none (tS q.2) 0 0 = F
  have hx := hF.symm
  refine PW.iload_n 1 1 dX11_put_0 rfl rfl ?_
  refine PW.if_lt (tgt := 14) dX11_put_1 (by decide) (fun c1 => ?_) (fun c1 => ?_)
  · replace h := ifp h c1
    cases h
    subst hx
    exact PW.vret dX11_put_14 rfl (Nat.le_refl 0) (Nat.le_refl 0)
  · replace h := ifn h c1
    refine PW.iload_n 1 1 dX11_put_4 rfl rfl ?_
    refine PW.aload_n 0 0 dX11_put_5 rfl rfl rfl ?_
    refine CW.alen (v := Int32.ofNat n) dX11_put_6 hA (by decide) rfl ?_
    refine PW.icmp_ge (tgt := 14) dX11_put_7 (by decide) (fun c2 => ?_) (fun c2 => ?_)
    · replace h := ifp h c2
      cases h
      subst hx
      exact PW.vret dX11_put_14 rfl (Nat.le_refl 0) (Nat.le_refl 0)
    · replace h := ifn h c2
      refine PW.aload_n 0 0 dX11_put_10 rfl rfl rfl ?_
      refine PW.iload_n 1 1 dX11_put_11 rfl rfl ?_
      refine PW.iload_n 2 2 dX11_put_12 rfl rfl ?_
      by_cases c3 : inb a1 n
      rotate_left
      · have h := ifn h c3; cases h
      replace h := ifp h c3
      refine CW.iast dX11_put_13 hA c3 ?_
      obtain ⟨s4, es4, h⟩ := sbnd h
      refine PW.sbe es4 ?_
      clear es4
      cases h
      subst hx
      exact PW.vret dX11_put_14 rfl (Nat.le_refl 0) (Nat.le_refl 0)
/-! X11_longAt -/
def f_X11_longAt (A : Nat) (n : Nat) (a1 : Int32) (s : cS) : Option (Int64 × cS) :=
  if a1 < 0 then
    some (((0 : Int64), s))
  else
    if (Int32.ofNat n) ≤ a1 then
      some (((0 : Int64), s))
    else
      if inb a1 n then
      some (((lG s A a1.toNatClampNeg), s))
      else none
set_option maxRecDepth 20000 in
set_option maxHeartbeats 4000000 in
theorem p_X11_longAt {g : pG} {l : Launch} {A : Nat} {n : Nat} {a1 : Int32} {s : cS} {q : Int64 × cS} (hA : LAY[A]? = some (.inr (1, n))) (h : f_X11_longAt A n a1 s = some q) : PM g l 1 M_X11_longAt [.ref A, .int a1] (tS s) (some (.long q.1)) (tS q.2) 0 0 := by
  refine PM.of (by decide +kernel) (Nat.le_of_ble_eq_true rfl) ?_
  show PW g l (pRoom 1 0 0) M_X11_longAt _ 0 [(0, .ref A), (1, .int a1)] [] (tS s) 0 0
  unfold f_X11_longAt at h
  generalize hF : pE g (some (.long q.1)) (tS q.2) 0 0 = F
  have hx := hF.symm
  refine PW.iload_n 1 1 dX11_longAt_0 rfl rfl ?_
  refine PW.if_lt (tgt := 16) dX11_longAt_1 (by decide) (fun c1 => ?_) (fun c1 => ?_)
  · replace h := ifp h c1
    refine PW.lconst (v := 0) dX11_longAt_16 (by decide) ?_
    cases h
    subst hx
    exact PW.lret dX11_longAt_17 rfl (Nat.le_refl 0) (Nat.le_refl 0)
  · replace h := ifn h c1
    refine PW.iload_n 1 1 dX11_longAt_4 rfl rfl ?_
    refine PW.aload_n 0 0 dX11_longAt_5 rfl rfl rfl ?_
    refine CW.alen (v := Int32.ofNat n) dX11_longAt_6 hA (by decide) rfl ?_
    refine PW.icmp_ge (tgt := 16) dX11_longAt_7 (by decide) (fun c2 => ?_) (fun c2 => ?_)
    · replace h := ifp h c2
      refine PW.lconst (v := 0) dX11_longAt_16 (by decide) ?_
      cases h
      subst hx
      exact PW.lret dX11_longAt_17 rfl (Nat.le_refl 0) (Nat.le_refl 0)
    · replace h := ifn h c2
      refine PW.aload_n 0 0 dX11_longAt_10 rfl rfl rfl ?_
      refine PW.iload_n 1 1 dX11_longAt_11 rfl rfl ?_
      by_cases c3 : inb a1 n
      rotate_left
      · have h := ifn h c3; cases h
      replace h := ifp h c3
      refine CW.lald dX11_longAt_12 hA c3 ?_
      refine PW.goto (tgt := 17) dX11_longAt_13 (by decide) ?_
      cases h
      subst hx
      exact PW.lret dX11_longAt_17 rfl (Nat.le_refl 0) (Nat.le_refl 0)
/-! X11_putLong -/
def f_X11_putLong (A : Nat) (n : Nat) (a1 : Int32) (a2 : Int64) (s : cS) : Option (Unit × cS) :=
  if a1 < 0 then
    some (((), s))
  else
    if (Int32.ofNat n) ≤ a1 then
      some (((), s))
    else
      if inb a1 n then
      sb (lS s A a1.toNatClampNeg a2) fun s4 =>
      some (((), s4))
      else none
set_option maxRecDepth 20000 in
set_option maxHeartbeats 4000000 in
theorem p_X11_putLong {g : pG} {l : Launch} {A : Nat} {n : Nat} {a1 : Int32} {a2 : Int64} {s : cS} {q : Unit × cS} (hA : LAY[A]? = some (.inr (1, n))) (h : f_X11_putLong A n a1 a2 s = some q) : PM g l 1 M_X11_putLong [.ref A, .int a1, .long a2] (tS s) none (tS q.2) 0 0 := by
  refine PM.of (by decide +kernel) (Nat.le_of_ble_eq_true rfl) ?_
  show PW g l (pRoom 1 0 0) M_X11_putLong _ 0 [(0, .ref A), (1, .int a1), (2, .long a2)] [] (tS s) 0 0
  unfold f_X11_putLong at h
  generalize hF : pE g none (tS q.2) 0 0 = F
  have hx := hF.symm
  refine PW.iload_n 1 1 dX11_putLong_0 rfl rfl ?_
  refine PW.if_lt (tgt := 14) dX11_putLong_1 (by decide) (fun c1 => ?_) (fun c1 => ?_)
  · replace h := ifp h c1
    cases h
    subst hx
    exact PW.vret dX11_putLong_14 rfl (Nat.le_refl 0) (Nat.le_refl 0)
  · replace h := ifn h c1
    refine PW.iload_n 1 1 dX11_putLong_4 rfl rfl ?_
    refine PW.aload_n 0 0 dX11_putLong_5 rfl rfl rfl ?_
    refine CW.alen (v := Int32.ofNat n) dX11_putLong_6 hA (by decide) rfl ?_
    refine PW.icmp_ge (tgt := 14) dX11_putLong_7 (by decide) (fun c2 => ?_) (fun c2 => ?_)
    · replace h := ifp h c2
      cases h
      subst hx
      exact PW.vret dX11_putLong_14 rfl (Nat.le_refl 0) (Nat.le_refl 0)
    · replace h := ifn h c2
      refine PW.aload_n 0 0 dX11_putLong_10 rfl rfl rfl ?_
      refine PW.iload_n 1 1 dX11_putLong_11 rfl rfl ?_
      refine PW.lload_n 2 2 dX11_putLong_12 rfl rfl ?_
      by_cases c3 : inb a1 n
      rotate_left
      · have h := ifn h c3; cases h
      replace h := ifp h c3
      refine CW.last dX11_putLong_13 hA c3 ?_
      obtain ⟨s4, es4, h⟩ := sbnd h
      refine PW.sbe es4 ?_
      clear es4
      cases h
      subst hx
      exact PW.vret dX11_putLong_14 rfl (Nat.le_refl 0) (Nat.le_refl 0)
