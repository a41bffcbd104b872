/-! X3_clauses -/
def f_X3_clauses (T : Nat) (s : cS) : Int32 :=
  (iG s T 8)
set_option maxRecDepth 20000 in
set_option maxHeartbeats 4000000 in
theorem p_X3_clauses {g : pG} {l : Launch} {T : Nat} {s : cS} {q : Int32} (hT : kd T 3) (h : f_X3_clauses T s = q) : PM g l 1 M_X3_clauses [.ref T] (tS s) (some (.int q)) (tS s) 0 0 := by
  refine PM.of (by decide +kernel) (Nat.le_of_ble_eq_true rfl) ?_
  show PW g l (pRoom 1 0 0) M_X3_clauses _ 0 [(0, .ref T)] [] (tS s) 0 0
  unfold f_X3_clauses at h
  generalize hF : pE g (some (.int q)) (tS s) 0 0 = F
  have hx := hF.symm
  refine PW.aload_n 0 0 dX3_clauses_0 rfl rfl rfl ?_
  refine CW.geti dX3_clauses_1 fL_X3_31 hT (Or.inl rfl) ?_
  cases h
  subst hx
  exact PW.iret (v := (iG s T 8)) dX3_clauses_4 rfl rfl (Nat.le_refl 0) (Nat.le_refl 0)
/-! X3_uses -/
def f_X3_uses (T : Nat) (a0 : Int32) (s : cS) : Int32 :=
  if (((iG s T 9) >>> (a0 &&& 31)) &&& (1 : Int32)) = (1 : Int32) then
    (1 : Int32)
  else
    (0 : Int32)
set_option maxRecDepth 20000 in
set_option maxHeartbeats 4000000 in
theorem p_X3_uses {g : pG} {l : Launch} {T : Nat} {a0 : Int32} {s : cS} {q : Int32} (hT : kd T 3) (h : f_X3_uses T a0 s = q) : PM g l 1 M_X3_uses [.ref T, .int a0] (tS s) (some (.int q)) (tS s) 0 0 := by
  refine PM.of (by decide +kernel) (Nat.le_of_ble_eq_true rfl) ?_
  show PW g l (pRoom 1 0 0) M_X3_uses _ 0 [(0, .ref T), (1, .int a0)] [] (tS s) 0 0
  unfold f_X3_uses at h
  generalize hF : pE g (some (.int q)) (tS s) 0 0 = F
  have hx := hF.symm
  refine PW.aload_n 0 0 dX3_uses_0 rfl rfl rfl ?_
  refine CW.geti dX3_uses_1 fL_X3_35 hT (Or.inl rfl) ?_
  refine PW.iload_n 1 1 dX3_uses_4 rfl rfl ?_
  refine PW.ishr dX3_uses_5 ?_
  refine PW.iconst (v := 1) dX3_uses_6 (by decide) ?_
  refine PW.iand dX3_uses_7 ?_
  refine PW.iconst (v := 1) dX3_uses_8 (by decide) ?_
  refine PW.icmp_ne (tgt := 16) dX3_uses_9 (by decide) (fun c1 => ?_) (fun c1 => ?_)
  · replace h := ifn h c1
    refine PW.iconst (v := 0) dX3_uses_16 (by decide) ?_
    cases h
    subst hx
    exact PW.iret (v := (0 : Int32)) dX3_uses_17 rfl (narZ (Or.inl rfl)) (Nat.le_refl 0) (Nat.le_refl 0)
  · replace h := ifp h c1
    refine PW.iconst (v := 1) dX3_uses_12 (by decide) ?_
    refine PW.goto (tgt := 17) dX3_uses_13 (by decide) ?_
    cases h
    subst hx
    exact PW.iret (v := (1 : Int32)) dX3_uses_17 rfl (narZ (Or.inr rfl)) (Nat.le_refl 0) (Nat.le_refl 0)
theorem f_X3_uses_bool {T : Nat} {a0 : Int32} {s : cS} : f_X3_uses T a0 s = 0 ∨ f_X3_uses T a0 s = 1 := by
  unfold f_X3_uses
  repeat' split
  all_goals first | exact Or.inl rfl | exact Or.inr rfl
/-! X3_empty -/
def f_X3_empty (T : Nat) (s : cS) : (Unit × cS) :=
  sb (iS s T 7 (0 : Int32)) fun s1 =>
  sb (iS s1 T 8 (0 : Int32)) fun s2 =>
  sb (iS s2 T 9 (0 : Int32)) fun s3 =>
  ((), s3)
set_option maxRecDepth 20000 in
set_option maxHeartbeats 4000000 in
theorem p_X3_empty {g : pG} {l : Launch} {T : Nat} {s : cS} {q : Unit × cS} (hT : kd T 3) (h : f_X3_empty T s = q) : PM g l 1 M_X3_empty [.ref T] (tS s) none (tS q.2) 0 0 := by
  refine PM.of (by decide +kernel) (Nat.le_of_ble_eq_true rfl) ?_
  show PW g l (pRoom 1 0 0) M_X3_empty _ 0 [(0, .ref T)] [] (tS s) 0 0
  unfold f_X3_empty at h
  generalize hF : pE g none (tS q.2) 0 0 = F
  have hx := hF.symm
  refine PW.aload_n 0 0 dX3_empty_0 rfl rfl rfl ?_
  refine PW.iconst (v := 0) dX3_empty_1 (by decide) ?_
  refine CW.puti dX3_empty_2 fL_X3_38 rfl hT rfl ?_
  obtain ⟨s1, es1, h⟩ := sbnd h
  refine PW.sbe es1 ?_
  clear es1
  refine PW.aload_n 0 0 dX3_empty_5 rfl rfl rfl ?_
  refine PW.iconst (v := 0) dX3_empty_6 (by decide) ?_
  refine CW.puti dX3_empty_7 fL_X3_31 rfl hT rfl ?_
  obtain ⟨s2, es2, h⟩ := sbnd h
  refine PW.sbe es2 ?_
  clear es2
  refine PW.aload_n 0 0 dX3_empty_10 rfl rfl rfl ?_
  refine PW.iconst (v := 0) dX3_empty_11 (by decide) ?_
  refine CW.puti dX3_empty_12 fL_X3_35 rfl hT rfl ?_
  obtain ⟨s3, es3, h⟩ := sbnd h
  refine PW.sbe es3 ?_
  clear es3
  cases h
  subst hx
  exact PW.vret dX3_empty_15 rfl (Nat.le_refl 0) (Nat.le_refl 0)
/-! X3_openClause -/
def f_X3_openClause (T : Nat) (a0 : Int32) (s : cS) : (Unit × cS) :=
  sb (pA s (T + 2) 12 (iG s T 8) a0) fun s2 =>
  sb (pA s2 (T + 3) 12 (iG s2 T 8) (iG s2 T 7)) fun s5 =>
  ((), s5)
set_option maxRecDepth 20000 in
set_option maxHeartbeats 4000000 in
theorem p_X3_openClause {g : pG} {l : Launch} {T : Nat} {a0 : Int32} {s : cS} {q : Unit × cS} (hT : kd T 3) (h : f_X3_openClause T a0 s = q) : PM g l 2 M_X3_openClause [.ref T, .int a0] (tS s) none (tS q.2) 0 0 := by
  refine PM.of (by decide +kernel) (Nat.le_of_ble_eq_true rfl) ?_
  show PW g l (pRoom 2 0 0) M_X3_openClause _ 0 [(0, .ref T), (1, .int a0)] [] (tS s) 0 0
  unfold f_X3_openClause at h
  generalize hF : pE g none (tS q.2) 0 0 = F
  have hx := hF.symm
  refine PW.aload_n 0 0 dX3_openClause_0 rfl rfl rfl ?_
  refine CW.getr dX3_openClause_1 fL_X3_13 hT (Or.inr ⟨_, rfl⟩) (kr_3_1 hT _) ?_
  refine PW.aload_n 0 0 dX3_openClause_4 rfl rfl rfl ?_
  refine CW.geti dX3_openClause_5 fL_X3_31 hT (Or.inl rfl) ?_
  refine PW.iload_n 1 1 dX3_openClause_8 rfl rfl ?_
  obtain ⟨s2, q3, h⟩ := sbnd h
  refine CW.callSNv (st := []) [.ref (T + 2), .int (iG s T 8), .int a0] dX3_openClause_9 (ps_put (ka_3_2 hT) q3) MS_X11_put mN_X3_41 rfl rfl (Nat.le_of_ble_eq_true rfl) (by first | decide | omega) ?_
  refine PW.aload_n 0 0 dX3_openClause_12 rfl rfl rfl ?_
  refine CW.getr dX3_openClause_13 fL_X3_16 hT (Or.inr ⟨_, rfl⟩) (kr_3_2 hT _) ?_
  refine PW.aload_n 0 0 dX3_openClause_16 rfl rfl rfl ?_
  refine CW.geti dX3_openClause_17 fL_X3_31 hT (Or.inl rfl) ?_
  refine PW.aload_n 0 0 dX3_openClause_20 rfl rfl rfl ?_
  refine CW.geti dX3_openClause_21 fL_X3_38 hT (Or.inl rfl) ?_
  obtain ⟨s5, q6, h⟩ := sbnd h
  refine CW.callSNv (st := []) [.ref (T + 3), .int (iG s2 T 8), .int (iG s2 T 7)] dX3_openClause_24 (ps_put (ka_3_3 hT) q6) MS_X11_put mN_X3_41 rfl rfl (Nat.le_of_ble_eq_true rfl) (by first | decide | omega) ?_
  cases h
  subst hx
  exact PW.vret dX3_openClause_27 rfl (Nat.le_refl 0) (Nat.le_refl 0)
/-! X3_openCondition -/
def f_X3_openCondition (T : Nat) (s : cS) : (Unit × cS) :=
  sb (pA s (T + 4) 12 (iG s T 8) (iG s T 7)) fun s2 =>
  ((), s2)
set_option maxRecDepth 20000 in
set_option maxHeartbeats 4000000 in
theorem p_X3_openCondition {g : pG} {l : Launch} {T : Nat} {s : cS} {q : Unit × cS} (hT : kd T 3) (h : f_X3_openCondition T s = q) : PM g l 2 M_X3_openCondition [.ref T] (tS s) none (tS q.2) 0 0 := by
  refine PM.of (by decide +kernel) (Nat.le_of_ble_eq_true rfl) ?_
  show PW g l (pRoom 2 0 0) M_X3_openCondition _ 0 [(0, .ref T)] [] (tS s) 0 0
  unfold f_X3_openCondition at h
  generalize hF : pE g none (tS q.2) 0 0 = F
  have hx := hF.symm
  refine PW.aload_n 0 0 dX3_openCondition_0 rfl rfl rfl ?_
  refine CW.getr dX3_openCondition_1 fL_X3_19 hT (Or.inr ⟨_, rfl⟩) (kr_3_3 hT _) ?_
  refine PW.aload_n 0 0 dX3_openCondition_4 rfl rfl rfl ?_
  refine CW.geti dX3_openCondition_5 fL_X3_31 hT (Or.inl rfl) ?_
  refine PW.aload_n 0 0 dX3_openCondition_8 rfl rfl rfl ?_
  refine CW.geti dX3_openCondition_9 fL_X3_38 hT (Or.inl rfl) ?_
  obtain ⟨s2, q3, h⟩ := sbnd h
  refine CW.callSNv (st := []) [.ref (T + 4), .int (iG s T 8), .int (iG s T 7)] dX3_openCondition_12 (ps_put (ka_3_4 hT) q3) MS_X11_put mN_X3_41 rfl rfl (Nat.le_of_ble_eq_true rfl) (by first | decide | omega) ?_
  cases h
  subst hx
  exact PW.vret dX3_openCondition_15 rfl (Nat.le_refl 0) (Nat.le_refl 0)
/-! X3_closeClause -/
def f_X3_closeClause (T : Nat) (s : cS) : (Unit × cS) :=
  sb (pA s (T + 5) 12 (iG s T 8) (iG s T 7)) fun s2 =>
  sb (iS s2 T 8 ((iG s2 T 8) + (1 : Int32))) fun s4 =>
  ((), s4)
set_option maxRecDepth 20000 in
set_option maxHeartbeats 4000000 in
theorem p_X3_closeClause {g : pG} {l : Launch} {T : Nat} {s : cS} {q : Unit × cS} (hT : kd T 3) (h : f_X3_closeClause T s = q) : PM g l 2 M_X3_closeClause [.ref T] (tS s) none (tS q.2) 0 0 := by
  refine PM.of (by decide +kernel) (Nat.le_of_ble_eq_true rfl) ?_
  show PW g l (pRoom 2 0 0) M_X3_closeClause _ 0 [(0, .ref T)] [] (tS s) 0 0
  unfold f_X3_closeClause at h
  generalize hF : pE g none (tS q.2) 0 0 = F
  have hx := hF.symm
  refine PW.aload_n 0 0 dX3_closeClause_0 rfl rfl rfl ?_
  refine CW.getr dX3_closeClause_1 fL_X3_22 hT (Or.inr ⟨_, rfl⟩) (kr_3_4 hT _) ?_
  refine PW.aload_n 0 0 dX3_closeClause_4 rfl rfl rfl ?_
  refine CW.geti dX3_closeClause_5 fL_X3_31 hT (Or.inl rfl) ?_
  refine PW.aload_n 0 0 dX3_closeClause_8 rfl rfl rfl ?_
  refine CW.geti dX3_closeClause_9 fL_X3_38 hT (Or.inl rfl) ?_
  obtain ⟨s2, q3, h⟩ := sbnd h
  refine CW.callSNv (st := []) [.ref (T + 5), .int (iG s T 8), .int (iG s T 7)] dX3_closeClause_12 (ps_put (ka_3_5 hT) q3) MS_X11_put mN_X3_41 rfl rfl (Nat.le_of_ble_eq_true rfl) (by first | decide | omega) ?_
  refine PW.aload_n 0 0 dX3_closeClause_15 rfl rfl rfl ?_
  refine PW.dup dX3_closeClause_16 rfl ?_
  refine CW.geti dX3_closeClause_17 fL_X3_31 hT (Or.inl rfl) ?_
  refine PW.iconst (v := 1) dX3_closeClause_20 (by decide) ?_
  refine PW.iadd dX3_closeClause_21 ?_
  refine CW.puti dX3_closeClause_22 fL_X3_31 rfl hT rfl ?_
  obtain ⟨s4, es4, h⟩ := sbnd h
  refine PW.sbe es4 ?_
  clear es4
  cases h
  subst hx
  exact PW.vret dX3_closeClause_25 rfl (Nat.le_refl 0) (Nat.le_refl 0)
/-! X3_add -/
def f_X3_add (T : Nat) (a0 : Int32) (a1 : Int32) (s : cS) : (Unit × cS) :=
  sb (pA s (T + 1) 160 (iG s T 7) ((a0 <<< ((20 : Int32) &&& 31)) ||| a1)) fun s2 =>
  sb (iS s2 T 7 ((iG s2 T 7) + (1 : Int32))) fun s4 =>
  ((), s4)
set_option maxRecDepth 20000 in
set_option maxHeartbeats 4000000 in
theorem p_X3_add {g : pG} {l : Launch} {T : Nat} {a0 : Int32} {a1 : Int32} {s : cS} {q : Unit × cS} (hT : kd T 3) (h : f_X3_add T a0 a1 s = q) : PM g l 2 M_X3_add [.ref T, .int a0, .int a1] (tS s) none (tS q.2) 0 0 := by
  refine PM.of (by decide +kernel) (Nat.le_of_ble_eq_true rfl) ?_
  show PW g l (pRoom 2 0 0) M_X3_add _ 0 [(0, .ref T), (1, .int a0), (2, .int a1)] [] (tS s) 0 0
  unfold f_X3_add at h
  generalize hF : pE g none (tS q.2) 0 0 = F
  have hx := hF.symm
  refine PW.aload_n 0 0 dX3_add_0 rfl rfl rfl ?_
  refine CW.getr dX3_add_1 fL_X3_9 hT (Or.inr ⟨_, rfl⟩) (kr_3_0 hT _) ?_
  refine PW.aload_n 0 0 dX3_add_4 rfl rfl rfl ?_
  refine CW.geti dX3_add_5 fL_X3_38 hT (Or.inl rfl) ?_
  refine PW.iload_n 1 1 dX3_add_8 rfl rfl ?_
  refine PW.bipush (v := 20) dX3_add_9 (by decide) ?_
  refine PW.ishl dX3_add_11 ?_
  refine PW.iload_n 2 2 dX3_add_12 rfl rfl ?_
  refine PW.ior dX3_add_13 ?_
  obtain ⟨s2, q3, h⟩ := sbnd h
  refine CW.callSNv (st := []) [.ref (T + 1), .int (iG s T 7), .int ((a0 <<< ((20 : Int32) &&& 31)) ||| a1)] dX3_add_14 (ps_put (ka_3_1 hT) q3) MS_X11_put mN_X3_41 rfl rfl (Nat.le_of_ble_eq_true rfl) (by first | decide | omega) ?_
  refine PW.aload_n 0 0 dX3_add_17 rfl rfl rfl ?_
  refine PW.dup dX3_add_18 rfl ?_
  refine CW.geti dX3_add_19 fL_X3_38 hT (Or.inl rfl) ?_
  refine PW.iconst (v := 1) dX3_add_22 (by decide) ?_
  refine PW.iadd dX3_add_23 ?_
  refine CW.puti dX3_add_24 fL_X3_38 rfl hT rfl ?_
  obtain ⟨s4, es4, h⟩ := sbnd h
  refine PW.sbe es4 ?_
  clear es4
  cases h
  subst hx
  exact PW.vret dX3_add_27 rfl (Nat.le_refl 0) (Nat.le_refl 0)
/-! X3_addLetter -/
def f_X3_addLetter (T : Nat) (a0 : Int32) (s : cS) : (Unit × cS) :=
  sb (iS s T 9 ((iG s T 9) ||| ((1 : Int32) <<< (a0 &&& 31)))) fun s1 =>
  tb (f_X3_add T (2 : Int32) a0 s1) fun r2 s3 =>
  ((), s3)
set_option maxRecDepth 20000 in
set_option maxHeartbeats 4000000 in
theorem p_X3_addLetter {g : pG} {l : Launch} {T : Nat} {a0 : Int32} {s : cS} {q : Unit × cS} (hT : kd T 3) (h : f_X3_addLetter T a0 s = q) : PM g l 3 M_X3_addLetter [.ref T, .int a0] (tS s) none (tS q.2) 0 0 := by
  refine PM.of (by decide +kernel) (Nat.le_of_ble_eq_true rfl) ?_
  show PW g l (pRoom 3 0 0) M_X3_addLetter _ 0 [(0, .ref T), (1, .int a0)] [] (tS s) 0 0
  unfold f_X3_addLetter at h
  generalize hF : pE g none (tS q.2) 0 0 = F
  have hx := hF.symm
  refine PW.aload_n 0 0 dX3_addLetter_0 rfl rfl rfl ?_
  refine PW.dup dX3_addLetter_1 rfl ?_
  refine CW.geti dX3_addLetter_2 fL_X3_35 hT (Or.inl rfl) ?_
  refine PW.iconst (v := 1) dX3_addLetter_5 (by decide) ?_
  refine PW.iload_n 1 1 dX3_addLetter_6 rfl rfl ?_
  refine PW.ishl dX3_addLetter_7 ?_
  refine PW.ior dX3_addLetter_8 ?_
  refine CW.puti dX3_addLetter_9 fL_X3_35 rfl hT rfl ?_
  obtain ⟨s1, es1, h⟩ := sbnd h
  refine PW.sbe es1 ?_
  clear es1
  refine PW.aload_n 0 0 dX3_addLetter_12 rfl rfl rfl ?_
  refine PW.iconst (v := 2) dX3_addLetter_13 (by decide) ?_
  refine PW.iload_n 1 1 dX3_addLetter_14 rfl rfl ?_
  obtain ⟨r2, s3, q4, h⟩ := tbnd h
  refine CW.callVv (ci := 3) (st := []) [.int (2 : Int32), .int a0] dX3_addLetter_15 (p_X3_add hT q4) MV_X3_add mL_X3_47 (by decide) rfl hT rfl rfl (Nat.le_of_ble_eq_true rfl) (by first | decide | omega) ?_
  cases h
  subst hx
  exact PW.vret dX3_addLetter_18 rfl (Nat.le_refl 0) (Nat.le_refl 0)
/-! X3_addSkip -/
def f_X3_addSkip (T : Nat) (a0 : Int32) (a1 : Int32) (s : cS) : (Int32 × cS) :=
  tb (f_X3_add T a0 (a1 + (1 : Int32)) s) fun r1 s2 =>
  (((iG s2 T 7) - (1 : Int32)), s2)
set_option maxRecDepth 20000 in
set_option maxHeartbeats 4000000 in
theorem p_X3_addSkip {g : pG} {l : Launch} {T : Nat} {a0 : Int32} {a1 : Int32} {s : cS} {q : Int32 × cS} (hT : kd T 3) (h : f_X3_addSkip T a0 a1 s = q) : PM g l 3 M_X3_addSkip [.ref T, .int a0, .int a1] (tS s) (some (.int q.1)) (tS q.2) 0 0 := by
  refine PM.of (by decide +kernel) (Nat.le_of_ble_eq_true rfl) ?_
  show PW g l (pRoom 3 0 0) M_X3_addSkip _ 0 [(0, .ref T), (1, .int a0), (2, .int a1)] [] (tS s) 0 0
  unfold f_X3_addSkip at h
  generalize hF : pE g (some (.int q.1)) (tS q.2) 0 0 = F
  have hx := hF.symm
  refine PW.aload_n 0 0 dX3_addSkip_0 rfl rfl rfl ?_
  refine PW.iload_n 1 1 dX3_addSkip_1 rfl rfl ?_
  refine PW.iload_n 2 2 dX3_addSkip_2 rfl rfl ?_
  refine PW.iconst (v := 1) dX3_addSkip_3 (by decide) ?_
  refine PW.iadd dX3_addSkip_4 ?_
  obtain ⟨r1, s2, q3, h⟩ := tbnd h
  refine CW.callVv (ci := 3) (st := []) [.int a0, .int (a1 + (1 : Int32))] dX3_addSkip_5 (p_X3_add hT q3) MV_X3_add mL_X3_47 (by decide) rfl hT rfl rfl (Nat.le_of_ble_eq_true rfl) (by first | decide | omega) ?_
  refine PW.aload_n 0 0 dX3_addSkip_8 rfl rfl rfl ?_
  refine CW.geti dX3_addSkip_9 fL_X3_38 hT (Or.inl rfl) ?_
  refine PW.iconst (v := 1) dX3_addSkip_12 (by decide) ?_
  refine PW.isub dX3_addSkip_13 ?_
  cases h
  subst hx
  exact PW.iret (v := ((iG s2 T 7) - (1 : Int32))) dX3_addSkip_14 rfl rfl (Nat.le_refl 0) (Nat.le_refl 0)
/-! X3_endSkipsHere -/
def b_X3_endSkipsHere_4 (x0 : Nat) (x2 : Int32) (x3 : Int32) (s : cS) : Option (((Int32 × Int32) × cS) ⊕ (Unit × cS)) :=
  if (160 : Int32) ≤ x3 then
    oR (
      some (((), s)))
  else
    if x2 < 0 then
      oR (
        some (((), s)))
    else
      if (160 : Int32) ≤ x2 then
        oR (
          some (((), s)))
      else
        if inb x2 160 then
        sb (iS s (x0 + 1) x2.toNatClampNeg (((iG s (x0 + 1) x2.toNatClampNeg) &&& (-1048576 : Int32)) ||| (iG s x0 7))) fun s5 =>
        some (.inl (((((iG s (x0 + 1) x2.toNatClampNeg) &&& (1048575 : Int32)) - (1 : Int32)), (x3 + (1 : Int32))), s5))
        else none
set_option maxRecDepth 20000 in
set_option maxHeartbeats 4000000 in
theorem ok_b_X3_endSkipsHere_4 {g : pG} {l : Launch} {F : pF} {x0 : Nat} {x2 : Int32} {x3 : Int32} {s : cS} {x : (((Int32 × Int32) × cS) ⊕ (Unit × cS))} (hx0 : kd x0 3) (h : b_X3_endSkipsHere_4 x0 x2 x3 s = some x) (hx : (KL (fun (v : (Int32 × Int32) × cS) => PW g l (pRoom 1 0 0) M_X3_endSkipsHere F 4 [(0, .ref x0), (2, .int v.1.1), (3, .int v.1.2)] [] (tS v.2) 0 0) (fun q => F = pE g none (tS q.2) 0 0)) x) : PW g l (pRoom 1 0 0) M_X3_endSkipsHere F 4 [(0, .ref x0), (2, .int x2), (3, .int x3)] [] (tS s) 0 0 := by
  unfold b_X3_endSkipsHere_4 at h
  refine PW.iload_n 2 3 dX3_endSkipsHere_4 rfl rfl ?_
  refine PW.aload_n 0 0 dX3_endSkipsHere_5 rfl rfl rfl ?_
  refine CW.getr dX3_endSkipsHere_6 fL_X3_9 hx0 (Or.inr ⟨_, rfl⟩) (kr_3_0 hx0 _) ?_
  refine CW.alen (v := 160) dX3_endSkipsHere_9 (ka_3_1 hx0) (by decide) rfl ?_
  refine PW.icmp_ge (tgt := 68) dX3_endSkipsHere_10 (by decide) (fun c1 => ?_) (fun c1 => ?_)
  · replace h := ifp h c1
    obtain ⟨xo, hy, hxo⟩ := oRb h
    clear h
    subst hxo
    replace hx := KLr hx
    have h := hy
    clear hy
    cases h
    subst hx
    exact PW.vret dX3_endSkipsHere_68 rfl (Nat.le_refl 0) (Nat.le_refl 0)
  · replace h := ifn h c1
    refine PW.iload_n 1 2 dX3_endSkipsHere_13 rfl rfl ?_
    refine PW.if_lt (tgt := 68) dX3_endSkipsHere_14 (by decide) (fun c2 => ?_) (fun c2 => ?_)
    · replace h := ifp h c2
      obtain ⟨xo, hy, hxo⟩ := oRb h
      clear h
      subst hxo
      replace hx := KLr hx
      have h := hy
      clear hy
      cases h
      subst hx
      exact PW.vret dX3_endSkipsHere_68 rfl (Nat.le_refl 0) (Nat.le_refl 0)
    · replace h := ifn h c2
      refine PW.iload_n 1 2 dX3_endSkipsHere_17 rfl rfl ?_
      refine PW.aload_n 0 0 dX3_endSkipsHere_18 rfl rfl rfl ?_
      refine CW.getr dX3_endSkipsHere_19 fL_X3_9 hx0 (Or.inr ⟨_, rfl⟩) (kr_3_0 hx0 _) ?_
      refine CW.alen (v := 160) dX3_endSkipsHere_22 (ka_3_1 hx0) (by decide) rfl ?_
      refine PW.icmp_ge (tgt := 68) dX3_endSkipsHere_23 (by decide) (fun c3 => ?_) (fun c3 => ?_)
      · replace h := ifp h c3
        obtain ⟨xo, hy, hxo⟩ := oRb h
        clear h
        subst hxo
        replace hx := KLr hx
        have h := hy
        clear hy
        cases h
        subst hx
        exact PW.vret dX3_endSkipsHere_68 rfl (Nat.le_refl 0) (Nat.le_refl 0)
      · replace h := ifn h c3
        refine PW.aload_n 0 0 dX3_endSkipsHere_26 rfl rfl rfl ?_
        refine CW.getr dX3_endSkipsHere_27 fL_X3_9 hx0 (Or.inr ⟨_, rfl⟩) (kr_3_0 hx0 _) ?_
        refine PW.iload_n 1 2 dX3_endSkipsHere_30 rfl rfl ?_
        by_cases c4 : inb x2 160
        rotate_left
        · have h := ifn h c4; cases h
        replace h := ifp h c4
        refine CW.iald dX3_endSkipsHere_31 (ka_3_1 hx0) c4 ?_
        refine PW.ldc dX3_endSkipsHere_32 kL_X3_51 ?_
        refine PW.iand dX3_endSkipsHere_34 ?_
        refine PW.iconst (v := 1) dX3_endSkipsHere_35 (by decide) ?_
        refine PW.isub dX3_endSkipsHere_36 ?_
        refine PW.istore dX3_endSkipsHere_37 (Nat.le_of_ble_eq_true rfl) rfl ?_
        refine PW.aload_n 1 0 dX3_endSkipsHere_39 rfl rfl rfl ?_
        refine CW.getr dX3_endSkipsHere_40 fL_X3_9 hx0 (Or.inr ⟨_, rfl⟩) (kr_3_0 hx0 _) ?_
        refine PW.iload_n 2 2 dX3_endSkipsHere_43 rfl rfl ?_
        refine PW.aload_n 1 0 dX3_endSkipsHere_44 rfl rfl rfl ?_
        refine CW.getr dX3_endSkipsHere_45 fL_X3_9 hx0 (Or.inr ⟨_, rfl⟩) (kr_3_0 hx0 _) ?_
        refine PW.iload_n 2 2 dX3_endSkipsHere_48 rfl rfl ?_
        refine CW.iald dX3_endSkipsHere_49 (ka_3_1 hx0) c4 ?_
        refine PW.ldc dX3_endSkipsHere_50 kL_X3_52 ?_
        refine PW.iand dX3_endSkipsHere_52 ?_
        refine PW.aload_n 1 0 dX3_endSkipsHere_53 rfl rfl rfl ?_
        refine CW.geti dX3_endSkipsHere_54 fL_X3_38 hx0 (Or.inl rfl) ?_
        refine PW.ior dX3_endSkipsHere_57 ?_
        refine CW.iast dX3_endSkipsHere_58 (ka_3_1 hx0) c4 ?_
        obtain ⟨s5, es5, h⟩ := sbnd h
        refine PW.sbe es5 ?_
        clear es5
        refine PW.iload 0 dX3_endSkipsHere_59 rfl ?_
        refine PW.istore_n dX3_endSkipsHere_61 rfl (Nat.le_of_ble_eq_true rfl) rfl ?_
        refine PW.iinc (v := (x3 + (1 : Int32))) 3 dX3_endSkipsHere_62 rfl (by first | rfl | decide) (Nat.le_of_ble_eq_true rfl) rfl ?_
        refine PW.goto (tgt := 4) dX3_endSkipsHere_65 (by decide) ?_
        cases h
        exact PW.pick [3, 1, 0] rfl hx
def w_X3_endSkipsHere_4 (N : Nat) (x0 : Nat) (x2 : Int32) (x3 : Int32) (s : cS) : Option (Unit × cS) := itr (fun (v : (Int32 × Int32) × cS) => b_X3_endSkipsHere_4 x0 v.1.1 v.1.2 v.2) N ((x2, x3), s)
theorem ok_w_X3_endSkipsHere_4 {g : pG} {l : Launch} {F : pF} {N : Nat} {x0 : Nat} {x2 : Int32} {x3 : Int32} {s : cS} {x : (Unit × cS)} (hx0 : kd x0 3) (h : w_X3_endSkipsHere_4 N x0 x2 x3 s = some x) (hx : (fun q => F = pE g none (tS q.2) 0 0) x) : PW g l (pRoom 1 0 0) M_X3_endSkipsHere F 4 [(0, .ref x0), (2, .int x2), (3, .int x3)] [] (tS s) 0 0 :=
  okIter (P := (fun (v : (Int32 × Int32) × cS) => PW g l (pRoom 1 0 0) M_X3_endSkipsHere F 4 [(0, .ref x0), (2, .int v.1.1), (3, .int v.1.2)] [] (tS v.2) 0 0)) (K := (fun q => F = pE g none (tS q.2) 0 0)) (fun v y hB hy => ok_b_X3_endSkipsHere_4 hx0 hB hy) N ((x2, x3), s) x h hx
def f_X3_endSkipsHere (N : Nat) (T : Nat) (a0 : Int32) (s : cS) : Option (Unit × cS) :=
  w_X3_endSkipsHere_4 N T a0 (0 : Int32) s
set_option maxRecDepth 20000 in
set_option maxHeartbeats 4000000 in
theorem p_X3_endSkipsHere {g : pG} {l : Launch} {N : Nat} {T : Nat} {a0 : Int32} {s : cS} {q : Unit × cS} (hT : kd T 3) (h : f_X3_endSkipsHere N T a0 s = some q) : PM g l 1 M_X3_endSkipsHere [.ref T, .int a0] (tS s) none (tS q.2) 0 0 := by
  refine PM.of (by decide +kernel) (Nat.le_of_ble_eq_true rfl) ?_
  show PW g l (pRoom 1 0 0) M_X3_endSkipsHere _ 0 [(0, .ref T), (1, .int a0)] [] (tS s) 0 0
  unfold f_X3_endSkipsHere at h
  generalize hF : pE g none (tS q.2) 0 0 = F
  have hx := hF.symm
  refine PW.iload_n 1 1 dX3_endSkipsHere_0 rfl rfl ?_
  refine PW.istore_n dX3_endSkipsHere_1 rfl (Nat.le_of_ble_eq_true rfl) rfl ?_
  refine PW.iconst (v := 0) dX3_endSkipsHere_2 (by decide) ?_
  refine PW.istore_n dX3_endSkipsHere_3 rfl (Nat.le_of_ble_eq_true rfl) rfl ?_
  exact PW.pick [2, 1, 0] rfl (ok_w_X3_endSkipsHere_4 hT h hx)
/-! X3_setCorner -/
def f_X3_setCorner (T : Nat) (a0 : Int32) (a1 : Int32) (a2 : Int32) (a3 : Int32) (s : cS) : (Unit × cS) :=
  sb (iS s (T + 6) 1 a0) fun s1 =>
  sb (iS s1 (T + 6) 2 a1) fun s2 =>
  sb (iS s2 (T + 6) 3 a2) fun s3 =>
  sb (iS s3 (T + 6) 4 a3) fun s4 =>
  ((), s4)
set_option maxRecDepth 20000 in
set_option maxHeartbeats 4000000 in
theorem p_X3_setCorner {g : pG} {l : Launch} {T : Nat} {a0 : Int32} {a1 : Int32} {a2 : Int32} {a3 : Int32} {s : cS} {q : Unit × cS} (hT : kd T 3) (h : f_X3_setCorner T a0 a1 a2 a3 s = q) : PM g l 1 M_X3_setCorner [.ref T, .int a0, .int a1, .int a2, .int a3] (tS s) none (tS q.2) 0 0 := by
  refine PM.of (by decide +kernel) (Nat.le_of_ble_eq_true rfl) ?_
  show PW g l (pRoom 1 0 0) M_X3_setCorner _ 0 [(0, .ref T), (1, .int a0), (2, .int a1), (3, .int a2), (4, .int a3)] [] (tS s) 0 0
  unfold f_X3_setCorner at h
  generalize hF : pE g none (tS q.2) 0 0 = F
  have hx := hF.symm
  refine PW.aload_n 0 0 dX3_setCorner_0 rfl rfl rfl ?_
  refine CW.getr dX3_setCorner_1 fL_X3_25 hT (Or.inr ⟨_, rfl⟩) (kr_3_5 hT _) ?_
  refine PW.iconst (v := 1) dX3_setCorner_4 (by decide) ?_
  refine PW.iload_n 1 1 dX3_setCorner_5 rfl rfl ?_
  refine CW.iast dX3_setCorner_6 (ka_3_6 hT) (by decide) ?_
  obtain ⟨s1, es1, h⟩ := sbnd h
  refine PW.sbe es1 ?_
  clear es1
  refine PW.aload_n 0 0 dX3_setCorner_7 rfl rfl rfl ?_
  refine CW.getr dX3_setCorner_8 fL_X3_25 hT (Or.inr ⟨_, rfl⟩) (kr_3_5 hT _) ?_
  refine PW.iconst (v := 2) dX3_setCorner_11 (by decide) ?_
  refine PW.iload_n 2 2 dX3_setCorner_12 rfl rfl ?_
  refine CW.iast dX3_setCorner_13 (ka_3_6 hT) (by decide) ?_
  obtain ⟨s2, es2, h⟩ := sbnd h
  refine PW.sbe es2 ?_
  clear es2
  refine PW.aload_n 0 0 dX3_setCorner_14 rfl rfl rfl ?_
  refine CW.getr dX3_setCorner_15 fL_X3_25 hT (Or.inr ⟨_, rfl⟩) (kr_3_5 hT _) ?_
  refine PW.iconst (v := 3) dX3_setCorner_18 (by decide) ?_
  refine PW.iload_n 3 3 dX3_setCorner_19 rfl rfl ?_
  refine CW.iast dX3_setCorner_20 (ka_3_6 hT) (by decide) ?_
  obtain ⟨s3, es3, h⟩ := sbnd h
  refine PW.sbe es3 ?_
  clear es3
  refine PW.aload_n 0 0 dX3_setCorner_21 rfl rfl rfl ?_
  refine CW.getr dX3_setCorner_22 fL_X3_25 hT (Or.inr ⟨_, rfl⟩) (kr_3_5 hT _) ?_
  refine PW.iconst (v := 4) dX3_setCorner_25 (by decide) ?_
  refine PW.iload 4 dX3_setCorner_26 rfl ?_
  refine CW.iast dX3_setCorner_28 (ka_3_6 hT) (by decide) ?_
  obtain ⟨s4, es4, h⟩ := sbnd h
  refine PW.sbe es4 ?_
  clear es4
  cases h
  subst hx
  exact PW.vret dX3_setCorner_29 rfl (Nat.le_refl 0) (Nat.le_refl 0)
/-! X3_setState -/
def f_X3_setState (T : Nat) (a0 : Int32) (a1 : Int32) (a2 : Int32) (a3 : Int32) (a4 : Int32) (s : cS) : (Unit × cS) :=
  sb (iS s (T + 6) 0 a0) fun s1 =>
  sb (iS s1 (T + 6) 5 a1) fun s2 =>
  sb (iS s2 (T + 6) 6 (0 : Int32)) fun s3 =>
  sb (iS s3 (T + 6) 7 a2) fun s4 =>
  sb (iS s4 (T + 6) 8 a3) fun s5 =>
  sb (iS s5 (T + 6) 9 a4) fun s6 =>
  ((), s6)
set_option maxRecDepth 20000 in
set_option maxHeartbeats 4000000 in
theorem p_X3_setState {g : pG} {l : Launch} {T : Nat} {a0 : Int32} {a1 : Int32} {a2 : Int32} {a3 : Int32} {a4 : Int32} {s : cS} {q : Unit × cS} (hT : kd T 3) (h : f_X3_setState T a0 a1 a2 a3 a4 s = q) : PM g l 1 M_X3_setState [.ref T, .int a0, .int a1, .int a2, .int a3, .int a4] (tS s) none (tS q.2) 0 0 := by
  refine PM.of (by decide +kernel) (Nat.le_of_ble_eq_true rfl) ?_
  show PW g l (pRoom 1 0 0) M_X3_setState _ 0 [(0, .ref T), (1, .int a0), (2, .int a1), (3, .int a2), (4, .int a3), (5, .int a4)] [] (tS s) 0 0
  unfold f_X3_setState at h
  generalize hF : pE g none (tS q.2) 0 0 = F
  have hx := hF.symm
  refine PW.aload_n 0 0 dX3_setState_0 rfl rfl rfl ?_
  refine CW.getr dX3_setState_1 fL_X3_25 hT (Or.inr ⟨_, rfl⟩) (kr_3_5 hT _) ?_
  refine PW.iconst (v := 0) dX3_setState_4 (by decide) ?_
  refine PW.iload_n 1 1 dX3_setState_5 rfl rfl ?_
  refine CW.iast dX3_setState_6 (ka_3_6 hT) (by decide) ?_
  obtain ⟨s1, es1, h⟩ := sbnd h
  refine PW.sbe es1 ?_
  clear es1
  refine PW.aload_n 0 0 dX3_setState_7 rfl rfl rfl ?_
  refine CW.getr dX3_setState_8 fL_X3_25 hT (Or.inr ⟨_, rfl⟩) (kr_3_5 hT _) ?_
  refine PW.iconst (v := 5) dX3_setState_11 (by decide) ?_
  refine PW.iload_n 2 2 dX3_setState_12 rfl rfl ?_
  refine CW.iast dX3_setState_13 (ka_3_6 hT) (by decide) ?_
  obtain ⟨s2, es2, h⟩ := sbnd h
  refine PW.sbe es2 ?_
  clear es2
  refine PW.aload_n 0 0 dX3_setState_14 rfl rfl rfl ?_
  refine CW.getr dX3_setState_15 fL_X3_25 hT (Or.inr ⟨_, rfl⟩) (kr_3_5 hT _) ?_
  refine PW.bipush (v := 6) dX3_setState_18 (by decide) ?_
  refine PW.iconst (v := 0) dX3_setState_20 (by decide) ?_
  refine CW.iast dX3_setState_21 (ka_3_6 hT) (by decide) ?_
  obtain ⟨s3, es3, h⟩ := sbnd h
  refine PW.sbe es3 ?_
  clear es3
  refine PW.aload_n 0 0 dX3_setState_22 rfl rfl rfl ?_
  refine CW.getr dX3_setState_23 fL_X3_25 hT (Or.inr ⟨_, rfl⟩) (kr_3_5 hT _) ?_
  refine PW.bipush (v := 7) dX3_setState_26 (by decide) ?_
  refine PW.iload_n 3 3 dX3_setState_28 rfl rfl ?_
  refine CW.iast dX3_setState_29 (ka_3_6 hT) (by decide) ?_
  obtain ⟨s4, es4, h⟩ := sbnd h
  refine PW.sbe es4 ?_
  clear es4
  refine PW.aload_n 0 0 dX3_setState_30 rfl rfl rfl ?_
  refine CW.getr dX3_setState_31 fL_X3_25 hT (Or.inr ⟨_, rfl⟩) (kr_3_5 hT _) ?_
  refine PW.bipush (v := 8) dX3_setState_34 (by decide) ?_
  refine PW.iload 4 dX3_setState_36 rfl ?_
  refine CW.iast dX3_setState_38 (ka_3_6 hT) (by decide) ?_
  obtain ⟨s5, es5, h⟩ := sbnd h
  refine PW.sbe es5 ?_
  clear es5
  refine PW.aload_n 0 0 dX3_setState_39 rfl rfl rfl ?_
  refine CW.getr dX3_setState_40 fL_X3_25 hT (Or.inr ⟨_, rfl⟩) (kr_3_5 hT _) ?_
  refine PW.bipush (v := 9) dX3_setState_43 (by decide) ?_
  refine PW.iload 5 dX3_setState_45 rfl ?_
  refine CW.iast dX3_setState_47 (ka_3_6 hT) (by decide) ?_
  obtain ⟨s6, es6, h⟩ := sbnd h
  refine PW.sbe es6 ?_
  clear es6
  cases h
  subst hx
  exact PW.vret dX3_setState_48 rfl (Nat.le_refl 0) (Nat.le_refl 0)
/-! X3_setPulled -/
def f_X3_setPulled (T : Nat) (a0 : Int32) (s : cS) : (Unit × cS) :=
  sb (iS s (T + 6) 6 a0) fun s1 =>
  ((), s1)
set_option maxRecDepth 20000 in
set_option maxHeartbeats 4000000 in
theorem p_X3_setPulled {g : pG} {l : Launch} {T : Nat} {a0 : Int32} {s : cS} {q : Unit × cS} (hT : kd T 3) (h : f_X3_setPulled T a0 s = q) : PM g l 1 M_X3_setPulled [.ref T, .int a0] (tS s) none (tS q.2) 0 0 := by
  refine PM.of (by decide +kernel) (Nat.le_of_ble_eq_true rfl) ?_
  show PW g l (pRoom 1 0 0) M_X3_setPulled _ 0 [(0, .ref T), (1, .int a0)] [] (tS s) 0 0
  unfold f_X3_setPulled at h
  generalize hF : pE g none (tS q.2) 0 0 = F
  have hx := hF.symm
  refine PW.aload_n 0 0 dX3_setPulled_0 rfl rfl rfl ?_
  refine CW.getr dX3_setPulled_1 fL_X3_25 hT (Or.inr ⟨_, rfl⟩) (kr_3_5 hT _) ?_
  refine PW.bipush (v := 6) dX3_setPulled_4 (by decide) ?_
  refine PW.iload_n 1 1 dX3_setPulled_6 rfl rfl ?_
  refine CW.iast dX3_setPulled_7 (ka_3_6 hT) (by decide) ?_
  obtain ⟨s1, es1, h⟩ := sbnd h
  refine PW.sbe es1 ?_
  clear es1
  cases h
  subst hx
  exact PW.vret dX3_setPulled_8 rfl (Nat.le_refl 0) (Nat.le_refl 0)
/-! X3_push -/
def f_X3_push (T : Nat) (a0 : Int32) (s : cS) : Option (Unit × cS) :=
  if (iG s T 10) < 0 then
    sb (iS s T 12 (1 : Int32)) fun s2 =>
    some (((), s2))
  else
    if (40 : Int32) ≤ (iG s T 10) then
      sb (iS s T 12 (1 : Int32)) fun s4 =>
      some (((), s4))
    else
      if inb (iG s T 10) 40 then
      sb (iS s (T + 7) (iG s T 10).toNatClampNeg a0) fun s6 =>
      sb (iS s6 T 10 ((iG s6 T 10) + (1 : Int32))) fun s7 =>
      some (((), s7))
      else none
set_option maxRecDepth 20000 in
set_option maxHeartbeats 4000000 in
theorem p_X3_push {g : pG} {l : Launch} {T : Nat} {a0 : Int32} {s : cS} {q : Unit × cS} (hT : kd T 3) (h : f_X3_push T a0 s = some q) : PM g l 1 M_X3_push [.ref T, .int a0] (tS s) none (tS q.2) 0 0 := by
  refine PM.of (by decide +kernel) (Nat.le_of_ble_eq_true rfl) ?_
  show PW g l (pRoom 1 0 0) M_X3_push _ 0 [(0, .ref T), (1, .int a0)] [] (tS s) 0 0
  unfold f_X3_push at h
  generalize hF : pE g none (tS q.2) 0 0 = F
  have hx := hF.symm
  refine PW.aload_n 0 0 dX3_push_0 rfl rfl rfl ?_
  refine CW.geti dX3_push_1 fL_X3_72 hT (Or.inl rfl) ?_
  refine PW.if_lt (tgt := 42) dX3_push_4 (by decide) (fun c1 => ?_) (fun c1 => ?_)
  · replace h := ifp h c1
    refine PW.aload_n 0 0 dX3_push_42 rfl rfl rfl ?_
    refine PW.iconst (v := 1) dX3_push_43 (by decide) ?_
    refine CW.putz dX3_push_44 fL_X3_60 rfl hT rfl (Or.inr rfl) ?_
    obtain ⟨s2, es2, h⟩ := sbnd h
    refine PW.sbe es2 ?_
    clear es2
    cases h
    subst hx
    exact PW.vret dX3_push_47 rfl (Nat.le_refl 0) (Nat.le_refl 0)
  · replace h := ifn h c1
    refine PW.aload_n 0 0 dX3_push_7 rfl rfl rfl ?_
    refine CW.geti dX3_push_8 fL_X3_72 hT (Or.inl rfl) ?_
    refine PW.aload_n 0 0 dX3_push_11 rfl rfl rfl ?_
    refine CW.getr dX3_push_12 fL_X3_28 hT (Or.inr ⟨_, rfl⟩) (kr_3_6 hT _) ?_
    refine CW.alen (v := 40) dX3_push_15 (ka_3_7 hT) (by decide) rfl ?_
    refine PW.icmp_ge (tgt := 42) dX3_push_16 (by decide) (fun c3 => ?_) (fun c3 => ?_)
    · replace h := ifp h c3
      refine PW.aload_n 0 0 dX3_push_42 rfl rfl rfl ?_
      refine PW.iconst (v := 1) dX3_push_43 (by decide) ?_
      refine CW.putz dX3_push_44 fL_X3_60 rfl hT rfl (Or.inr rfl) ?_
      obtain ⟨s4, es4, h⟩ := sbnd h
      refine PW.sbe es4 ?_
      clear es4
      cases h
      subst hx
      exact PW.vret dX3_push_47 rfl (Nat.le_refl 0) (Nat.le_refl 0)
    · replace h := ifn h c3
      refine PW.aload_n 0 0 dX3_push_19 rfl rfl rfl ?_
      refine CW.getr dX3_push_20 fL_X3_28 hT (Or.inr ⟨_, rfl⟩) (kr_3_6 hT _) ?_
      refine PW.aload_n 0 0 dX3_push_23 rfl rfl rfl ?_
      refine CW.geti dX3_push_24 fL_X3_72 hT (Or.inl rfl) ?_
      refine PW.iload_n 1 1 dX3_push_27 rfl rfl ?_
      by_cases c5 : inb (iG s T 10) 40
      rotate_left
      · have h := ifn h c5; cases h
      replace h := ifp h c5
      refine CW.iast dX3_push_28 (ka_3_7 hT) c5 ?_
      obtain ⟨s6, es6, h⟩ := sbnd h
      refine PW.sbe es6 ?_
      clear es6
      refine PW.aload_n 0 0 dX3_push_29 rfl rfl rfl ?_
      refine PW.dup dX3_push_30 rfl ?_
      refine CW.geti dX3_push_31 fL_X3_72 hT (Or.inl rfl) ?_
      refine PW.iconst (v := 1) dX3_push_34 (by decide) ?_
      refine PW.iadd dX3_push_35 ?_
      refine CW.puti dX3_push_36 fL_X3_72 rfl hT rfl ?_
      obtain ⟨s7, es7, h⟩ := sbnd h
      refine PW.sbe es7 ?_
      clear es7
      refine PW.goto (tgt := 47) dX3_push_39 (by decide) ?_
      cases h
      subst hx
      exact PW.vret dX3_push_47 rfl (Nat.le_refl 0) (Nat.le_refl 0)
/-! X3_reckon -/
def j_X3_reckon_278 (x0 : Nat) (y0 : Nat) (y1 : Int32) (s : cS) : Option (Unit × cS) :=
  if y1 = 0 ∨ y1 = 1 then
  sb (iS s y0 11 y1) fun s15 =>
  sb (iS s15 x0 10 ((iG s15 x0 10) - (1 : Int32))) fun s16 =>
  some (((), s16))
  else none
set_option maxRecDepth 20000 in
set_option maxHeartbeats 4000000 in
theorem ok_j_X3_reckon_278 {g : pG} {l : Launch} {F : pF} {x0 : Nat} {y0 : Nat} {y1 : Int32} {s : cS} {x : (Unit × cS)} (hx0 : kd x0 3) (hy0 : kd y0 3) (h : j_X3_reckon_278 x0 y0 y1 s = some x) (hx : (fun q => F = pE g none (tS q.2) 0 0) x) : PW g l (pRoom 1 0 0) M_X3_reckon F 278 [(0, .ref x0)] [.int y1, .ref y0] (tS s) 0 0 := by
  unfold j_X3_reckon_278 at h
  by_cases c14 : y1 = 0 ∨ y1 = 1
  rotate_left
  · have h := ifn h c14; cases h
  replace h := ifp h c14
  refine CW.putz dX3_reckon_278 fL_X3_56 rfl hy0 rfl c14 ?_
  obtain ⟨s15, es15, h⟩ := sbnd h
  refine PW.sbe es15 ?_
  clear es15
  refine PW.aload_n 0 0 dX3_reckon_281 rfl rfl rfl ?_
  refine PW.dup dX3_reckon_282 rfl ?_
  refine CW.geti dX3_reckon_283 fL_X3_72 hx0 (Or.inl rfl) ?_
  refine PW.iconst (v := 1) dX3_reckon_286 (by decide) ?_
  refine PW.isub dX3_reckon_287 ?_
  refine CW.puti dX3_reckon_288 fL_X3_72 rfl hx0 rfl ?_
  obtain ⟨s16, es16, h⟩ := sbnd h
  refine PW.sbe es16 ?_
  clear es16
  cases h
  subst hx
  exact PW.vret dX3_reckon_291 rfl (Nat.le_refl 0) (Nat.le_refl 0)
def j_X3_reckon_52 (x0 : Nat) (x1 : Int32) (s : cS) : Option (Unit × cS) :=
  if inb ((iG s x0 10) - (1 : Int32)) 40 then
  if inb ((iG s x0 10) - (2 : Int32)) 40 then
  sb (iS s x0 10 ((iG s x0 10) - (1 : Int32))) fun s10 =>
  if x1 = 37 then
    if (iG s (x0 + 7) ((iG s x0 10) - (1 : Int32)).toNatClampNeg) = 0 then none else
    if inb ((iG s10 x0 10) - (1 : Int32)) 40 then
    sb (iS s10 (x0 + 7) ((iG s10 x0 10) - (1 : Int32)).toNatClampNeg ((iG s (x0 + 7) ((iG s x0 10) - (2 : Int32)).toNatClampNeg) - (iG s (x0 + 7) ((iG s x0 10) - (2 : Int32)).toNatClampNeg) / (iG s (x0 + 7) ((iG s x0 10) - (1 : Int32)).toNatClampNeg) * (iG s (x0 + 7) ((iG s x0 10) - (1 : Int32)).toNatClampNeg))) fun s21 =>
    some (((), s21))
    else none
  else
  if x1 = 42 then
    if inb ((iG s10 x0 10) - (1 : Int32)) 40 then
    sb (iS s10 (x0 + 7) ((iG s10 x0 10) - (1 : Int32)).toNatClampNeg ((iG s (x0 + 7) ((iG s x0 10) - (2 : Int32)).toNatClampNeg) * (iG s (x0 + 7) ((iG s x0 10) - (1 : Int32)).toNatClampNeg))) fun s23 =>
    some (((), s23))
    else none
  else
  if x1 = 43 then
    if inb ((iG s10 x0 10) - (1 : Int32)) 40 then
    sb (iS s10 (x0 + 7) ((iG s10 x0 10) - (1 : Int32)).toNatClampNeg ((iG s (x0 + 7) ((iG s x0 10) - (2 : Int32)).toNatClampNeg) + (iG s (x0 + 7) ((iG s x0 10) - (1 : Int32)).toNatClampNeg))) fun s25 =>
    some (((), s25))
    else none
  else
  if x1 = 45 then
    if inb ((iG s10 x0 10) - (1 : Int32)) 40 then
    sb (iS s10 (x0 + 7) ((iG s10 x0 10) - (1 : Int32)).toNatClampNeg ((iG s (x0 + 7) ((iG s x0 10) - (2 : Int32)).toNatClampNeg) - (iG s (x0 + 7) ((iG s x0 10) - (1 : Int32)).toNatClampNeg))) fun s27 =>
    some (((), s27))
    else none
  else
  if x1 = 47 then
    if (iG s (x0 + 7) ((iG s x0 10) - (1 : Int32)).toNatClampNeg) = 0 then none else
    if inb ((iG s10 x0 10) - (1 : Int32)) 40 then
    sb (iS s10 (x0 + 7) ((iG s10 x0 10) - (1 : Int32)).toNatClampNeg ((iG s (x0 + 7) ((iG s x0 10) - (2 : Int32)).toNatClampNeg) / (iG s (x0 + 7) ((iG s x0 10) - (1 : Int32)).toNatClampNeg))) fun s30 =>
    some (((), s30))
    else none
  else
  if x1 = (60 : Int32) then
    if (iG s (x0 + 7) ((iG s x0 10) - (1 : Int32)).toNatClampNeg) ≤ (iG s (x0 + 7) ((iG s x0 10) - (2 : Int32)).toNatClampNeg) then
      j_X3_reckon_278 x0 x0 (0 : Int32) s10
    else
      j_X3_reckon_278 x0 x0 (1 : Int32) s10
  else
    if x1 = (62 : Int32) then
      if (iG s (x0 + 7) ((iG s x0 10) - (2 : Int32)).toNatClampNeg) ≤ (iG s (x0 + 7) ((iG s x0 10) - (1 : Int32)).toNatClampNeg) then
        j_X3_reckon_278 x0 x0 (0 : Int32) s10
      else
        j_X3_reckon_278 x0 x0 (1 : Int32) s10
    else
      if (iG s (x0 + 7) ((iG s x0 10) - (2 : Int32)).toNatClampNeg) = (iG s (x0 + 7) ((iG s x0 10) - (1 : Int32)).toNatClampNeg) then
        j_X3_reckon_278 x0 x0 (1 : Int32) s10
      else
        j_X3_reckon_278 x0 x0 (0 : Int32) s10
  else none
  else none
set_option maxRecDepth 20000 in
set_option maxHeartbeats 4000000 in
theorem ok_j_X3_reckon_52 {g : pG} {l : Launch} {F : pF} {x0 : Nat} {x1 : Int32} {s : cS} {x : (Unit × cS)} (hx0 : kd x0 3) (h : j_X3_reckon_52 x0 x1 s = some x) (hx : (fun q => F = pE g none (tS q.2) 0 0) x) : PW g l (pRoom 1 0 0) M_X3_reckon F 52 [(0, .ref x0), (1, .int x1)] [] (tS s) 0 0 := by
  unfold j_X3_reckon_52 at h
  refine PW.aload_n 0 0 dX3_reckon_52 rfl rfl rfl ?_
  refine CW.getr dX3_reckon_53 fL_X3_28 hx0 (Or.inr ⟨_, rfl⟩) (kr_3_6 hx0 _) ?_
  refine PW.aload_n 0 0 dX3_reckon_56 rfl rfl rfl ?_
  refine CW.geti dX3_reckon_57 fL_X3_72 hx0 (Or.inl rfl) ?_
  refine PW.iconst (v := 1) dX3_reckon_60 (by decide) ?_
  refine PW.isub dX3_reckon_61 ?_
  by_cases c8 : inb ((iG s x0 10) - (1 : Int32)) 40
  rotate_left
  · have h := ifn h c8; cases h
  replace h := ifp h c8
  refine CW.iald dX3_reckon_62 (ka_3_7 hx0) c8 ?_
  refine PW.istore_n dX3_reckon_63 rfl (Nat.le_of_ble_eq_true rfl) rfl ?_
  refine PW.aload_n 1 0 dX3_reckon_64 rfl rfl rfl ?_
  refine CW.getr dX3_reckon_65 fL_X3_28 hx0 (Or.inr ⟨_, rfl⟩) (kr_3_6 hx0 _) ?_
  refine PW.aload_n 1 0 dX3_reckon_68 rfl rfl rfl ?_
  refine CW.geti dX3_reckon_69 fL_X3_72 hx0 (Or.inl rfl) ?_
  refine PW.iconst (v := 2) dX3_reckon_72 (by decide) ?_
  refine PW.isub dX3_reckon_73 ?_
  by_cases c9 : inb ((iG s x0 10) - (2 : Int32)) 40
  rotate_left
  · have h := ifn h c9; cases h
  replace h := ifp h c9
  refine CW.iald dX3_reckon_74 (ka_3_7 hx0) c9 ?_
  refine PW.istore_n dX3_reckon_75 rfl (Nat.le_of_ble_eq_true rfl) rfl ?_
  refine PW.aload_n 2 0 dX3_reckon_76 rfl rfl rfl ?_
  refine PW.dup dX3_reckon_77 rfl ?_
  refine CW.geti dX3_reckon_78 fL_X3_72 hx0 (Or.inl rfl) ?_
  refine PW.iconst (v := 1) dX3_reckon_81 (by decide) ?_
  refine PW.isub dX3_reckon_82 ?_
  refine CW.puti dX3_reckon_83 fL_X3_72 rfl hx0 rfl ?_
  obtain ⟨s10, es10, h⟩ := sbnd h
  refine PW.sbe es10 ?_
  clear es10
  refine PW.iload_n 3 1 dX3_reckon_86 rfl rfl ?_
  by_cases c31 : x1 = 37
  · replace h := ifp h c31
    refine PW.tswI (off := 125) (tgt := 212) dX3_reckon_87 (by rw [c31]; decide) (by rw [c31]; decide) (by rw [c31]; first | rfl | decide) (by decide) ?_
    refine PW.aload_n 2 0 dX3_reckon_212 rfl rfl rfl ?_
    refine CW.getr dX3_reckon_213 fL_X3_28 hx0 (Or.inr ⟨_, rfl⟩) (kr_3_6 hx0 _) ?_
    refine PW.aload_n 2 0 dX3_reckon_216 rfl rfl rfl ?_
    refine CW.geti dX3_reckon_217 fL_X3_72 hx0 (Or.inl rfl) ?_
    refine PW.iconst (v := 1) dX3_reckon_220 (by decide) ?_
    refine PW.isub dX3_reckon_221 ?_
    refine PW.iload_n 0 3 dX3_reckon_222 rfl rfl ?_
    refine PW.iload_n 1 2 dX3_reckon_223 rfl rfl ?_
    by_cases c19 : (iG s (x0 + 7) ((iG s x0 10) - (1 : Int32)).toNatClampNeg) = 0
    · have h := ifp h c19; cases h
    replace h := ifn h c19
    refine PW.irem dX3_reckon_224 c19 ?_
    by_cases c20 : inb ((iG s10 x0 10) - (1 : Int32)) 40
    rotate_left
    · have h := ifn h c20; cases h
    replace h := ifp h c20
    refine CW.iast dX3_reckon_225 (ka_3_7 hx0) c20 ?_
    obtain ⟨s21, es21, h⟩ := sbnd h
    refine PW.sbe es21 ?_
    clear es21
    refine PW.goto (tgt := 291) dX3_reckon_226 (by decide) ?_
    cases h
    subst hx
    exact PW.vret dX3_reckon_291 rfl (Nat.le_refl 0) (Nat.le_refl 0)
  replace h := ifn h c31
  by_cases c32 : x1 = 42
  · replace h := ifp h c32
    refine PW.tswI (off := 91) (tgt := 178) dX3_reckon_87 (by rw [c32]; decide) (by rw [c32]; decide) (by rw [c32]; first | rfl | decide) (by decide) ?_
    refine PW.aload_n 2 0 dX3_reckon_178 rfl rfl rfl ?_
    refine CW.getr dX3_reckon_179 fL_X3_28 hx0 (Or.inr ⟨_, rfl⟩) (kr_3_6 hx0 _) ?_
    refine PW.aload_n 2 0 dX3_reckon_182 rfl rfl rfl ?_
    refine CW.geti dX3_reckon_183 fL_X3_72 hx0 (Or.inl rfl) ?_
    refine PW.iconst (v := 1) dX3_reckon_186 (by decide) ?_
    refine PW.isub dX3_reckon_187 ?_
    refine PW.iload_n 0 3 dX3_reckon_188 rfl rfl ?_
    refine PW.iload_n 1 2 dX3_reckon_189 rfl rfl ?_
    refine PW.imul dX3_reckon_190 ?_
    by_cases c22 : inb ((iG s10 x0 10) - (1 : Int32)) 40
    rotate_left
    · have h := ifn h c22; cases h
    replace h := ifp h c22
    refine CW.iast dX3_reckon_191 (ka_3_7 hx0) c22 ?_
    obtain ⟨s23, es23, h⟩ := sbnd h
    refine PW.sbe es23 ?_
    clear es23
    refine PW.goto (tgt := 291) dX3_reckon_192 (by decide) ?_
    cases h
    subst hx
    exact PW.vret dX3_reckon_291 rfl (Nat.le_refl 0) (Nat.le_refl 0)
  replace h := ifn h c32
  by_cases c33 : x1 = 43
  · replace h := ifp h c33
    refine PW.tswI (off := 57) (tgt := 144) dX3_reckon_87 (by rw [c33]; decide) (by rw [c33]; decide) (by rw [c33]; first | rfl | decide) (by decide) ?_
    refine PW.aload_n 2 0 dX3_reckon_144 rfl rfl rfl ?_
    refine CW.getr dX3_reckon_145 fL_X3_28 hx0 (Or.inr ⟨_, rfl⟩) (kr_3_6 hx0 _) ?_
    refine PW.aload_n 2 0 dX3_reckon_148 rfl rfl rfl ?_
    refine CW.geti dX3_reckon_149 fL_X3_72 hx0 (Or.inl rfl) ?_
    refine PW.iconst (v := 1) dX3_reckon_152 (by decide) ?_
    refine PW.isub dX3_reckon_153 ?_
    refine PW.iload_n 0 3 dX3_reckon_154 rfl rfl ?_
    refine PW.iload_n 1 2 dX3_reckon_155 rfl rfl ?_
    refine PW.iadd dX3_reckon_156 ?_
    by_cases c24 : inb ((iG s10 x0 10) - (1 : Int32)) 40
    rotate_left
    · have h := ifn h c24; cases h
    replace h := ifp h c24
    refine CW.iast dX3_reckon_157 (ka_3_7 hx0) c24 ?_
    obtain ⟨s25, es25, h⟩ := sbnd h
    refine PW.sbe es25 ?_
    clear es25
    refine PW.goto (tgt := 291) dX3_reckon_158 (by decide) ?_
    cases h
    subst hx
    exact PW.vret dX3_reckon_291 rfl (Nat.le_refl 0) (Nat.le_refl 0)
  replace h := ifn h c33
  by_cases c34 : x1 = 45
  · replace h := ifp h c34
    refine PW.tswI (off := 74) (tgt := 161) dX3_reckon_87 (by rw [c34]; decide) (by rw [c34]; decide) (by rw [c34]; first | rfl | decide) (by decide) ?_
    refine PW.aload_n 2 0 dX3_reckon_161 rfl rfl rfl ?_
    refine CW.getr dX3_reckon_162 fL_X3_28 hx0 (Or.inr ⟨_, rfl⟩) (kr_3_6 hx0 _) ?_
    refine PW.aload_n 2 0 dX3_reckon_165 rfl rfl rfl ?_
    refine CW.geti dX3_reckon_166 fL_X3_72 hx0 (Or.inl rfl) ?_
    refine PW.iconst (v := 1) dX3_reckon_169 (by decide) ?_
    refine PW.isub dX3_reckon_170 ?_
    refine PW.iload_n 0 3 dX3_reckon_171 rfl rfl ?_
    refine PW.iload_n 1 2 dX3_reckon_172 rfl rfl ?_
    refine PW.isub dX3_reckon_173 ?_
    by_cases c26 : inb ((iG s10 x0 10) - (1 : Int32)) 40
    rotate_left
    · have h := ifn h c26; cases h
    replace h := ifp h c26
    refine CW.iast dX3_reckon_174 (ka_3_7 hx0) c26 ?_
    obtain ⟨s27, es27, h⟩ := sbnd h
    refine PW.sbe es27 ?_
    clear es27
    refine PW.goto (tgt := 291) dX3_reckon_175 (by decide) ?_
    cases h
    subst hx
    exact PW.vret dX3_reckon_291 rfl (Nat.le_refl 0) (Nat.le_refl 0)
  replace h := ifn h c34
  by_cases c35 : x1 = 47
  · replace h := ifp h c35
    refine PW.tswI (off := 108) (tgt := 195) dX3_reckon_87 (by rw [c35]; decide) (by rw [c35]; decide) (by rw [c35]; first | rfl | decide) (by decide) ?_
    refine PW.aload_n 2 0 dX3_reckon_195 rfl rfl rfl ?_
    refine CW.getr dX3_reckon_196 fL_X3_28 hx0 (Or.inr ⟨_, rfl⟩) (kr_3_6 hx0 _) ?_
    refine PW.aload_n 2 0 dX3_reckon_199 rfl rfl rfl ?_
    refine CW.geti dX3_reckon_200 fL_X3_72 hx0 (Or.inl rfl) ?_
    refine PW.iconst (v := 1) dX3_reckon_203 (by decide) ?_
    refine PW.isub dX3_reckon_204 ?_
    refine PW.iload_n 0 3 dX3_reckon_205 rfl rfl ?_
    refine PW.iload_n 1 2 dX3_reckon_206 rfl rfl ?_
    by_cases c28 : (iG s (x0 + 7) ((iG s x0 10) - (1 : Int32)).toNatClampNeg) = 0
    · have h := ifp h c28; cases h
    replace h := ifn h c28
    refine PW.idiv dX3_reckon_207 c28 ?_
    by_cases c29 : inb ((iG s10 x0 10) - (1 : Int32)) 40
    rotate_left
    · have h := ifn h c29; cases h
    replace h := ifp h c29
    refine CW.iast dX3_reckon_208 (ka_3_7 hx0) c29 ?_
    obtain ⟨s30, es30, h⟩ := sbnd h
    refine PW.sbe es30 ?_
    clear es30
    refine PW.goto (tgt := 291) dX3_reckon_209 (by decide) ?_
    cases h
    subst hx
    exact PW.vret dX3_reckon_291 rfl (Nat.le_refl 0) (Nat.le_refl 0)
  replace h := ifn h c35
  by_cases c36 : x1 = 38
  · refine PW.tswI (off := 142) (tgt := 229) dX3_reckon_87 (by rw [c36]; decide) (by rw [c36]; decide) (by rw [c36]; first | rfl | decide) (by decide) ?_
    refine PW.aload_n 2 0 dX3_reckon_229 rfl rfl rfl ?_
    refine PW.iload_n 3 1 dX3_reckon_230 rfl rfl ?_
    refine PW.bipush (v := 60) dX3_reckon_231 (by decide) ?_
    refine PW.icmp_ne (tgt := 249) dX3_reckon_233 (by decide) (fun c11 => ?_) (fun c11 => ?_)
    · replace h := ifn h c11
      refine PW.iload_n 3 1 dX3_reckon_249 rfl rfl ?_
      refine PW.bipush (v := 62) dX3_reckon_250 (by decide) ?_
      refine PW.icmp_ne (tgt := 268) dX3_reckon_252 (by decide) (fun c12 => ?_) (fun c12 => ?_)
      · replace h := ifn h c12
        refine PW.iload_n 0 3 dX3_reckon_268 rfl rfl ?_
        refine PW.iload_n 1 2 dX3_reckon_269 rfl rfl ?_
        refine PW.icmp_ne (tgt := 277) dX3_reckon_270 (by decide) (fun c13 => ?_) (fun c13 => ?_)
        · replace h := ifn h c13
          refine PW.iconst (v := 0) dX3_reckon_277 (by decide) ?_
          exact PW.pick [2] rfl (ok_j_X3_reckon_278 hx0 hx0 h hx)
        · replace h := ifp h c13
          refine PW.iconst (v := 1) dX3_reckon_273 (by decide) ?_
          refine PW.goto (tgt := 278) dX3_reckon_274 (by decide) ?_
          exact PW.pick [2] rfl (ok_j_X3_reckon_278 hx0 hx0 h hx)
      · replace h := ifp h c12
        refine PW.iload_n 0 3 dX3_reckon_255 rfl rfl ?_
        refine PW.iload_n 1 2 dX3_reckon_256 rfl rfl ?_
        refine PW.icmp_le (tgt := 264) dX3_reckon_257 (by decide) (fun c17 => ?_) (fun c17 => ?_)
        · replace h := ifp h c17
          refine PW.iconst (v := 0) dX3_reckon_264 (by decide) ?_
          refine PW.goto (tgt := 278) dX3_reckon_265 (by decide) ?_
          exact PW.pick [2] rfl (ok_j_X3_reckon_278 hx0 hx0 h hx)
        · replace h := ifn h c17
          refine PW.iconst (v := 1) dX3_reckon_260 (by decide) ?_
          refine PW.goto (tgt := 278) dX3_reckon_261 (by decide) ?_
          exact PW.pick [2] rfl (ok_j_X3_reckon_278 hx0 hx0 h hx)
    · replace h := ifp h c11
      refine PW.iload_n 0 3 dX3_reckon_236 rfl rfl ?_
      refine PW.iload_n 1 2 dX3_reckon_237 rfl rfl ?_
      refine PW.icmp_ge (tgt := 245) dX3_reckon_238 (by decide) (fun c18 => ?_) (fun c18 => ?_)
      · replace h := ifp h c18
        refine PW.iconst (v := 0) dX3_reckon_245 (by decide) ?_
        refine PW.goto (tgt := 278) dX3_reckon_246 (by decide) ?_
        exact PW.pick [2] rfl (ok_j_X3_reckon_278 hx0 hx0 h hx)
      · replace h := ifn h c18
        refine PW.iconst (v := 1) dX3_reckon_241 (by decide) ?_
        refine PW.goto (tgt := 278) dX3_reckon_242 (by decide) ?_
        exact PW.pick [2] rfl (ok_j_X3_reckon_278 hx0 hx0 h hx)
  by_cases c37 : x1 = 39
  · refine PW.tswI (off := 142) (tgt := 229) dX3_reckon_87 (by rw [c37]; decide) (by rw [c37]; decide) (by rw [c37]; first | rfl | decide) (by decide) ?_
    refine PW.aload_n 2 0 dX3_reckon_229 rfl rfl rfl ?_
    refine PW.iload_n 3 1 dX3_reckon_230 rfl rfl ?_
    refine PW.bipush (v := 60) dX3_reckon_231 (by decide) ?_
    refine PW.icmp_ne (tgt := 249) dX3_reckon_233 (by decide) (fun c11 => ?_) (fun c11 => ?_)
    · replace h := ifn h c11
      refine PW.iload_n 3 1 dX3_reckon_249 rfl rfl ?_
      refine PW.bipush (v := 62) dX3_reckon_250 (by decide) ?_
      refine PW.icmp_ne (tgt := 268) dX3_reckon_252 (by decide) (fun c12 => ?_) (fun c12 => ?_)
      · replace h := ifn h c12
        refine PW.iload_n 0 3 dX3_reckon_268 rfl rfl ?_
        refine PW.iload_n 1 2 dX3_reckon_269 rfl rfl ?_
        refine PW.icmp_ne (tgt := 277) dX3_reckon_270 (by decide) (fun c13 => ?_) (fun c13 => ?_)
        · replace h := ifn h c13
          refine PW.iconst (v := 0) dX3_reckon_277 (by decide) ?_
          exact PW.pick [2] rfl (ok_j_X3_reckon_278 hx0 hx0 h hx)
        · replace h := ifp h c13
          refine PW.iconst (v := 1) dX3_reckon_273 (by decide) ?_
          refine PW.goto (tgt := 278) dX3_reckon_274 (by decide) ?_
          exact PW.pick [2] rfl (ok_j_X3_reckon_278 hx0 hx0 h hx)
      · replace h := ifp h c12
        refine PW.iload_n 0 3 dX3_reckon_255 rfl rfl ?_
        refine PW.iload_n 1 2 dX3_reckon_256 rfl rfl ?_
        refine PW.icmp_le (tgt := 264) dX3_reckon_257 (by decide) (fun c17 => ?_) (fun c17 => ?_)
        · replace h := ifp h c17
          refine PW.iconst (v := 0) dX3_reckon_264 (by decide) ?_
          refine PW.goto (tgt := 278) dX3_reckon_265 (by decide) ?_
          exact PW.pick [2] rfl (ok_j_X3_reckon_278 hx0 hx0 h hx)
        · replace h := ifn h c17
          refine PW.iconst (v := 1) dX3_reckon_260 (by decide) ?_
          refine PW.goto (tgt := 278) dX3_reckon_261 (by decide) ?_
          exact PW.pick [2] rfl (ok_j_X3_reckon_278 hx0 hx0 h hx)
    · replace h := ifp h c11
      refine PW.iload_n 0 3 dX3_reckon_236 rfl rfl ?_
      refine PW.iload_n 1 2 dX3_reckon_237 rfl rfl ?_
      refine PW.icmp_ge (tgt := 245) dX3_reckon_238 (by decide) (fun c18 => ?_) (fun c18 => ?_)
      · replace h := ifp h c18
        refine PW.iconst (v := 0) dX3_reckon_245 (by decide) ?_
        refine PW.goto (tgt := 278) dX3_reckon_246 (by decide) ?_
        exact PW.pick [2] rfl (ok_j_X3_reckon_278 hx0 hx0 h hx)
      · replace h := ifn h c18
        refine PW.iconst (v := 1) dX3_reckon_241 (by decide) ?_
        refine PW.goto (tgt := 278) dX3_reckon_242 (by decide) ?_
        exact PW.pick [2] rfl (ok_j_X3_reckon_278 hx0 hx0 h hx)
  by_cases c38 : x1 = 40
  · refine PW.tswI (off := 142) (tgt := 229) dX3_reckon_87 (by rw [c38]; decide) (by rw [c38]; decide) (by rw [c38]; first | rfl | decide) (by decide) ?_
    refine PW.aload_n 2 0 dX3_reckon_229 rfl rfl rfl ?_
    refine PW.iload_n 3 1 dX3_reckon_230 rfl rfl ?_
    refine PW.bipush (v := 60) dX3_reckon_231 (by decide) ?_
    refine PW.icmp_ne (tgt := 249) dX3_reckon_233 (by decide) (fun c11 => ?_) (fun c11 => ?_)
    · replace h := ifn h c11
      refine PW.iload_n 3 1 dX3_reckon_249 rfl rfl ?_
      refine PW.bipush (v := 62) dX3_reckon_250 (by decide) ?_
      refine PW.icmp_ne (tgt := 268) dX3_reckon_252 (by decide) (fun c12 => ?_) (fun c12 => ?_)
      · replace h := ifn h c12
        refine PW.iload_n 0 3 dX3_reckon_268 rfl rfl ?_
        refine PW.iload_n 1 2 dX3_reckon_269 rfl rfl ?_
        refine PW.icmp_ne (tgt := 277) dX3_reckon_270 (by decide) (fun c13 => ?_) (fun c13 => ?_)
        · replace h := ifn h c13
          refine PW.iconst (v := 0) dX3_reckon_277 (by decide) ?_
          exact PW.pick [2] rfl (ok_j_X3_reckon_278 hx0 hx0 h hx)
        · replace h := ifp h c13
          refine PW.iconst (v := 1) dX3_reckon_273 (by decide) ?_
          refine PW.goto (tgt := 278) dX3_reckon_274 (by decide) ?_
          exact PW.pick [2] rfl (ok_j_X3_reckon_278 hx0 hx0 h hx)
      · replace h := ifp h c12
        refine PW.iload_n 0 3 dX3_reckon_255 rfl rfl ?_
        refine PW.iload_n 1 2 dX3_reckon_256 rfl rfl ?_
        refine PW.icmp_le (tgt := 264) dX3_reckon_257 (by decide) (fun c17 => ?_) (fun c17 => ?_)
        · replace h := ifp h c17
          refine PW.iconst (v := 0) dX3_reckon_264 (by decide) ?_
          refine PW.goto (tgt := 278) dX3_reckon_265 (by decide) ?_
          exact PW.pick [2] rfl (ok_j_X3_reckon_278 hx0 hx0 h hx)
        · replace h := ifn h c17
          refine PW.iconst (v := 1) dX3_reckon_260 (by decide) ?_
          refine PW.goto (tgt := 278) dX3_reckon_261 (by decide) ?_
          exact PW.pick [2] rfl (ok_j_X3_reckon_278 hx0 hx0 h hx)
    · replace h := ifp h c11
      refine PW.iload_n 0 3 dX3_reckon_236 rfl rfl ?_
      refine PW.iload_n 1 2 dX3_reckon_237 rfl rfl ?_
      refine PW.icmp_ge (tgt := 245) dX3_reckon_238 (by decide) (fun c18 => ?_) (fun c18 => ?_)
      · replace h := ifp h c18
        refine PW.iconst (v := 0) dX3_reckon_245 (by decide) ?_
        refine PW.goto (tgt := 278) dX3_reckon_246 (by decide) ?_
        exact PW.pick [2] rfl (ok_j_X3_reckon_278 hx0 hx0 h hx)
      · replace h := ifn h c18
        refine PW.iconst (v := 1) dX3_reckon_241 (by decide) ?_
        refine PW.goto (tgt := 278) dX3_reckon_242 (by decide) ?_
        exact PW.pick [2] rfl (ok_j_X3_reckon_278 hx0 hx0 h hx)
  by_cases c39 : x1 = 41
  · refine PW.tswI (off := 142) (tgt := 229) dX3_reckon_87 (by rw [c39]; decide) (by rw [c39]; decide) (by rw [c39]; first | rfl | decide) (by decide) ?_
    refine PW.aload_n 2 0 dX3_reckon_229 rfl rfl rfl ?_
    refine PW.iload_n 3 1 dX3_reckon_230 rfl rfl ?_
    refine PW.bipush (v := 60) dX3_reckon_231 (by decide) ?_
    refine PW.icmp_ne (tgt := 249) dX3_reckon_233 (by decide) (fun c11 => ?_) (fun c11 => ?_)
    · replace h := ifn h c11
      refine PW.iload_n 3 1 dX3_reckon_249 rfl rfl ?_
      refine PW.bipush (v := 62) dX3_reckon_250 (by decide) ?_
      refine PW.icmp_ne (tgt := 268) dX3_reckon_252 (by decide) (fun c12 => ?_) (fun c12 => ?_)
      · replace h := ifn h c12
        refine PW.iload_n 0 3 dX3_reckon_268 rfl rfl ?_
        refine PW.iload_n 1 2 dX3_reckon_269 rfl rfl ?_
        refine PW.icmp_ne (tgt := 277) dX3_reckon_270 (by decide) (fun c13 => ?_) (fun c13 => ?_)
        · replace h := ifn h c13
          refine PW.iconst (v := 0) dX3_reckon_277 (by decide) ?_
          exact PW.pick [2] rfl (ok_j_X3_reckon_278 hx0 hx0 h hx)
        · replace h := ifp h c13
          refine PW.iconst (v := 1) dX3_reckon_273 (by decide) ?_
          refine PW.goto (tgt := 278) dX3_reckon_274 (by decide) ?_
          exact PW.pick [2] rfl (ok_j_X3_reckon_278 hx0 hx0 h hx)
      · replace h := ifp h c12
        refine PW.iload_n 0 3 dX3_reckon_255 rfl rfl ?_
        refine PW.iload_n 1 2 dX3_reckon_256 rfl rfl ?_
        refine PW.icmp_le (tgt := 264) dX3_reckon_257 (by decide) (fun c17 => ?_) (fun c17 => ?_)
        · replace h := ifp h c17
          refine PW.iconst (v := 0) dX3_reckon_264 (by decide) ?_
          refine PW.goto (tgt := 278) dX3_reckon_265 (by decide) ?_
          exact PW.pick [2] rfl (ok_j_X3_reckon_278 hx0 hx0 h hx)
        · replace h := ifn h c17
          refine PW.iconst (v := 1) dX3_reckon_260 (by decide) ?_
          refine PW.goto (tgt := 278) dX3_reckon_261 (by decide) ?_
          exact PW.pick [2] rfl (ok_j_X3_reckon_278 hx0 hx0 h hx)
    · replace h := ifp h c11
      refine PW.iload_n 0 3 dX3_reckon_236 rfl rfl ?_
      refine PW.iload_n 1 2 dX3_reckon_237 rfl rfl ?_
      refine PW.icmp_ge (tgt := 245) dX3_reckon_238 (by decide) (fun c18 => ?_) (fun c18 => ?_)
      · replace h := ifp h c18
        refine PW.iconst (v := 0) dX3_reckon_245 (by decide) ?_
        refine PW.goto (tgt := 278) dX3_reckon_246 (by decide) ?_
        exact PW.pick [2] rfl (ok_j_X3_reckon_278 hx0 hx0 h hx)
      · replace h := ifn h c18
        refine PW.iconst (v := 1) dX3_reckon_241 (by decide) ?_
        refine PW.goto (tgt := 278) dX3_reckon_242 (by decide) ?_
        exact PW.pick [2] rfl (ok_j_X3_reckon_278 hx0 hx0 h hx)
  by_cases c40 : x1 = 44
  · refine PW.tswI (off := 142) (tgt := 229) dX3_reckon_87 (by rw [c40]; decide) (by rw [c40]; decide) (by rw [c40]; first | rfl | decide) (by decide) ?_
    refine PW.aload_n 2 0 dX3_reckon_229 rfl rfl rfl ?_
    refine PW.iload_n 3 1 dX3_reckon_230 rfl rfl ?_
    refine PW.bipush (v := 60) dX3_reckon_231 (by decide) ?_
    refine PW.icmp_ne (tgt := 249) dX3_reckon_233 (by decide) (fun c11 => ?_) (fun c11 => ?_)
    · replace h := ifn h c11
      refine PW.iload_n 3 1 dX3_reckon_249 rfl rfl ?_
      refine PW.bipush (v := 62) dX3_reckon_250 (by decide) ?_
      refine PW.icmp_ne (tgt := 268) dX3_reckon_252 (by decide) (fun c12 => ?_) (fun c12 => ?_)
      · replace h := ifn h c12
        refine PW.iload_n 0 3 dX3_reckon_268 rfl rfl ?_
        refine PW.iload_n 1 2 dX3_reckon_269 rfl rfl ?_
        refine PW.icmp_ne (tgt := 277) dX3_reckon_270 (by decide) (fun c13 => ?_) (fun c13 => ?_)
        · replace h := ifn h c13
          refine PW.iconst (v := 0) dX3_reckon_277 (by decide) ?_
          exact PW.pick [2] rfl (ok_j_X3_reckon_278 hx0 hx0 h hx)
        · replace h := ifp h c13
          refine PW.iconst (v := 1) dX3_reckon_273 (by decide) ?_
          refine PW.goto (tgt := 278) dX3_reckon_274 (by decide) ?_
          exact PW.pick [2] rfl (ok_j_X3_reckon_278 hx0 hx0 h hx)
      · replace h := ifp h c12
        refine PW.iload_n 0 3 dX3_reckon_255 rfl rfl ?_
        refine PW.iload_n 1 2 dX3_reckon_256 rfl rfl ?_
        refine PW.icmp_le (tgt := 264) dX3_reckon_257 (by decide) (fun c17 => ?_) (fun c17 => ?_)
        · replace h := ifp h c17
          refine PW.iconst (v := 0) dX3_reckon_264 (by decide) ?_
          refine PW.goto (tgt := 278) dX3_reckon_265 (by decide) ?_
          exact PW.pick [2] rfl (ok_j_X3_reckon_278 hx0 hx0 h hx)
        · replace h := ifn h c17
          refine PW.iconst (v := 1) dX3_reckon_260 (by decide) ?_
          refine PW.goto (tgt := 278) dX3_reckon_261 (by decide) ?_
          exact PW.pick [2] rfl (ok_j_X3_reckon_278 hx0 hx0 h hx)
    · replace h := ifp h c11
      refine PW.iload_n 0 3 dX3_reckon_236 rfl rfl ?_
      refine PW.iload_n 1 2 dX3_reckon_237 rfl rfl ?_
      refine PW.icmp_ge (tgt := 245) dX3_reckon_238 (by decide) (fun c18 => ?_) (fun c18 => ?_)
      · replace h := ifp h c18
        refine PW.iconst (v := 0) dX3_reckon_245 (by decide) ?_
        refine PW.goto (tgt := 278) dX3_reckon_246 (by decide) ?_
        exact PW.pick [2] rfl (ok_j_X3_reckon_278 hx0 hx0 h hx)
      · replace h := ifn h c18
        refine PW.iconst (v := 1) dX3_reckon_241 (by decide) ?_
        refine PW.goto (tgt := 278) dX3_reckon_242 (by decide) ?_
        exact PW.pick [2] rfl (ok_j_X3_reckon_278 hx0 hx0 h hx)
  by_cases c41 : x1 = 46
  · refine PW.tswI (off := 142) (tgt := 229) dX3_reckon_87 (by rw [c41]; decide) (by rw [c41]; decide) (by rw [c41]; first | rfl | decide) (by decide) ?_
    refine PW.aload_n 2 0 dX3_reckon_229 rfl rfl rfl ?_
    refine PW.iload_n 3 1 dX3_reckon_230 rfl rfl ?_
    refine PW.bipush (v := 60) dX3_reckon_231 (by decide) ?_
    refine PW.icmp_ne (tgt := 249) dX3_reckon_233 (by decide) (fun c11 => ?_) (fun c11 => ?_)
    · replace h := ifn h c11
      refine PW.iload_n 3 1 dX3_reckon_249 rfl rfl ?_
      refine PW.bipush (v := 62) dX3_reckon_250 (by decide) ?_
      refine PW.icmp_ne (tgt := 268) dX3_reckon_252 (by decide) (fun c12 => ?_) (fun c12 => ?_)
      · replace h := ifn h c12
        refine PW.iload_n 0 3 dX3_reckon_268 rfl rfl ?_
        refine PW.iload_n 1 2 dX3_reckon_269 rfl rfl ?_
        refine PW.icmp_ne (tgt := 277) dX3_reckon_270 (by decide) (fun c13 => ?_) (fun c13 => ?_)
        · replace h := ifn h c13
          refine PW.iconst (v := 0) dX3_reckon_277 (by decide) ?_
          exact PW.pick [2] rfl (ok_j_X3_reckon_278 hx0 hx0 h hx)
        · replace h := ifp h c13
          refine PW.iconst (v := 1) dX3_reckon_273 (by decide) ?_
          refine PW.goto (tgt := 278) dX3_reckon_274 (by decide) ?_
          exact PW.pick [2] rfl (ok_j_X3_reckon_278 hx0 hx0 h hx)
      · replace h := ifp h c12
        refine PW.iload_n 0 3 dX3_reckon_255 rfl rfl ?_
        refine PW.iload_n 1 2 dX3_reckon_256 rfl rfl ?_
        refine PW.icmp_le (tgt := 264) dX3_reckon_257 (by decide) (fun c17 => ?_) (fun c17 => ?_)
        · replace h := ifp h c17
          refine PW.iconst (v := 0) dX3_reckon_264 (by decide) ?_
          refine PW.goto (tgt := 278) dX3_reckon_265 (by decide) ?_
          exact PW.pick [2] rfl (ok_j_X3_reckon_278 hx0 hx0 h hx)
        · replace h := ifn h c17
          refine PW.iconst (v := 1) dX3_reckon_260 (by decide) ?_
          refine PW.goto (tgt := 278) dX3_reckon_261 (by decide) ?_
          exact PW.pick [2] rfl (ok_j_X3_reckon_278 hx0 hx0 h hx)
    · replace h := ifp h c11
      refine PW.iload_n 0 3 dX3_reckon_236 rfl rfl ?_
      refine PW.iload_n 1 2 dX3_reckon_237 rfl rfl ?_
      refine PW.icmp_ge (tgt := 245) dX3_reckon_238 (by decide) (fun c18 => ?_) (fun c18 => ?_)
      · replace h := ifp h c18
        refine PW.iconst (v := 0) dX3_reckon_245 (by decide) ?_
        refine PW.goto (tgt := 278) dX3_reckon_246 (by decide) ?_
        exact PW.pick [2] rfl (ok_j_X3_reckon_278 hx0 hx0 h hx)
      · replace h := ifn h c18
        refine PW.iconst (v := 1) dX3_reckon_241 (by decide) ?_
        refine PW.goto (tgt := 278) dX3_reckon_242 (by decide) ?_
        exact PW.pick [2] rfl (ok_j_X3_reckon_278 hx0 hx0 h hx)
  have hout : x1.toInt < 37 ∨ 47 < x1.toInt := sw_out (fun k h1 h2 e => by
    have hk : k = 37 ∨ k = 38 ∨ k = 39 ∨ k = 40 ∨ k = 41 ∨ k = 42 ∨ k = 43 ∨ k = 44 ∨ k = 45 ∨ k = 46 ∨ k = 47 := by omega
    rcases hk with rfl | rfl | rfl | rfl | rfl | rfl | rfl | rfl | rfl | rfl | rfl
    · exact c31 (sw_c e (by decide))
    · exact c36 (sw_c e (by decide))
    · exact c37 (sw_c e (by decide))
    · exact c38 (sw_c e (by decide))
    · exact c39 (sw_c e (by decide))
    · exact c32 (sw_c e (by decide))
    · exact c33 (sw_c e (by decide))
    · exact c40 (sw_c e (by decide))
    · exact c34 (sw_c e (by decide))
    · exact c41 (sw_c e (by decide))
    · exact c35 (sw_c e (by decide)))
  refine PW.tswD (tgt := 229) dX3_reckon_87 hout (by decide) ?_
  refine PW.aload_n 2 0 dX3_reckon_229 rfl rfl rfl ?_
  refine PW.iload_n 3 1 dX3_reckon_230 rfl rfl ?_
  refine PW.bipush (v := 60) dX3_reckon_231 (by decide) ?_
  refine PW.icmp_ne (tgt := 249) dX3_reckon_233 (by decide) (fun c11 => ?_) (fun c11 => ?_)
  · replace h := ifn h c11
    refine PW.iload_n 3 1 dX3_reckon_249 rfl rfl ?_
    refine PW.bipush (v := 62) dX3_reckon_250 (by decide) ?_
    refine PW.icmp_ne (tgt := 268) dX3_reckon_252 (by decide) (fun c12 => ?_) (fun c12 => ?_)
    · replace h := ifn h c12
      refine PW.iload_n 0 3 dX3_reckon_268 rfl rfl ?_
      refine PW.iload_n 1 2 dX3_reckon_269 rfl rfl ?_
      refine PW.icmp_ne (tgt := 277) dX3_reckon_270 (by decide) (fun c13 => ?_) (fun c13 => ?_)
      · replace h := ifn h c13
        refine PW.iconst (v := 0) dX3_reckon_277 (by decide) ?_
        exact PW.pick [2] rfl (ok_j_X3_reckon_278 hx0 hx0 h hx)
      · replace h := ifp h c13
        refine PW.iconst (v := 1) dX3_reckon_273 (by decide) ?_
        refine PW.goto (tgt := 278) dX3_reckon_274 (by decide) ?_
        exact PW.pick [2] rfl (ok_j_X3_reckon_278 hx0 hx0 h hx)
    · replace h := ifp h c12
      refine PW.iload_n 0 3 dX3_reckon_255 rfl rfl ?_
      refine PW.iload_n 1 2 dX3_reckon_256 rfl rfl ?_
      refine PW.icmp_le (tgt := 264) dX3_reckon_257 (by decide) (fun c17 => ?_) (fun c17 => ?_)
      · replace h := ifp h c17
        refine PW.iconst (v := 0) dX3_reckon_264 (by decide) ?_
        refine PW.goto (tgt := 278) dX3_reckon_265 (by decide) ?_
        exact PW.pick [2] rfl (ok_j_X3_reckon_278 hx0 hx0 h hx)
      · replace h := ifn h c17
        refine PW.iconst (v := 1) dX3_reckon_260 (by decide) ?_
        refine PW.goto (tgt := 278) dX3_reckon_261 (by decide) ?_
        exact PW.pick [2] rfl (ok_j_X3_reckon_278 hx0 hx0 h hx)
  · replace h := ifp h c11
    refine PW.iload_n 0 3 dX3_reckon_236 rfl rfl ?_
    refine PW.iload_n 1 2 dX3_reckon_237 rfl rfl ?_
    refine PW.icmp_ge (tgt := 245) dX3_reckon_238 (by decide) (fun c18 => ?_) (fun c18 => ?_)
    · replace h := ifp h c18
      refine PW.iconst (v := 0) dX3_reckon_245 (by decide) ?_
      refine PW.goto (tgt := 278) dX3_reckon_246 (by decide) ?_
      exact PW.pick [2] rfl (ok_j_X3_reckon_278 hx0 hx0 h hx)
    · replace h := ifn h c18
      refine PW.iconst (v := 1) dX3_reckon_241 (by decide) ?_
      refine PW.goto (tgt := 278) dX3_reckon_242 (by decide) ?_
      exact PW.pick [2] rfl (ok_j_X3_reckon_278 hx0 hx0 h hx)
def j_X3_reckon_32 (x0 : Nat) (x1 : Int32) (s : cS) : Option (Unit × cS) :=
  if inb ((iG s x0 10) - (1 : Int32)) 40 then
  if (iG s (x0 + 7) ((iG s x0 10) - (1 : Int32)).toNatClampNeg) = 0 then
    sb (iS s x0 12 (1 : Int32)) fun s42 =>
    some (((), s42))
  else
    j_X3_reckon_52 x0 x1 s
  else none
set_option maxRecDepth 20000 in
set_option maxHeartbeats 4000000 in
theorem ok_j_X3_reckon_32 {g : pG} {l : Launch} {F : pF} {x0 : Nat} {x1 : Int32} {s : cS} {x : (Unit × cS)} (hx0 : kd x0 3) (h : j_X3_reckon_32 x0 x1 s = some x) (hx : (fun q => F = pE g none (tS q.2) 0 0) x) : PW g l (pRoom 1 0 0) M_X3_reckon F 32 [(0, .ref x0), (1, .int x1)] [] (tS s) 0 0 := by
  unfold j_X3_reckon_32 at h
  refine PW.aload_n 0 0 dX3_reckon_32 rfl rfl rfl ?_
  refine CW.getr dX3_reckon_33 fL_X3_28 hx0 (Or.inr ⟨_, rfl⟩) (kr_3_6 hx0 _) ?_
  refine PW.aload_n 0 0 dX3_reckon_36 rfl rfl rfl ?_
  refine CW.geti dX3_reckon_37 fL_X3_72 hx0 (Or.inl rfl) ?_
  refine PW.iconst (v := 1) dX3_reckon_40 (by decide) ?_
  refine PW.isub dX3_reckon_41 ?_
  by_cases c6 : inb ((iG s x0 10) - (1 : Int32)) 40
  rotate_left
  · have h := ifn h c6; cases h
  replace h := ifp h c6
  refine CW.iald dX3_reckon_42 (ka_3_7 hx0) c6 ?_
  refine PW.if_ne (tgt := 52) dX3_reckon_43 (by decide) (fun c7 => ?_) (fun c7 => ?_)
  · replace h := ifn h c7
    exact PW.pick [0, 1] rfl (ok_j_X3_reckon_52 hx0 h hx)
  · replace h := ifp h c7
    refine PW.aload_n 0 0 dX3_reckon_46 rfl rfl rfl ?_
    refine PW.iconst (v := 1) dX3_reckon_47 (by decide) ?_
    refine CW.putz dX3_reckon_48 fL_X3_60 rfl hx0 rfl (Or.inr rfl) ?_
    obtain ⟨s42, es42, h⟩ := sbnd h
    refine PW.sbe es42 ?_
    clear es42
    cases h
    subst hx
    exact PW.vret dX3_reckon_51 rfl (Nat.le_refl 0) (Nat.le_refl 0)
def f_X3_reckon (T : Nat) (a0 : Int32) (s : cS) : Option (Unit × cS) :=
  if (iG s T 10) < (2 : Int32) then
    sb (iS s T 12 (1 : Int32)) fun s2 =>
    some (((), s2))
  else
    if (40 : Int32) < (iG s T 10) then
      sb (iS s T 12 (1 : Int32)) fun s4 =>
      some (((), s4))
    else
      if a0 = (47 : Int32) then
        j_X3_reckon_32 T a0 s
      else
        if a0 = (37 : Int32) then
          j_X3_reckon_32 T a0 s
        else
          j_X3_reckon_52 T a0 s
set_option maxRecDepth 20000 in
set_option maxHeartbeats 4000000 in
theorem p_X3_reckon {g : pG} {l : Launch} {T : Nat} {a0 : Int32} {s : cS} {q : Unit × cS} (hT : kd T 3) (h : f_X3_reckon T a0 s = some q) : PM g l 1 M_X3_reckon [.ref T, .int a0] (tS s) none (tS q.2) 0 0 := by
  refine PM.of (by decide +kernel) (Nat.le_of_ble_eq_true rfl) ?_
  show PW g l (pRoom 1 0 0) M_X3_reckon _ 0 [(0, .ref T), (1, .int a0)] [] (tS s) 0 0
  unfold f_X3_reckon at h
  generalize hF : pE g none (tS q.2) 0 0 = F
  have hx := hF.symm
  refine PW.aload_n 0 0 dX3_reckon_0 rfl rfl rfl ?_
  refine CW.geti dX3_reckon_1 fL_X3_72 hT (Or.inl rfl) ?_
  refine PW.iconst (v := 2) dX3_reckon_4 (by decide) ?_
  refine PW.icmp_lt (tgt := 46) dX3_reckon_5 (by decide) (fun c1 => ?_) (fun c1 => ?_)
  · replace h := ifp h c1
    refine PW.aload_n 0 0 dX3_reckon_46 rfl rfl rfl ?_
    refine PW.iconst (v := 1) dX3_reckon_47 (by decide) ?_
    refine CW.putz dX3_reckon_48 fL_X3_60 rfl hT rfl (Or.inr rfl) ?_
    obtain ⟨s2, es2, h⟩ := sbnd h
    refine PW.sbe es2 ?_
    clear es2
    cases h
    subst hx
    exact PW.vret dX3_reckon_51 rfl (Nat.le_refl 0) (Nat.le_refl 0)
  · replace h := ifn h c1
    refine PW.aload_n 0 0 dX3_reckon_8 rfl rfl rfl ?_
    refine CW.geti dX3_reckon_9 fL_X3_72 hT (Or.inl rfl) ?_
    refine PW.aload_n 0 0 dX3_reckon_12 rfl rfl rfl ?_
    refine CW.getr dX3_reckon_13 fL_X3_28 hT (Or.inr ⟨_, rfl⟩) (kr_3_6 hT _) ?_
    refine CW.alen (v := 40) dX3_reckon_16 (ka_3_7 hT) (by decide) rfl ?_
    refine PW.icmp_gt (tgt := 46) dX3_reckon_17 (by decide) (fun c3 => ?_) (fun c3 => ?_)
    · replace h := ifp h c3
      refine PW.aload_n 0 0 dX3_reckon_46 rfl rfl rfl ?_
      refine PW.iconst (v := 1) dX3_reckon_47 (by decide) ?_
      refine CW.putz dX3_reckon_48 fL_X3_60 rfl hT rfl (Or.inr rfl) ?_
      obtain ⟨s4, es4, h⟩ := sbnd h
      refine PW.sbe es4 ?_
      clear es4
      cases h
      subst hx
      exact PW.vret dX3_reckon_51 rfl (Nat.le_refl 0) (Nat.le_refl 0)
    · replace h := ifn h c3
      refine PW.iload_n 1 1 dX3_reckon_20 rfl rfl ?_
      refine PW.bipush (v := 47) dX3_reckon_21 (by decide) ?_
      refine PW.icmp_eq (tgt := 32) dX3_reckon_23 (by decide) (fun c5 => ?_) (fun c5 => ?_)
      · replace h := ifp h c5
        exact PW.pick [0, 1] rfl (ok_j_X3_reckon_32 hT h hx)
      · replace h := ifn h c5
        refine PW.iload_n 1 1 dX3_reckon_26 rfl rfl ?_
        refine PW.bipush (v := 37) dX3_reckon_27 (by decide) ?_
        refine PW.icmp_ne (tgt := 52) dX3_reckon_29 (by decide) (fun c43 => ?_) (fun c43 => ?_)
        · replace h := ifn h c43
          exact PW.pick [0, 1] rfl (ok_j_X3_reckon_52 hT h hx)
        · replace h := ifp h c43
          exact PW.pick [0, 1] rfl (ok_j_X3_reckon_32 hT h hx)
/-! X3_run -/
def j_X3_run_183 (x0 : Nat) (x2 : Int32) (x3 : Int32) (s : cS) : Option ((Int32 × cS) ⊕ (Unit × cS)) :=
  some (.inl (x3, s))
set_option maxRecDepth 20000 in
set_option maxHeartbeats 4000000 in
theorem ok_j_X3_run_183 {g : pG} {l : Launch} {F : pF} {x0 : Nat} {x2 : Int32} {x3 : Int32} {s : cS} {x : ((Int32 × cS) ⊕ (Unit × cS))} (hx0 : kd x0 3) (h : j_X3_run_183 x0 x2 x3 s = some x) (hx : (KL (fun (v : Int32 × cS) => PW g l (pRoom 2 0 0) M_X3_run F 17 [(0, .ref x0), (2, .int x2), (3, .int v.1)] [] (tS v.2) 0 0) (fun q => F = pE g none (tS q.2) 0 0)) x) : PW g l (pRoom 2 0 0) M_X3_run F 183 [(0, .ref x0), (2, .int x2), (3, .int x3)] [] (tS s) 0 0 := by
  unfold j_X3_run_183 at h
  refine PW.goto (tgt := 17) dX3_run_183 (by decide) ?_
  cases h
  exact PW.pick [0, 1, 2] rfl hx
def j_X3_run_126 (x0 : Nat) (x2 : Int32) (x3 : Int32) (y0 : Nat) (y1 : Int32) (s : cS) : Option ((Int32 × cS) ⊕ (Unit × cS)) :=
  if y1 = 0 ∨ y1 = 1 then
  sb (iS s y0 11 y1) fun s19 =>
  j_X3_run_183 x0 x2 x3 s19
  else none
set_option maxRecDepth 20000 in
set_option maxHeartbeats 4000000 in
theorem ok_j_X3_run_126 {g : pG} {l : Launch} {F : pF} {x0 : Nat} {x2 : Int32} {x3 : Int32} {y0 : Nat} {y1 : Int32} {s : cS} {x : ((Int32 × cS) ⊕ (Unit × cS))} (hx0 : kd x0 3) (hy0 : kd y0 3) (h : j_X3_run_126 x0 x2 x3 y0 y1 s = some x) (hx : (KL (fun (v : Int32 × cS) => PW g l (pRoom 2 0 0) M_X3_run F 17 [(0, .ref x0), (2, .int x2), (3, .int v.1)] [] (tS v.2) 0 0) (fun q => F = pE g none (tS q.2) 0 0)) x) : PW g l (pRoom 2 0 0) M_X3_run F 126 [(0, .ref x0), (2, .int x2), (3, .int x3)] [.int y1, .ref y0] (tS s) 0 0 := by
  unfold j_X3_run_126 at h
  by_cases c18 : y1 = 0 ∨ y1 = 1
  rotate_left
  · have h := ifn h c18; cases h
  replace h := ifp h c18
  refine CW.putz dX3_run_126 fL_X3_56 rfl hy0 rfl c18 ?_
  obtain ⟨s19, es19, h⟩ := sbnd h
  refine PW.sbe es19 ?_
  clear es19
  refine PW.goto (tgt := 183) dX3_run_129 (by decide) ?_
  exact PW.pick [0, 1, 2] rfl (ok_j_X3_run_183 hx0 h hx)
def j_X3_run_149 (x0 : Nat) (x2 : Int32) (y0 : Int32) (s : cS) : Option ((Int32 × cS) ⊕ (Unit × cS)) :=
  j_X3_run_183 x0 x2 y0 s
set_option maxRecDepth 20000 in
set_option maxHeartbeats 4000000 in
theorem ok_j_X3_run_149 {g : pG} {l : Launch} {F : pF} {x0 : Nat} {x2 : Int32} {y0 : Int32} {s : cS} {x : ((Int32 × cS) ⊕ (Unit × cS))} (hx0 : kd x0 3) (h : j_X3_run_149 x0 x2 y0 s = some x) (hx : (KL (fun (v : Int32 × cS) => PW g l (pRoom 2 0 0) M_X3_run F 17 [(0, .ref x0), (2, .int x2), (3, .int v.1)] [] (tS v.2) 0 0) (fun q => F = pE g none (tS q.2) 0 0)) x) : PW g l (pRoom 2 0 0) M_X3_run F 149 [(0, .ref x0), (2, .int x2)] [.int y0] (tS s) 0 0 := by
  unfold j_X3_run_149 at h
  refine PW.istore_n dX3_run_149 rfl (Nat.le_of_ble_eq_true rfl) rfl ?_
  refine PW.goto (tgt := 183) dX3_run_150 (by decide) ?_
  exact PW.pick [1, 2, 0] rfl (ok_j_X3_run_183 hx0 h hx)
def j_X3_run_170 (x0 : Nat) (x2 : Int32) (y0 : Int32) (s : cS) : Option ((Int32 × cS) ⊕ (Unit × cS)) :=
  j_X3_run_183 x0 x2 y0 s
set_option maxRecDepth 20000 in
set_option maxHeartbeats 4000000 in
theorem ok_j_X3_run_170 {g : pG} {l : Launch} {F : pF} {x0 : Nat} {x2 : Int32} {y0 : Int32} {s : cS} {x : ((Int32 × cS) ⊕ (Unit × cS))} (hx0 : kd x0 3) (h : j_X3_run_170 x0 x2 y0 s = some x) (hx : (KL (fun (v : Int32 × cS) => PW g l (pRoom 2 0 0) M_X3_run F 17 [(0, .ref x0), (2, .int x2), (3, .int v.1)] [] (tS v.2) 0 0) (fun q => F = pE g none (tS q.2) 0 0)) x) : PW g l (pRoom 2 0 0) M_X3_run F 170 [(0, .ref x0), (2, .int x2)] [.int y0] (tS s) 0 0 := by
  unfold j_X3_run_170 at h
  refine PW.istore_n dX3_run_170 rfl (Nat.le_of_ble_eq_true rfl) rfl ?_
  refine PW.goto (tgt := 183) dX3_run_171 (by decide) ?_
  exact PW.pick [1, 2, 0] rfl (ok_j_X3_run_183 hx0 h hx)
def b_X3_run_17 (x0 : Nat) (x2 : Int32) (x3 : Int32) (s : cS) : Option ((Int32 × cS) ⊕ (Unit × cS)) :=
  if x2 ≤ x3 then
    oR (
      some (((), s)))
  else
    if (iG s x0 12) = 0 then
      if ((aA s (x0 + 1) 160 x3) >>> ((20 : Int32) &&& 31)) = 1 then
        ob (f_X3_push x0 ((aA s (x0 + 1) 160 x3) &&& (1048575 : Int32)) s) fun r10 s11 =>
        j_X3_run_183 x0 x2 (x3 + (1 : Int32)) s11
      else
      if ((aA s (x0 + 1) 160 x3) >>> ((20 : Int32) &&& 31)) = 2 then
        ob (f_X3_push x0 (aA s (x0 + 6) 10 ((aA s (x0 + 1) 160 x3) &&& (1048575 : Int32))) s) fun r14 s15 =>
        j_X3_run_183 x0 x2 (x3 + (1 : Int32)) s15
      else
      if ((aA s (x0 + 1) 160 x3) >>> ((20 : Int32) &&& 31)) = 3 then
        if (iG s x0 11) = 0 then
          j_X3_run_126 x0 x2 (x3 + (1 : Int32)) x0 (1 : Int32) s
        else
          j_X3_run_126 x0 x2 (x3 + (1 : Int32)) x0 (0 : Int32) s
      else
      if ((aA s (x0 + 1) 160 x3) >>> ((20 : Int32) &&& 31)) = 4 then
        if (iG s x0 11) = 0 then
          j_X3_run_149 x0 x2 (x3 + (1 : Int32)) s
        else
          j_X3_run_149 x0 x2 (if (x3 + (1 : Int32)) < ((aA s (x0 + 1) 160 x3) &&& (1048575 : Int32)) then ((aA s (x0 + 1) 160 x3) &&& (1048575 : Int32)) else (x3 + (1 : Int32))) s
      else
      if ((aA s (x0 + 1) 160 x3) >>> ((20 : Int32) &&& 31)) = 5 then
        if (iG s x0 11) = 0 then
          j_X3_run_170 x0 x2 (if (x3 + (1 : Int32)) < ((aA s (x0 + 1) 160 x3) &&& (1048575 : Int32)) then ((aA s (x0 + 1) 160 x3) &&& (1048575 : Int32)) else (x3 + (1 : Int32))) s
        else
          j_X3_run_170 x0 x2 (x3 + (1 : Int32)) s
      else
      ob (f_X3_reckon x0 ((aA s (x0 + 1) 160 x3) >>> ((20 : Int32) &&& 31)) s) fun r7 s8 =>
      j_X3_run_183 x0 x2 (x3 + (1 : Int32)) s8
    else
      oR (
        some (((), s)))
set_option maxRecDepth 20000 in
set_option maxHeartbeats 4000000 in
theorem ok_b_X3_run_17 {g : pG} {l : Launch} {F : pF} {x0 : Nat} {x2 : Int32} {x3 : Int32} {s : cS} {x : ((Int32 × cS) ⊕ (Unit × cS))} (hx0 : kd x0 3) (h : b_X3_run_17 x0 x2 x3 s = some x) (hx : (KL (fun (v : Int32 × cS) => PW g l (pRoom 2 0 0) M_X3_run F 17 [(0, .ref x0), (2, .int x2), (3, .int v.1)] [] (tS v.2) 0 0) (fun q => F = pE g none (tS q.2) 0 0)) x) : PW g l (pRoom 2 0 0) M_X3_run F 17 [(0, .ref x0), (2, .int x2), (3, .int x3)] [] (tS s) 0 0 := by
  unfold b_X3_run_17 at h
  refine PW.iload_n 2 3 dX3_run_17 rfl rfl ?_
  refine PW.iload_n 1 2 dX3_run_18 rfl rfl ?_
  refine PW.icmp_ge (tgt := 186) dX3_run_19 (by decide) (fun c4 => ?_) (fun c4 => ?_)
  · replace h := ifp h c4
    obtain ⟨xo, hy, hxo⟩ := oRb h
    clear h
    subst hxo
    replace hx := KLr hx
    have h := hy
    clear hy
    cases h
    subst hx
    exact PW.vret dX3_run_186 rfl (Nat.le_refl 0) (Nat.le_refl 0)
  · replace h := ifn h c4
    refine PW.aload_n 0 0 dX3_run_22 rfl rfl rfl ?_
    refine CW.geti dX3_run_23 fL_X3_60 hx0 (Or.inr rfl) ?_
    refine PW.if_ne (tgt := 186) dX3_run_26 (by decide) (fun c5 => ?_) (fun c5 => ?_)
    · replace h := ifn h c5
      obtain ⟨xo, hy, hxo⟩ := oRb h
      clear h
      subst hxo
      replace hx := KLr hx
      have h := hy
      clear hy
      cases h
      subst hx
      exact PW.vret dX3_run_186 rfl (Nat.le_refl 0) (Nat.le_refl 0)
    · replace h := ifp h c5
      refine PW.aload_n 0 0 dX3_run_29 rfl rfl rfl ?_
      refine CW.getr dX3_run_30 fL_X3_9 hx0 (Or.inr ⟨_, rfl⟩) (kr_3_0 hx0 _) ?_
      refine PW.iload_n 2 3 dX3_run_33 rfl rfl ?_
      refine CW.callSNi (st := []) [.ref (x0 + 1), .int x3] dX3_run_34 (ps_at (ka_3_1 hx0) rfl) MS_X11_at mN_X3_75 rfl rfl (Nat.le_of_ble_eq_true rfl) (by first | decide | omega) ?_
      refine PW.istore dX3_run_37 (Nat.le_of_ble_eq_true rfl) rfl ?_
      refine PW.iload 0 dX3_run_39 rfl ?_
      refine PW.ldc dX3_run_41 kL_X3_51 ?_
      refine PW.iand dX3_run_43 ?_
      refine PW.istore dX3_run_44 (Nat.le_of_ble_eq_true rfl) rfl ?_
      refine PW.iinc (v := (x3 + (1 : Int32))) 4 dX3_run_46 rfl (by first | rfl | decide) (Nat.le_of_ble_eq_true rfl) rfl ?_
      refine PW.iload 2 dX3_run_49 rfl ?_
      refine PW.bipush (v := 20) dX3_run_51 (by decide) ?_
      refine PW.ishr dX3_run_53 ?_
      by_cases c22 : ((aA s (x0 + 1) 160 x3) >>> ((20 : Int32) &&& 31)) = 1
      · replace h := ifp h c22
        refine PW.tswI (off := 34) (tgt := 88) dX3_run_54 (by rw [c22]; decide) (by rw [c22]; decide) (by rw [c22]; first | rfl | decide) (by decide) ?_
        refine PW.aload_n 3 0 dX3_run_88 rfl rfl rfl ?_
        refine PW.iload 1 dX3_run_89 rfl ?_
        obtain ⟨r10, s11, q12, h⟩ := obnd h
        refine CW.callVv (ci := 3) (st := []) [.int ((aA s (x0 + 1) 160 x3) &&& (1048575 : Int32))] dX3_run_91 (p_X3_push hx0 q12) MV_X3_push mL_X3_79 (by decide) rfl hx0 rfl rfl (Nat.le_of_ble_eq_true rfl) (by first | decide | omega) ?_
        refine PW.goto (tgt := 183) dX3_run_94 (by decide) ?_
        exact PW.pick [3, 4, 0] rfl (ok_j_X3_run_183 hx0 h hx)
      replace h := ifn h c22
      by_cases c23 : ((aA s (x0 + 1) 160 x3) >>> ((20 : Int32) &&& 31)) = 2
      · replace h := ifp h c23
        refine PW.tswI (off := 43) (tgt := 97) dX3_run_54 (by rw [c23]; decide) (by rw [c23]; decide) (by rw [c23]; first | rfl | decide) (by decide) ?_
        refine PW.aload_n 3 0 dX3_run_97 rfl rfl rfl ?_
        refine PW.aload_n 3 0 dX3_run_98 rfl rfl rfl ?_
        refine CW.getr dX3_run_99 fL_X3_25 hx0 (Or.inr ⟨_, rfl⟩) (kr_3_5 hx0 _) ?_
        refine PW.iload 1 dX3_run_102 rfl ?_
        refine CW.callSNi (st := [.ref x0]) [.ref (x0 + 6), .int ((aA s (x0 + 1) 160 x3) &&& (1048575 : Int32))] dX3_run_104 (ps_at (ka_3_6 hx0) rfl) MS_X11_at mN_X3_75 rfl rfl (Nat.le_of_ble_eq_true rfl) (by first | decide | omega) ?_
        obtain ⟨r14, s15, q16, h⟩ := obnd h
        refine CW.callVv (ci := 3) (st := []) [.int (aA s (x0 + 6) 10 ((aA s (x0 + 1) 160 x3) &&& (1048575 : Int32)))] dX3_run_107 (p_X3_push hx0 q16) MV_X3_push mL_X3_79 (by decide) rfl hx0 rfl rfl (Nat.le_of_ble_eq_true rfl) (by first | decide | omega) ?_
        refine PW.goto (tgt := 183) dX3_run_110 (by decide) ?_
        exact PW.pick [3, 4, 0] rfl (ok_j_X3_run_183 hx0 h hx)
      replace h := ifn h c23
      by_cases c24 : ((aA s (x0 + 1) 160 x3) >>> ((20 : Int32) &&& 31)) = 3
      · replace h := ifp h c24
        refine PW.tswI (off := 59) (tgt := 113) dX3_run_54 (by rw [c24]; decide) (by rw [c24]; decide) (by rw [c24]; first | rfl | decide) (by decide) ?_
        refine PW.aload_n 3 0 dX3_run_113 rfl rfl rfl ?_
        refine PW.aload_n 3 0 dX3_run_114 rfl rfl rfl ?_
        refine CW.geti dX3_run_115 fL_X3_56 hx0 (Or.inr rfl) ?_
        refine PW.if_ne (tgt := 125) dX3_run_118 (by decide) (fun c17 => ?_) (fun c17 => ?_)
        · replace h := ifn h c17
          refine PW.iconst (v := 0) dX3_run_125 (by decide) ?_
          exact PW.pick [3, 4, 0] rfl (ok_j_X3_run_126 hx0 hx0 h hx)
        · replace h := ifp h c17
          refine PW.iconst (v := 1) dX3_run_121 (by decide) ?_
          refine PW.goto (tgt := 126) dX3_run_122 (by decide) ?_
          exact PW.pick [3, 4, 0] rfl (ok_j_X3_run_126 hx0 hx0 h hx)
      replace h := ifn h c24
      by_cases c25 : ((aA s (x0 + 1) 160 x3) >>> ((20 : Int32) &&& 31)) = 4
      · replace h := ifp h c25
        refine PW.tswI (off := 78) (tgt := 132) dX3_run_54 (by rw [c25]; decide) (by rw [c25]; decide) (by rw [c25]; first | rfl | decide) (by decide) ?_
        refine PW.aload_n 3 0 dX3_run_132 rfl rfl rfl ?_
        refine CW.geti dX3_run_133 fL_X3_56 hx0 (Or.inr rfl) ?_
        refine PW.if_eq (tgt := 148) dX3_run_136 (by decide) (fun c20 => ?_) (fun c20 => ?_)
        · replace h := ifp h c20
          refine PW.iload_n 0 3 dX3_run_148 rfl rfl ?_
          exact PW.pick [3, 4] rfl (ok_j_X3_run_149 hx0 h hx)
        · replace h := ifn h c20
          refine PW.iload_n 0 3 dX3_run_139 rfl rfl ?_
          refine PW.iload 1 dX3_run_140 rfl ?_
          refine CW.mmax dX3_run_142 mL_X3_69 (Nat.le_of_ble_eq_true rfl) (by decide) ?_
          refine PW.goto (tgt := 149) dX3_run_145 (by decide) ?_
          exact PW.pick [3, 4] rfl (ok_j_X3_run_149 hx0 h hx)
      replace h := ifn h c25
      by_cases c26 : ((aA s (x0 + 1) 160 x3) >>> ((20 : Int32) &&& 31)) = 5
      · replace h := ifp h c26
        refine PW.tswI (off := 99) (tgt := 153) dX3_run_54 (by rw [c26]; decide) (by rw [c26]; decide) (by rw [c26]; first | rfl | decide) (by decide) ?_
        refine PW.aload_n 3 0 dX3_run_153 rfl rfl rfl ?_
        refine CW.geti dX3_run_154 fL_X3_56 hx0 (Or.inr rfl) ?_
        refine PW.if_eq (tgt := 164) dX3_run_157 (by decide) (fun c21 => ?_) (fun c21 => ?_)
        · replace h := ifp h c21
          refine PW.iload_n 0 3 dX3_run_164 rfl rfl ?_
          refine PW.iload 1 dX3_run_165 rfl ?_
          refine CW.mmax dX3_run_167 mL_X3_69 (Nat.le_of_ble_eq_true rfl) (by decide) ?_
          exact PW.pick [3, 4] rfl (ok_j_X3_run_170 hx0 h hx)
        · replace h := ifn h c21
          refine PW.iload_n 0 3 dX3_run_160 rfl rfl ?_
          refine PW.goto (tgt := 170) dX3_run_161 (by decide) ?_
          exact PW.pick [3, 4] rfl (ok_j_X3_run_170 hx0 h hx)
      replace h := ifn h c26
      have hout : ((aA s (x0 + 1) 160 x3) >>> ((20 : Int32) &&& 31)).toInt < 1 ∨ 5 < ((aA s (x0 + 1) 160 x3) >>> ((20 : Int32) &&& 31)).toInt := sw_out (fun k h1 h2 e => by
        have hk : k = 1 ∨ k = 2 ∨ k = 3 ∨ k = 4 ∨ k = 5 := by omega
        rcases hk with rfl | rfl | rfl | rfl | rfl
        · exact c22 (sw_c e (by decide))
        · exact c23 (sw_c e (by decide))
        · exact c24 (sw_c e (by decide))
        · exact c25 (sw_c e (by decide))
        · exact c26 (sw_c e (by decide)))
      refine PW.tswD (tgt := 174) dX3_run_54 hout (by decide) ?_
      refine PW.aload_n 3 0 dX3_run_174 rfl rfl rfl ?_
      refine PW.iload 2 dX3_run_175 rfl ?_
      refine PW.bipush (v := 20) dX3_run_177 (by decide) ?_
      refine PW.ishr dX3_run_179 ?_
      obtain ⟨r7, s8, q9, h⟩ := obnd h
      refine CW.callVv (ci := 3) (st := []) [.int ((aA s (x0 + 1) 160 x3) >>> ((20 : Int32) &&& 31))] dX3_run_180 (p_X3_reckon hx0 q9) MV_X3_reckon mL_X3_83 (by decide) rfl hx0 rfl rfl (Nat.le_of_ble_eq_true rfl) (by first | decide | omega) ?_
      exact PW.pick [3, 4, 0] rfl (ok_j_X3_run_183 hx0 h hx)
def w_X3_run_17 (N : Nat) (x0 : Nat) (x2 : Int32) (x3 : Int32) (s : cS) : Option (Unit × cS) := itr (fun (v : Int32 × cS) => b_X3_run_17 x0 x2 v.1 v.2) N (x3, s)
theorem ok_w_X3_run_17 {g : pG} {l : Launch} {F : pF} {N : Nat} {x0 : Nat} {x2 : Int32} {x3 : Int32} {s : cS} {x : (Unit × cS)} (hx0 : kd x0 3) (h : w_X3_run_17 N x0 x2 x3 s = some x) (hx : (fun q => F = pE g none (tS q.2) 0 0) x) : PW g l (pRoom 2 0 0) M_X3_run F 17 [(0, .ref x0), (2, .int x2), (3, .int x3)] [] (tS s) 0 0 :=
  okIter (P := (fun (v : Int32 × cS) => PW g l (pRoom 2 0 0) M_X3_run F 17 [(0, .ref x0), (2, .int x2), (3, .int v.1)] [] (tS v.2) 0 0)) (K := (fun q => F = pE g none (tS q.2) 0 0)) (fun v y hB hy => ok_b_X3_run_17 hx0 hB hy) N (x3, s) x h hx
def f_X3_run (N : Nat) (T : Nat) (a0 : Int32) (a1 : Int32) (s : cS) : Option (Unit × cS) :=
  sb (iS s T 10 (0 : Int32)) fun s1 =>
  sb (iS s1 T 11 (0 : Int32)) fun s2 =>
  sb (iS s2 T 12 (0 : Int32)) fun s3 =>
  w_X3_run_17 N T a1 a0 s3
set_option maxRecDepth 20000 in
set_option maxHeartbeats 4000000 in
theorem p_X3_run {g : pG} {l : Launch} {N : Nat} {T : Nat} {a0 : Int32} {a1 : Int32} {s : cS} {q : Unit × cS} (hT : kd T 3) (h : f_X3_run N T a0 a1 s = some q) : PM g l 2 M_X3_run [.ref T, .int a0, .int a1] (tS s) none (tS q.2) 0 0 := by
  refine PM.of (by decide +kernel) (Nat.le_of_ble_eq_true rfl) ?_
  show PW g l (pRoom 2 0 0) M_X3_run _ 0 [(0, .ref T), (1, .int a0), (2, .int a1)] [] (tS s) 0 0
  unfold f_X3_run at h
  generalize hF : pE g none (tS q.2) 0 0 = F
  have hx := hF.symm
  refine PW.aload_n 0 0 dX3_run_0 rfl rfl rfl ?_
  refine PW.iconst (v := 0) dX3_run_1 (by decide) ?_
  refine CW.puti dX3_run_2 fL_X3_72 rfl hT rfl ?_
  obtain ⟨s1, es1, h⟩ := sbnd h
  refine PW.sbe es1 ?_
  clear es1
  refine PW.aload_n 0 0 dX3_run_5 rfl rfl rfl ?_
  refine PW.iconst (v := 0) dX3_run_6 (by decide) ?_
  refine CW.putz dX3_run_7 fL_X3_56 rfl hT rfl (Or.inl rfl) ?_
  obtain ⟨s2, es2, h⟩ := sbnd h
  refine PW.sbe es2 ?_
  clear es2
  refine PW.aload_n 0 0 dX3_run_10 rfl rfl rfl ?_
  refine PW.iconst (v := 0) dX3_run_11 (by decide) ?_
  refine CW.putz dX3_run_12 fL_X3_60 rfl hT rfl (Or.inl rfl) ?_
  obtain ⟨s3, es3, h⟩ := sbnd h
  refine PW.sbe es3 ?_
  clear es3
  refine PW.iload_n 1 1 dX3_run_15 rfl rfl ?_
  refine PW.istore_n dX3_run_16 rfl (Nat.le_of_ble_eq_true rfl) rfl ?_
  exact PW.pick [1, 3, 0] rfl (ok_w_X3_run_17 hT h hx)
/-! X3_amount -/
def j_X3_amount_98 (x0 : Nat) (x1 : Int32) (x2 : Int32) (x3 : Int32) (s : cS) : Option ((Int32 × cS) ⊕ (Int32 × cS)) :=
  some (.inl ((x3 + (1 : Int32)), s))
set_option maxRecDepth 20000 in
set_option maxHeartbeats 4000000 in
theorem ok_j_X3_amount_98 {g : pG} {l : Launch} {F : pF} {x0 : Nat} {x1 : Int32} {x2 : Int32} {x3 : Int32} {s : cS} {x : ((Int32 × cS) ⊕ (Int32 × cS))} (hx0 : kd x0 3) (h : j_X3_amount_98 x0 x1 x2 x3 s = some x) (hx : (KL (fun (v : Int32 × cS) => PW g l (pRoom 3 0 0) M_X3_amount F 2 [(0, .ref x0), (1, .int x1), (2, .int x2), (3, .int v.1)] [] (tS v.2) 0 0) (fun q => F = pE g (some (.int q.1)) (tS q.2) 0 0)) x) : PW g l (pRoom 3 0 0) M_X3_amount F 98 [(0, .ref x0), (1, .int x1), (2, .int x2), (3, .int x3)] [] (tS s) 0 0 := by
  unfold j_X3_amount_98 at h
  refine PW.iinc (v := (x3 + (1 : Int32))) 3 dX3_amount_98 rfl (by first | rfl | decide) (Nat.le_of_ble_eq_true rfl) rfl ?_
  refine PW.goto (tgt := 2) dX3_amount_101 (by decide) ?_
  cases h
  exact PW.pick [1, 2, 3, 0] rfl hx
def b_X3_amount_2 (N : Nat) (x0 : Nat) (x1 : Int32) (x2 : Int32) (x3 : Int32) (s : cS) : Option ((Int32 × cS) ⊕ (Int32 × cS)) :=
  if (iG s x0 8) ≤ x3 then
    oR (
      some (((0 : Int32), s)))
  else
    if (12 : Int32) ≤ x3 then
      oR (
        some (((0 : Int32), s)))
    else
      if inb x3 12 then
      if (iG s (x0 + 2) x3.toNatClampNeg) = x1 then
        ob (f_X3_run N x0 (iG s (x0 + 4) x3.toNatClampNeg) (iG s (x0 + 5) x3.toNatClampNeg) s) fun r5 s6 =>
        if (iG s6 x0 11) = 0 then
          j_X3_amount_98 x0 x1 x2 x3 s6
        else
          if (iG s6 x0 12) = 0 then
            oR (
              ob (f_X3_run N x0 (iG s6 (x0 + 3) x3.toNatClampNeg) (iG s6 (x0 + 4) x3.toNatClampNeg) s6) fun r10 s11 =>
              if (iG s11 x0 12) = 0 then
                some (((if (0 : Int32) < (if (iG s11 (x0 + 7) 0) < x2 then (iG s11 (x0 + 7) 0) else x2) then (if (iG s11 (x0 + 7) 0) < x2 then (iG s11 (x0 + 7) 0) else x2) else (0 : Int32)), s11))
              else
                some (((0 : Int32), s11)))
          else
            j_X3_amount_98 x0 x1 x2 x3 s6
      else
        j_X3_amount_98 x0 x1 x2 x3 s
      else none
set_option maxRecDepth 20000 in
set_option maxHeartbeats 4000000 in
theorem ok_b_X3_amount_2 {g : pG} {l : Launch} {F : pF} {N : Nat} {x0 : Nat} {x1 : Int32} {x2 : Int32} {x3 : Int32} {s : cS} {x : ((Int32 × cS) ⊕ (Int32 × cS))} (hx0 : kd x0 3) (h : b_X3_amount_2 N x0 x1 x2 x3 s = some x) (hx : (KL (fun (v : Int32 × cS) => PW g l (pRoom 3 0 0) M_X3_amount F 2 [(0, .ref x0), (1, .int x1), (2, .int x2), (3, .int v.1)] [] (tS v.2) 0 0) (fun q => F = pE g (some (.int q.1)) (tS q.2) 0 0)) x) : PW g l (pRoom 3 0 0) M_X3_amount F 2 [(0, .ref x0), (1, .int x1), (2, .int x2), (3, .int x3)] [] (tS s) 0 0 := by
  unfold b_X3_amount_2 at h
  refine PW.iload_n 3 3 dX3_amount_2 rfl rfl ?_
  refine PW.aload_n 0 0 dX3_amount_3 rfl rfl rfl ?_
  refine CW.geti dX3_amount_4 fL_X3_31 hx0 (Or.inl rfl) ?_
  refine PW.icmp_ge (tgt := 104) dX3_amount_7 (by decide) (fun c1 => ?_) (fun c1 => ?_)
  · replace h := ifp h c1
    obtain ⟨xo, hy, hxo⟩ := oRb h
    clear h
    subst hxo
    replace hx := KLr hx
    have h := hy
    clear hy
    refine PW.iconst (v := 0) dX3_amount_104 (by decide) ?_
    cases h
    subst hx
    exact PW.iret (v := (0 : Int32)) dX3_amount_105 rfl rfl (Nat.le_refl 0) (Nat.le_refl 0)
  · replace h := ifn h c1
    refine PW.iload_n 3 3 dX3_amount_10 rfl rfl ?_
    refine PW.bipush (v := 12) dX3_amount_11 (by decide) ?_
    refine PW.icmp_ge (tgt := 104) dX3_amount_13 (by decide) (fun c2 => ?_) (fun c2 => ?_)
    · replace h := ifp h c2
      obtain ⟨xo, hy, hxo⟩ := oRb h
      clear h
      subst hxo
      replace hx := KLr hx
      have h := hy
      clear hy
      refine PW.iconst (v := 0) dX3_amount_104 (by decide) ?_
      cases h
      subst hx
      exact PW.iret (v := (0 : Int32)) dX3_amount_105 rfl rfl (Nat.le_refl 0) (Nat.le_refl 0)
    · replace h := ifn h c2
      refine PW.aload_n 0 0 dX3_amount_16 rfl rfl rfl ?_
      refine CW.getr dX3_amount_17 fL_X3_13 hx0 (Or.inr ⟨_, rfl⟩) (kr_3_1 hx0 _) ?_
      refine PW.iload_n 3 3 dX3_amount_20 rfl rfl ?_
      by_cases c3 : inb x3 12
      rotate_left
      · have h := ifn h c3; cases h
      replace h := ifp h c3
      refine CW.iald dX3_amount_21 (ka_3_2 hx0) c3 ?_
      refine PW.iload_n 1 1 dX3_amount_22 rfl rfl ?_
      refine PW.icmp_ne (tgt := 98) dX3_amount_23 (by decide) (fun c4 => ?_) (fun c4 => ?_)
      · replace h := ifn h c4
        exact PW.pick [0, 1, 2, 3] rfl (ok_j_X3_amount_98 hx0 h hx)
      · replace h := ifp h c4
        refine PW.aload_n 0 0 dX3_amount_26 rfl rfl rfl ?_
        refine PW.aload_n 0 0 dX3_amount_27 rfl rfl rfl ?_
        refine CW.getr dX3_amount_28 fL_X3_19 hx0 (Or.inr ⟨_, rfl⟩) (kr_3_3 hx0 _) ?_
        refine PW.iload_n 3 3 dX3_amount_31 rfl rfl ?_
        refine CW.iald dX3_amount_32 (ka_3_4 hx0) c3 ?_
        refine PW.aload_n 0 0 dX3_amount_33 rfl rfl rfl ?_
        refine CW.getr dX3_amount_34 fL_X3_22 hx0 (Or.inr ⟨_, rfl⟩) (kr_3_4 hx0 _) ?_
        refine PW.iload_n 3 3 dX3_amount_37 rfl rfl ?_
        refine CW.iald dX3_amount_38 (ka_3_5 hx0) c3 ?_
        obtain ⟨r5, s6, q7, h⟩ := obnd h
        refine CW.callVv (ci := 3) (st := []) [.int (iG s (x0 + 4) x3.toNatClampNeg), .int (iG s (x0 + 5) x3.toNatClampNeg)] dX3_amount_39 (p_X3_run hx0 q7) MV_X3_run mL_X3_53 (by decide) rfl hx0 rfl rfl (Nat.le_of_ble_eq_true rfl) (by first | decide | omega) ?_
        refine PW.aload_n 0 0 dX3_amount_42 rfl rfl rfl ?_
        refine CW.geti dX3_amount_43 fL_X3_56 hx0 (Or.inr rfl) ?_
        refine PW.if_eq (tgt := 98) dX3_amount_46 (by decide) (fun c8 => ?_) (fun c8 => ?_)
        · replace h := ifp h c8
          exact PW.pick [0, 1, 2, 3] rfl (ok_j_X3_amount_98 hx0 h hx)
        · replace h := ifn h c8
          refine PW.aload_n 0 0 dX3_amount_49 rfl rfl rfl ?_
          refine CW.geti dX3_amount_50 fL_X3_60 hx0 (Or.inr rfl) ?_
          refine PW.if_ne (tgt := 98) dX3_amount_53 (by decide) (fun c9 => ?_) (fun c9 => ?_)
          · replace h := ifn h c9
            exact PW.pick [0, 1, 2, 3] rfl (ok_j_X3_amount_98 hx0 h hx)
          · replace h := ifp h c9
            obtain ⟨xo, hy, hxo⟩ := oRb h
            clear h
            subst hxo
            replace hx := KLr hx
            have h := hy
            clear hy
            refine PW.aload_n 0 0 dX3_amount_56 rfl rfl rfl ?_
            refine PW.aload_n 0 0 dX3_amount_57 rfl rfl rfl ?_
            refine CW.getr dX3_amount_58 fL_X3_16 hx0 (Or.inr ⟨_, rfl⟩) (kr_3_2 hx0 _) ?_
            refine PW.iload_n 3 3 dX3_amount_61 rfl rfl ?_
            refine CW.iald dX3_amount_62 (ka_3_3 hx0) c3 ?_
            refine PW.aload_n 0 0 dX3_amount_63 rfl rfl rfl ?_
            refine CW.getr dX3_amount_64 fL_X3_19 hx0 (Or.inr ⟨_, rfl⟩) (kr_3_3 hx0 _) ?_
            refine PW.iload_n 3 3 dX3_amount_67 rfl rfl ?_
            refine CW.iald dX3_amount_68 (ka_3_4 hx0) c3 ?_
            obtain ⟨r10, s11, q12, h⟩ := obnd h
            refine CW.callVv (ci := 3) (st := []) [.int (iG s6 (x0 + 3) x3.toNatClampNeg), .int (iG s6 (x0 + 4) x3.toNatClampNeg)] dX3_amount_69 (p_X3_run hx0 q12) MV_X3_run mL_X3_53 (by decide) rfl hx0 rfl rfl (Nat.le_of_ble_eq_true rfl) (by first | decide | omega) ?_
            refine PW.aload_n 0 0 dX3_amount_72 rfl rfl rfl ?_
            refine CW.geti dX3_amount_73 fL_X3_60 hx0 (Or.inr rfl) ?_
            refine PW.if_eq (tgt := 83) dX3_amount_76 (by decide) (fun c13 => ?_) (fun c13 => ?_)
            · replace h := ifp h c13
              refine PW.iconst (v := 0) dX3_amount_83 (by decide) ?_
              refine PW.iload_n 2 2 dX3_amount_84 rfl rfl ?_
              refine PW.aload_n 0 0 dX3_amount_85 rfl rfl rfl ?_
              refine CW.getr dX3_amount_86 fL_X3_28 hx0 (Or.inr ⟨_, rfl⟩) (kr_3_6 hx0 _) ?_
              refine PW.iconst (v := 0) dX3_amount_89 (by decide) ?_
              refine CW.iald dX3_amount_90 (ka_3_7 hx0) (by decide) ?_
              refine CW.mmin dX3_amount_91 mL_X3_63 (Nat.le_of_ble_eq_true rfl) (by decide) ?_
              refine CW.mmax dX3_amount_94 mL_X3_69 (Nat.le_of_ble_eq_true rfl) (by decide) ?_
              cases h
              subst hx
              exact PW.iret (v := (if (0 : Int32) < (if (iG s11 (x0 + 7) 0) < x2 then (iG s11 (x0 + 7) 0) else x2) then (if (iG s11 (x0 + 7) 0) < x2 then (iG s11 (x0 + 7) 0) else x2) else (0 : Int32))) dX3_amount_97 rfl rfl (Nat.le_refl 0) (Nat.le_refl 0)
            · replace h := ifn h c13
              refine PW.iconst (v := 0) dX3_amount_79 (by decide) ?_
              refine PW.goto (tgt := 97) dX3_amount_80 (by decide) ?_
              cases h
              subst hx
              exact PW.iret (v := (0 : Int32)) dX3_amount_97 rfl rfl (Nat.le_refl 0) (Nat.le_refl 0)
def w_X3_amount_2 (N : Nat) (x0 : Nat) (x1 : Int32) (x2 : Int32) (x3 : Int32) (s : cS) : Option (Int32 × cS) := itr (fun (v : Int32 × cS) => b_X3_amount_2 N x0 x1 x2 v.1 v.2) N (x3, s)
theorem ok_w_X3_amount_2 {g : pG} {l : Launch} {F : pF} {N : Nat} {x0 : Nat} {x1 : Int32} {x2 : Int32} {x3 : Int32} {s : cS} {x : (Int32 × cS)} (hx0 : kd x0 3) (h : w_X3_amount_2 N x0 x1 x2 x3 s = some x) (hx : (fun q => F = pE g (some (.int q.1)) (tS q.2) 0 0) x) : PW g l (pRoom 3 0 0) M_X3_amount F 2 [(0, .ref x0), (1, .int x1), (2, .int x2), (3, .int x3)] [] (tS s) 0 0 :=
  okIter (P := (fun (v : Int32 × cS) => PW g l (pRoom 3 0 0) M_X3_amount F 2 [(0, .ref x0), (1, .int x1), (2, .int x2), (3, .int v.1)] [] (tS v.2) 0 0)) (K := (fun q => F = pE g (some (.int q.1)) (tS q.2) 0 0)) (fun v y hB hy => ok_b_X3_amount_2 hx0 hB hy) N (x3, s) x h hx
def f_X3_amount (N : Nat) (T : Nat) (a0 : Int32) (a1 : Int32) (s : cS) : Option (Int32 × cS) :=
  w_X3_amount_2 N T a0 a1 (0 : Int32) s
set_option maxRecDepth 20000 in
set_option maxHeartbeats 4000000 in
theorem p_X3_amount {g : pG} {l : Launch} {N : Nat} {T : Nat} {a0 : Int32} {a1 : Int32} {s : cS} {q : Int32 × cS} (hT : kd T 3) (h : f_X3_amount N T a0 a1 s = some q) : PM g l 3 M_X3_amount [.ref T, .int a0, .int a1] (tS s) (some (.int q.1)) (tS q.2) 0 0 := by
  refine PM.of (by decide +kernel) (Nat.le_of_ble_eq_true rfl) ?_
  show PW g l (pRoom 3 0 0) M_X3_amount _ 0 [(0, .ref T), (1, .int a0), (2, .int a1)] [] (tS s) 0 0
  unfold f_X3_amount at h
  generalize hF : pE g (some (.int q.1)) (tS q.2) 0 0 = F
  have hx := hF.symm
  refine PW.iconst (v := 0) dX3_amount_0 (by decide) ?_
  refine PW.istore_n dX3_amount_1 rfl (Nat.le_of_ble_eq_true rfl) rfl ?_
  exact PW.pick [1, 2, 3, 0] rfl (ok_w_X3_amount_2 hT h hx)
