/-! X12_isIn -/
def f_X12_isIn (a0 : Int64) (a1 : Int64) (a2 : Int64) (s : cS) : Int32 :=
  if (lg_cmp a0 a1) < 0 then
    (0 : Int32)
  else
    if 0 < (lg_cmp a0 a2) then
      (0 : Int32)
    else
      (1 : Int32)
set_option maxRecDepth 20000 in
set_option maxHeartbeats 4000000 in
theorem p_X12_isIn {g : pG} {l : Launch} {a0 : Int64} {a1 : Int64} {a2 : Int64} {s : cS} {q : Int32} (h : f_X12_isIn a0 a1 a2 s = q) : PM g l 1 M_X12_isIn [.long a0, .long a1, .long a2] (tS s) (some (.int q)) (tS s) 0 0 := by
  refine PM.of (by decide +kernel) (Nat.le_of_ble_eq_true rfl) ?_
  show PW g l (pRoom 1 0 0) M_X12_isIn _ 0 [(0, .long a0), (2, .long a1), (4, .long a2)] [] (tS s) 0 0
  unfold f_X12_isIn at h
  generalize hF : pE g (some (.int q)) (tS s) 0 0 = F
  have hx := hF.symm
  refine PW.lload_n 0 0 dX12_isIn_0 rfl rfl ?_
  refine PW.lload_n 1 2 dX12_isIn_1 rfl rfl ?_
  refine PW.lcmp dX12_isIn_2 ?_
  refine PW.if_lt (tgt := 17) dX12_isIn_3 (by decide) (fun c1 => ?_) (fun c1 => ?_)
  · replace h := ifp h c1
    refine PW.iconst (v := 0) dX12_isIn_17 (by decide) ?_
    cases h
    subst hx
    exact PW.iret (v := (0 : Int32)) dX12_isIn_18 rfl (narZ (Or.inl rfl)) (Nat.le_refl 0) (Nat.le_refl 0)
  · replace h := ifn h c1
    refine PW.lload_n 0 0 dX12_isIn_6 rfl rfl ?_
    refine PW.lload 2 dX12_isIn_7 rfl ?_
    refine PW.lcmp dX12_isIn_9 ?_
    refine PW.if_gt (tgt := 17) dX12_isIn_10 (by decide) (fun c2 => ?_) (fun c2 => ?_)
    · replace h := ifp h c2
      refine PW.iconst (v := 0) dX12_isIn_17 (by decide) ?_
      cases h
      subst hx
      exact PW.iret (v := (0 : Int32)) dX12_isIn_18 rfl (narZ (Or.inl rfl)) (Nat.le_refl 0) (Nat.le_refl 0)
    · replace h := ifn h c2
      refine PW.iconst (v := 1) dX12_isIn_13 (by decide) ?_
      refine PW.goto (tgt := 18) dX12_isIn_14 (by decide) ?_
      cases h
      subst hx
      exact PW.iret (v := (1 : Int32)) dX12_isIn_18 rfl (narZ (Or.inr rfl)) (Nat.le_refl 0) (Nat.le_refl 0)
theorem f_X12_isIn_bool {a0 : Int64} {a1 : Int64} {a2 : Int64} {s : cS} : f_X12_isIn a0 a1 a2 s = 0 ∨ f_X12_isIn a0 a1 a2 s = 1 := by
  unfold f_X12_isIn
  repeat' split
  all_goals first | exact Or.inl rfl | exact Or.inr rfl
