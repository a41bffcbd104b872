/-! J0_coder_7d493 -/
def f_J0_coder_7d493 (s : cS) : Int32 :=
  (0 : Int32)
set_option maxRecDepth 20000 in
set_option maxHeartbeats 4000000 in
theorem p_J0_coder_7d493 {g : pG} {l : Launch} {s : cS} {q : Int32} (h : f_J0_coder_7d493 s = q) : PM g l 1 M_J0_coder_7d493 [.float 1] (tS s) (some (.int q)) (tS s) 0 0 := by
  refine PM.of (by decide +kernel) (Nat.le_of_ble_eq_true rfl) ?_
  show PW g l (pRoom 1 0 0) M_J0_coder_7d493 _ 0 [(0, .float 1)] [] (tS s) 0 0
  unfold f_J0_coder_7d493 at h
  generalize hF : pE g (some (.int q)) (tS s) 0 0 = F
  have hx := hF.symm
  refine PW.compact dJ0_coder_7d493_0 fL_J0_38 ?_
  refine PW.if_eq (tgt := 13) dJ0_coder_7d493_3 (by decide) (fun z => absurd z (by decide)) (fun _ => ?_)
  refine PW.aload_n 0 0 dJ0_coder_7d493_6 rfl rfl rfl ?_
  refine PW.strCoder dJ0_coder_7d493_7 fL_J0_15 ?_
  refine PW.goto (tgt := 14) dJ0_coder_7d493_10 (by decide) ?_
  cases h
  subst hx
  exact PW.iret (v := (0 : Int32)) dJ0_coder_7d493_14 rfl rfl (Nat.le_refl 0) (Nat.le_refl 0)
/-! J0_isLatin1_aae02 -/
def f_J0_isLatin1_aae02 (s : cS) : Int32 :=
  (1 : Int32)
set_option maxRecDepth 20000 in
set_option maxHeartbeats 4000000 in
theorem p_J0_isLatin1_aae02 {g : pG} {l : Launch} {s : cS} {q : Int32} (h : f_J0_isLatin1_aae02 s = q) : PM g l 1 M_J0_isLatin1_aae02 [.float 1] (tS s) (some (.int q)) (tS s) 0 0 := by
  refine PM.of (by decide +kernel) (Nat.le_of_ble_eq_true rfl) ?_
  show PW g l (pRoom 1 0 0) M_J0_isLatin1_aae02 _ 0 [(0, .float 1)] [] (tS s) 0 0
  unfold f_J0_isLatin1_aae02 at h
  generalize hF : pE g (some (.int q)) (tS s) 0 0 = F
  have hx := hF.symm
  refine PW.compact dJ0_isLatin1_aae02_0 fL_J0_38 ?_
  refine PW.if_eq (tgt := 17) dJ0_isLatin1_aae02_3 (by decide) (fun z => absurd z (by decide)) (fun _ => ?_)
  refine PW.aload_n 0 0 dJ0_isLatin1_aae02_6 rfl rfl rfl ?_
  refine PW.strCoder dJ0_isLatin1_aae02_7 fL_J0_15 ?_
  refine PW.if_ne (tgt := 17) dJ0_isLatin1_aae02_10 (by decide) (fun z => absurd (by decide) z) (fun _ => ?_)
  refine PW.iconst (v := 1) dJ0_isLatin1_aae02_13 (by decide) ?_
  refine PW.goto (tgt := 18) dJ0_isLatin1_aae02_14 (by decide) ?_
  cases h
  subst hx
  exact PW.iret (v := (1 : Int32)) dJ0_isLatin1_aae02_18 rfl (narZ (Or.inr rfl)) (Nat.le_refl 0) (Nat.le_refl 0)
theorem f_J0_isLatin1_aae02_bool {s : cS} : f_J0_isLatin1_aae02 s = 0 ∨ f_J0_isLatin1_aae02 s = 1 := by
  unfold f_J0_isLatin1_aae02
  repeat' split
  all_goals first | exact Or.inl rfl | exact Or.inr rfl
/-! J0_length_8abf5 -/
def f_J0_length_8abf5 (s : cS) : Int32 :=
  ((10 : Int32) >>> ((f_J0_coder_7d493 s) &&& 31))
set_option maxRecDepth 20000 in
set_option maxHeartbeats 4000000 in
theorem p_J0_length_8abf5 {g : pG} {l : Launch} {s : cS} {q : Int32} (h : f_J0_length_8abf5 s = q) : PM g l 2 M_J0_length_8abf5 [.float 1] (tS s) (some (.int q)) (tS s) 0 0 := by
  refine PM.of (by decide +kernel) (Nat.le_of_ble_eq_true rfl) ?_
  show PW g l (pRoom 2 0 0) M_J0_length_8abf5 _ 0 [(0, .float 1)] [] (tS s) 0 0
  unfold f_J0_length_8abf5 at h
  generalize hF : pE g (some (.int q)) (tS s) 0 0 = F
  have hx := hF.symm
  refine PW.aload_n 0 0 dJ0_length_8abf5_0 rfl rfl rfl ?_
  refine PW.strValue dJ0_length_8abf5_1 fL_J0_9 ?_
  refine PW.strLen dJ0_length_8abf5_4 ?_
  refine PW.aload_n 0 0 dJ0_length_8abf5_5 rfl rfl rfl ?_
  refine CW.callStri (st := [.int (10 : Int32)]) [] dJ0_length_8abf5_6 (p_J0_coder_7d493 rfl) MV_J0_coder_7d493 mL_J0_335 rfl rfl rfl (Nat.le_of_ble_eq_true rfl) (by first | decide | omega) ?_
  refine PW.ishr dJ0_length_8abf5_9 ?_
  cases h
  subst hx
  exact PW.iret (v := ((10 : Int32) >>> ((f_J0_coder_7d493 s) &&& 31))) dJ0_length_8abf5_10 rfl rfl (Nat.le_refl 0) (Nat.le_refl 0)
/-! J1_canEncode_9a6ad -/
def f_J1_canEncode_9a6ad (a0 : Int32) (s : cS) : Int32 :=
  if a0 < 0 then
    (0 : Int32)
  else
    if (255 : Int32) < a0 then
      (0 : Int32)
    else
      (1 : Int32)
set_option maxRecDepth 20000 in
set_option maxHeartbeats 4000000 in
theorem p_J1_canEncode_9a6ad {g : pG} {l : Launch} {a0 : Int32} {s : cS} {q : Int32} (h : f_J1_canEncode_9a6ad a0 s = q) : PM g l 1 M_J1_canEncode_9a6ad [.int a0] (tS s) (some (.int q)) (tS s) 0 0 := by
  refine PM.of (by decide +kernel) (Nat.le_of_ble_eq_true rfl) ?_
  show PW g l (pRoom 1 0 0) M_J1_canEncode_9a6ad _ 0 [(0, .int a0)] [] (tS s) 0 0
  unfold f_J1_canEncode_9a6ad at h
  generalize hF : pE g (some (.int q)) (tS s) 0 0 = F
  have hx := hF.symm
  refine PW.iload_n 0 0 dJ1_canEncode_9a6ad_0 rfl rfl ?_
  refine PW.if_lt (tgt := 15) dJ1_canEncode_9a6ad_1 (by decide) (fun c1 => ?_) (fun c1 => ?_)
  · replace h := ifp h c1
    refine PW.iconst (v := 0) dJ1_canEncode_9a6ad_15 (by decide) ?_
    cases h
    subst hx
    exact PW.iret (v := (0 : Int32)) dJ1_canEncode_9a6ad_16 rfl (narZ (Or.inl rfl)) (Nat.le_refl 0) (Nat.le_refl 0)
  · replace h := ifn h c1
    refine PW.iload_n 0 0 dJ1_canEncode_9a6ad_4 rfl rfl ?_
    refine PW.sipush (v := 255) dJ1_canEncode_9a6ad_5 (by decide) ?_
    refine PW.icmp_gt (tgt := 15) dJ1_canEncode_9a6ad_8 (by decide) (fun c2 => ?_) (fun c2 => ?_)
    · replace h := ifp h c2
      refine PW.iconst (v := 0) dJ1_canEncode_9a6ad_15 (by decide) ?_
      cases h
      subst hx
      exact PW.iret (v := (0 : Int32)) dJ1_canEncode_9a6ad_16 rfl (narZ (Or.inl rfl)) (Nat.le_refl 0) (Nat.le_refl 0)
    · replace h := ifn h c2
      refine PW.iconst (v := 1) dJ1_canEncode_9a6ad_11 (by decide) ?_
      refine PW.goto (tgt := 16) dJ1_canEncode_9a6ad_12 (by decide) ?_
      cases h
      subst hx
      exact PW.iret (v := (1 : Int32)) dJ1_canEncode_9a6ad_16 rfl (narZ (Or.inr rfl)) (Nat.le_refl 0) (Nat.le_refl 0)
theorem f_J1_canEncode_9a6ad_bool {a0 : Int32} {s : cS} : f_J1_canEncode_9a6ad a0 s = 0 ∨ f_J1_canEncode_9a6ad a0 s = 1 := by
  unfold f_J1_canEncode_9a6ad
  repeat' split
  all_goals first | exact Or.inl rfl | exact Or.inr rfl
/-! J1_indexOfChar_4cfef -/
def b_J1_indexOfChar_4cfef_7 (x3 : Int32) (x4 : Int32) (x5 : Int32) (s : cS) : Option ((Int32 × cS) ⊕ (Int32 × cS)) :=
  if x3 ≤ x5 then
    oR (
      some (((-1 : Int32), s)))
  else
    if inb x5 10 then
    if ((strB.getD 0 []).getD x5.toNatClampNeg 0) = x4 then
      oR (
        some ((x5, s)))
    else
      some (.inl ((x5 + (1 : Int32)), s))
    else none
set_option maxRecDepth 20000 in
set_option maxHeartbeats 4000000 in
theorem ok_b_J1_indexOfChar_4cfef_7 {g : pG} {l : Launch} {F : pF} {x3 : Int32} {x4 : Int32} {x5 : Int32} {s : cS} {x : ((Int32 × cS) ⊕ (Int32 × cS))} (h : b_J1_indexOfChar_4cfef_7 x3 x4 x5 s = some x) (hx : (KL (fun (v : Int32 × cS) => PW g l (pRoom 1 0 0) M_J1_indexOfChar_4cfef F 7 [(0, .float 2), (3, .int x3), (4, .int x4), (5, .int v.1)] [] (tS v.2) 0 0) (fun q => F = pE g (some (.int q.1)) (tS q.2) 0 0)) x) : PW g l (pRoom 1 0 0) M_J1_indexOfChar_4cfef F 7 [(0, .float 2), (3, .int x3), (4, .int x4), (5, .int x5)] [] (tS s) 0 0 := by
  unfold b_J1_indexOfChar_4cfef_7 at h
  refine PW.iload 3 dJ1_indexOfChar_4cfef_7 rfl ?_
  refine PW.iload_n 1 3 dJ1_indexOfChar_4cfef_9 rfl rfl ?_
  refine PW.icmp_ge (tgt := 31) dJ1_indexOfChar_4cfef_10 (by decide) (fun c1 => ?_) (fun c1 => ?_)
  · replace h := ifp h c1
    obtain ⟨xo, hy, hxo⟩ := oRb h
    clear h
    subst hxo
    replace hx := KLr hx
    have h := hy
    clear hy
    refine PW.iconst (v := (-1)) dJ1_indexOfChar_4cfef_31 (by decide) ?_
    cases h
    subst hx
    exact PW.iret (v := (-1 : Int32)) dJ1_indexOfChar_4cfef_32 rfl rfl (Nat.le_refl 0) (Nat.le_refl 0)
  · replace h := ifn h c1
    refine PW.aload_n 0 0 dJ1_indexOfChar_4cfef_13 rfl rfl rfl ?_
    refine PW.iload 3 dJ1_indexOfChar_4cfef_14 rfl ?_
    by_cases c2 : inb x5 10
    rotate_left
    · have h := ifn h c2; cases h
    replace h := ifp h c2
    refine PW.strByte dJ1_indexOfChar_4cfef_16 c2 rfl ?_
    refine PW.iload 2 dJ1_indexOfChar_4cfef_17 rfl ?_
    refine PW.icmp_ne (tgt := 25) dJ1_indexOfChar_4cfef_19 (by decide) (fun c3 => ?_) (fun c3 => ?_)
    · replace h := ifn h c3
      refine PW.iinc (v := (x5 + (1 : Int32))) 3 dJ1_indexOfChar_4cfef_25 rfl (by first | rfl | decide) (Nat.le_of_ble_eq_true rfl) rfl ?_
      refine PW.goto (tgt := 7) dJ1_indexOfChar_4cfef_28 (by decide) ?_
      cases h
      exact PW.pick [1, 2, 3, 0] rfl hx
    · replace h := ifp h c3
      obtain ⟨xo, hy, hxo⟩ := oRb h
      clear h
      subst hxo
      replace hx := KLr hx
      have h := hy
      clear hy
      refine PW.iload 3 dJ1_indexOfChar_4cfef_22 rfl ?_
      cases h
      subst hx
      exact PW.iret (v := x5) dJ1_indexOfChar_4cfef_24 rfl rfl (Nat.le_refl 0) (Nat.le_refl 0)
def w_J1_indexOfChar_4cfef_7 (N : Nat) (x3 : Int32) (x4 : Int32) (x5 : Int32) (s : cS) : Option (Int32 × cS) := itr (fun (v : Int32 × cS) => b_J1_indexOfChar_4cfef_7 x3 x4 v.1 v.2) N (x5, s)
theorem ok_w_J1_indexOfChar_4cfef_7 {g : pG} {l : Launch} {F : pF} {N : Nat} {x3 : Int32} {x4 : Int32} {x5 : Int32} {s : cS} {x : (Int32 × cS)} (h : w_J1_indexOfChar_4cfef_7 N x3 x4 x5 s = some x) (hx : (fun q => F = pE g (some (.int q.1)) (tS q.2) 0 0) x) : PW g l (pRoom 1 0 0) M_J1_indexOfChar_4cfef F 7 [(0, .float 2), (3, .int x3), (4, .int x4), (5, .int x5)] [] (tS s) 0 0 :=
  okIter (P := (fun (v : Int32 × cS) => PW g l (pRoom 1 0 0) M_J1_indexOfChar_4cfef F 7 [(0, .float 2), (3, .int x3), (4, .int x4), (5, .int v.1)] [] (tS v.2) 0 0)) (K := (fun q => F = pE g (some (.int q.1)) (tS q.2) 0 0)) (fun v y hB hy => ok_b_J1_indexOfChar_4cfef_7 hB hy) N (x5, s) x h hx
def f_J1_indexOfChar_4cfef (N : Nat) (a1 : Int32) (a2 : Int32) (a3 : Int32) (s : cS) : Option (Int32 × cS) :=
  w_J1_indexOfChar_4cfef_7 N a3 a1.toInt8.toInt32 a2 s
set_option maxRecDepth 20000 in
set_option maxHeartbeats 4000000 in
theorem p_J1_indexOfChar_4cfef {g : pG} {l : Launch} {N : Nat} {a1 : Int32} {a2 : Int32} {a3 : Int32} {s : cS} {q : Int32 × cS} (h : f_J1_indexOfChar_4cfef N a1 a2 a3 s = some q) : PM g l 1 M_J1_indexOfChar_4cfef [.float 2, .int a1, .int a2, .int a3] (tS s) (some (.int q.1)) (tS q.2) 0 0 := by
  refine PM.of (by decide +kernel) (Nat.le_of_ble_eq_true rfl) ?_
  show PW g l (pRoom 1 0 0) M_J1_indexOfChar_4cfef _ 0 [(0, .float 2), (1, .int a1), (2, .int a2), (3, .int a3)] [] (tS s) 0 0
  unfold f_J1_indexOfChar_4cfef at h
  generalize hF : pE g (some (.int q.1)) (tS q.2) 0 0 = F
  have hx := hF.symm
  refine PW.iload_n 1 1 dJ1_indexOfChar_4cfef_0 rfl rfl ?_
  refine PW.i2b dJ1_indexOfChar_4cfef_1 ?_
  refine PW.istore dJ1_indexOfChar_4cfef_2 (Nat.le_of_ble_eq_true rfl) rfl ?_
  refine PW.iload_n 3 2 dJ1_indexOfChar_4cfef_4 rfl rfl ?_
  refine PW.istore dJ1_indexOfChar_4cfef_5 (Nat.le_of_ble_eq_true rfl) rfl ?_
  exact PW.pick [2, 5, 1, 0] rfl (ok_w_J1_indexOfChar_4cfef_7 h hx)
/-! J1_indexOf_4cfef -/
def f_J1_indexOf_4cfef (N : Nat) (a1 : Int32) (a2 : Int32) (a3 : Int32) (s : cS) : Option (Int32 × cS) :=
  if (f_J1_canEncode_9a6ad a1 s) = 0 then
    some (((-1 : Int32), s))
  else
    if (if a2 < (0 : Int32) then (0 : Int32) else a2) < (if (10 : Int32) < a3 then (10 : Int32) else a3) then
      ob (f_J1_indexOfChar_4cfef N a1 (if a2 < (0 : Int32) then (0 : Int32) else a2) (if (10 : Int32) < a3 then (10 : Int32) else a3) s) fun r4 s5 =>
      some ((r4, s5))
    else
      some (((-1 : Int32), s))
set_option maxRecDepth 20000 in
set_option maxHeartbeats 4000000 in
theorem p_J1_indexOf_4cfef {g : pG} {l : Launch} {N : Nat} {a1 : Int32} {a2 : Int32} {a3 : Int32} {s : cS} {q : Int32 × cS} (h : f_J1_indexOf_4cfef N a1 a2 a3 s = some q) : PM g l 2 M_J1_indexOf_4cfef [.float 2, .int a1, .int a2, .int a3] (tS s) (some (.int q.1)) (tS q.2) 0 0 := by
  refine PM.of (by decide +kernel) (Nat.le_of_ble_eq_true rfl) ?_
  show PW g l (pRoom 2 0 0) M_J1_indexOf_4cfef _ 0 [(0, .float 2), (1, .int a1), (2, .int a2), (3, .int a3)] [] (tS s) 0 0
  unfold f_J1_indexOf_4cfef at h
  generalize hF : pE g (some (.int q.1)) (tS q.2) 0 0 = F
  have hx := hF.symm
  refine PW.iload_n 1 1 dJ1_indexOf_4cfef_0 rfl rfl ?_
  refine CW.callSi (st := []) [.int a1] dJ1_indexOf_4cfef_1 (p_J1_canEncode_9a6ad rfl) MS_J1_canEncode_9a6ad mL_J1_88 rfl rfl (Nat.le_of_ble_eq_true rfl) (by first | decide | omega) ?_
  refine PW.if_ne (tgt := 9) dJ1_indexOf_4cfef_4 (by decide) (fun c2 => ?_) (fun c2 => ?_)
  · replace h := ifn h c2
    refine PW.iload_n 2 2 dJ1_indexOf_4cfef_9 rfl rfl ?_
    refine PW.iconst (v := 0) dJ1_indexOf_4cfef_10 (by decide) ?_
    refine CW.mmax dJ1_indexOf_4cfef_11 mL_J1_92 (Nat.le_of_ble_eq_true rfl) (by decide) ?_
    refine PW.istore_n dJ1_indexOf_4cfef_14 rfl (Nat.le_of_ble_eq_true rfl) rfl ?_
    refine PW.iload_n 3 3 dJ1_indexOf_4cfef_15 rfl rfl ?_
    refine PW.aload_n 1 0 dJ1_indexOf_4cfef_16 rfl rfl rfl ?_
    refine PW.strLen dJ1_indexOf_4cfef_17 ?_
    refine CW.mmin dJ1_indexOf_4cfef_18 mL_J1_38 (Nat.le_of_ble_eq_true rfl) (by decide) ?_
    refine PW.istore_n dJ1_indexOf_4cfef_21 rfl (Nat.le_of_ble_eq_true rfl) rfl ?_
    refine PW.iload_n 1 2 dJ1_indexOf_4cfef_22 rfl rfl ?_
    refine PW.iload_n 0 3 dJ1_indexOf_4cfef_23 rfl rfl ?_
    refine PW.icmp_lt (tgt := 29) dJ1_indexOf_4cfef_24 (by decide) (fun c3 => ?_) (fun c3 => ?_)
    · replace h := ifp h c3
      refine PW.aload_n 2 0 dJ1_indexOf_4cfef_29 rfl rfl rfl ?_
      refine PW.iload_n 3 1 dJ1_indexOf_4cfef_30 rfl rfl ?_
      refine PW.iload_n 1 2 dJ1_indexOf_4cfef_31 rfl rfl ?_
      refine PW.iload_n 0 3 dJ1_indexOf_4cfef_32 rfl rfl ?_
      obtain ⟨r4, s5, q6, h⟩ := obnd h
      refine CW.callSi (st := []) [.float 2, .int a1, .int (if a2 < (0 : Int32) then (0 : Int32) else a2), .int (if (10 : Int32) < a3 then (10 : Int32) else a3)] dJ1_indexOf_4cfef_33 (p_J1_indexOfChar_4cfef q6) MS_J1_indexOfChar_4cfef mL_J1_95 rfl rfl (Nat.le_of_ble_eq_true rfl) (by first | decide | omega) ?_
      cases h
      subst hx
      exact PW.iret (v := r4) dJ1_indexOf_4cfef_36 rfl rfl (Nat.le_refl 0) (Nat.le_refl 0)
    · replace h := ifn h c3
      refine PW.iconst (v := (-1)) dJ1_indexOf_4cfef_27 (by decide) ?_
      cases h
      subst hx
      exact PW.iret (v := (-1 : Int32)) dJ1_indexOf_4cfef_28 rfl rfl (Nat.le_refl 0) (Nat.le_refl 0)
  · replace h := ifp h c2
    refine PW.iconst (v := (-1)) dJ1_indexOf_4cfef_7 (by decide) ?_
    cases h
    subst hx
    exact PW.iret (v := (-1 : Int32)) dJ1_indexOf_4cfef_8 rfl rfl (Nat.le_refl 0) (Nat.le_refl 0)
/-! J0_indexOf_7cf53 -/
def f_J0_indexOf_7cf53 (N : Nat) (a0 : Int32) (a1 : Int32) (s : cS) : Option (Int32 × cS) :=
  if (f_J0_isLatin1_aae02 s) = 0 then
    none
  else
    ob (f_J1_indexOf_4cfef N a0 a1 (f_J0_length_8abf5 s) s) fun r5 s6 =>
    some ((r5, s6))
set_option maxRecDepth 20000 in
set_option maxHeartbeats 4000000 in
theorem p_J0_indexOf_7cf53 {g : pG} {l : Launch} {N : Nat} {a0 : Int32} {a1 : Int32} {s : cS} {q : Int32 × cS} (h : f_J0_indexOf_7cf53 N a0 a1 s = some q) : PM g l 3 M_J0_indexOf_7cf53 [.float 1, .int a0, .int a1] (tS s) (some (.int q.1)) (tS q.2) 0 0 := by
  refine PM.of (by decide +kernel) (Nat.le_of_ble_eq_true rfl) ?_
  show PW g l (pRoom 3 0 0) M_J0_indexOf_7cf53 _ 0 [(0, .float 1), (1, .int a0), (2, .int a1)] [] (tS s) 0 0
  unfold f_J0_indexOf_7cf53 at h
  generalize hF : pE g (some (.int q.1)) (tS q.2) 0 0 = F
  have hx := hF.symm
  refine PW.aload_n 0 0 dJ0_indexOf_7cf53_0 rfl rfl rfl ?_
  refine CW.callStri (st := []) [] dJ0_indexOf_7cf53_1 (p_J0_isLatin1_aae02 rfl) MV_J0_isLatin1_aae02 mL_J0_492 rfl rfl rfl (Nat.le_of_ble_eq_true rfl) (by first | decide | omega) ?_
  refine PW.if_eq (tgt := 23) dJ0_indexOf_7cf53_4 (by decide) (fun c2 => ?_) (fun c2 => ?_)
  · replace h := ifp h c2
    refine PW.aload_n 0 0 dJ0_indexOf_7cf53_23 rfl rfl rfl ?_
    refine PW.strValue dJ0_indexOf_7cf53_24 fL_J0_9 ?_
    refine PW.iload_n 1 1 dJ0_indexOf_7cf53_27 rfl rfl ?_
    refine PW.iload_n 2 2 dJ0_indexOf_7cf53_28 rfl rfl ?_
    refine PW.aload_n 0 0 dJ0_indexOf_7cf53_29 rfl rfl rfl ?_
    refine CW.callStri (st := [.int a1, .int a0, .float 2]) [] dJ0_indexOf_7cf53_30 (p_J0_length_8abf5 rfl) MV_J0_length_8abf5 mL_J0_505 rfl rfl rfl (Nat.le_of_ble_eq_true rfl) (by first | decide | omega) ?_
    cases h
  · replace h := ifn h c2
    refine PW.aload_n 0 0 dJ0_indexOf_7cf53_7 rfl rfl rfl ?_
    refine PW.strValue dJ0_indexOf_7cf53_8 fL_J0_9 ?_
    refine PW.iload_n 1 1 dJ0_indexOf_7cf53_11 rfl rfl ?_
    refine PW.iload_n 2 2 dJ0_indexOf_7cf53_12 rfl rfl ?_
    refine PW.aload_n 0 0 dJ0_indexOf_7cf53_13 rfl rfl rfl ?_
    refine CW.callStri (st := [.int a1, .int a0, .float 2]) [] dJ0_indexOf_7cf53_14 (p_J0_length_8abf5 rfl) MV_J0_length_8abf5 mL_J0_505 rfl rfl rfl (Nat.le_of_ble_eq_true rfl) (by first | decide | omega) ?_
    obtain ⟨r5, s6, q7, h⟩ := obnd h
    refine CW.callSi (st := []) [.float 2, .int a0, .int a1, .int (f_J0_length_8abf5 s)] dJ0_indexOf_7cf53_17 (p_J1_indexOf_4cfef q7) MS_J1_indexOf_4cfef mL_J0_637 rfl rfl (Nat.le_of_ble_eq_true rfl) (by first | decide | omega) ?_
    refine PW.goto (tgt := 36) dJ0_indexOf_7cf53_20 (by decide) ?_
    cases h
    subst hx
    exact PW.iret (v := r5) dJ0_indexOf_7cf53_36 rfl rfl (Nat.le_refl 0) (Nat.le_refl 0)
/-! J0_indexOf_0f7a4 -/
def f_J0_indexOf_0f7a4 (N : Nat) (a0 : Int32) (s : cS) : Option (Int32 × cS) :=
  ob (f_J0_indexOf_7cf53 N a0 (0 : Int32) s) fun r1 s2 =>
  some ((r1, s2))
set_option maxRecDepth 20000 in
set_option maxHeartbeats 4000000 in
theorem p_J0_indexOf_0f7a4 {g : pG} {l : Launch} {N : Nat} {a0 : Int32} {s : cS} {q : Int32 × cS} (h : f_J0_indexOf_0f7a4 N a0 s = some q) : PM g l 4 M_J0_indexOf_0f7a4 [.float 1, .int a0] (tS s) (some (.int q.1)) (tS q.2) 0 0 := by
  refine PM.of (by decide +kernel) (Nat.le_of_ble_eq_true rfl) ?_
  show PW g l (pRoom 4 0 0) M_J0_indexOf_0f7a4 _ 0 [(0, .float 1), (1, .int a0)] [] (tS s) 0 0
  unfold f_J0_indexOf_0f7a4 at h
  generalize hF : pE g (some (.int q.1)) (tS q.2) 0 0 = F
  have hx := hF.symm
  refine PW.aload_n 0 0 dJ0_indexOf_0f7a4_0 rfl rfl rfl ?_
  refine PW.iload_n 1 1 dJ0_indexOf_0f7a4_1 rfl rfl ?_
  refine PW.iconst (v := 0) dJ0_indexOf_0f7a4_2 (by decide) ?_
  obtain ⟨r1, s2, q3, h⟩ := obnd h
  refine CW.callStri (st := []) [.int a0, .int (0 : Int32)] dJ0_indexOf_0f7a4_3 (p_J0_indexOf_7cf53 q3) MV_J0_indexOf_7cf53 mL_J0_633 rfl rfl rfl (Nat.le_of_ble_eq_true rfl) (by first | decide | omega) ?_
  cases h
  subst hx
  exact PW.iret (v := r1) dJ0_indexOf_0f7a4_6 rfl rfl (Nat.le_refl 0) (Nat.le_refl 0)
