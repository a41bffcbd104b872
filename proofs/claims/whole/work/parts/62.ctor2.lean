theorem PW.cnt {g : pG} {l : Launch} {R : Room} {μ : pM} {F : pF} {pc : Nat} {lv : List (Nat × Value)} {st : List Value} {S : pS} {kc ks kc' ks' : Nat} (h1 : kc = kc') (h2 : ks = ks') (k : PW g l R μ F pc lv st S kc' ks') : PW g l R μ F pc lv st S kc ks := by
  subst h1; subst h2
  exact k
def z_0 : pS := ([], fun _ _ => 0, fun _ _ => 0, fun _ _ => none)
theorem hmS (C : Nat) : (∀ (T : Nat) (S : pS) (i : Nat) (k : pK), S.1[i]? = some k → (mkS C T S).1[i]? = some k) ∧ (∀ (T : Nat) (S : pS), (mkS C T S).1.length = S.1.length + 0) ∧ (∀ (T : Nat) (S : pS) (i k : Nat), i < S.1.length → i ≠ T → (mkS C T S).2.2.2 i k = S.2.2.2 i k) :=
  ⟨fun _ _ _ _ h => h, fun _ _ => rfl, fun T S i k _ h => by show upd2 S.2.2.2 T 0 _ i k = _; rw [upd2_ne h]⟩
theorem hmP : (∀ (T : Nat) (S : pS) (i : Nat) (k : pK), S.1[i]? = some k → (mkP T S).1[i]? = some k) ∧ (∀ (T : Nat) (S : pS), (mkP T S).1.length = S.1.length + 2) ∧ (∀ (T : Nat) (S : pS) (i k : Nat), i < S.1.length → i ≠ T → (mkP T S).2.2.2 i k = S.2.2.2 i k) :=
  ⟨fun _ _ _ _ h => cX6_l h, fun T S => by show ((S.1 ++ [_]) ++ [_]).length = _; simp, fun T S i k h1 h2 => cX6_r h1 h2⟩
def z_1 : pS := sN z_0 (.inl 11)
theorem zl_1 : z_1.1.length = 1 := by decide +kernel
def z_2 : pS := sN z_1 (.inl 9)
theorem zl_2 : z_2.1.length = 2 := by decide +kernel
def z_3 : pS := sN z_2 (.inr (0, 200))
theorem zk_3_1 : z_3.1[1]? = some (.inl 9) := by decide +kernel
def z_4 : pS := sR z_3 1 0 (some 2)
set_option maxRecDepth 20000 in
set_option maxHeartbeats 4000000 in
theorem k_X9_init {g : pG} {l : Launch} : PM g l 1 M_X9_init [.ref 1] z_2 none z_4 1 200 := by
  refine PM.of (by decide +kernel) (Nat.le_of_ble_eq_true rfl) ?_
  show PW g l (pRoom 1 1 200) M_X9_init _ 0 [(0, .ref 1)] [] z_2 0 0
  refine PW.aload_n 0 0 dX9_init_0 rfl rfl rfl ?_
  refine PW.objInit dX9_init_1 mL_X9_1 oI.1 oI.2 (Nat.le_of_ble_eq_true rfl) (Nat.le_of_ble_eq_true rfl) (Nat.le_of_ble_eq_true rfl) ?_
  refine PW.aload_n 0 0 dX9_init_4 rfl rfl rfl ?_
  refine PW.sipush (v := 200) dX9_init_5 (by decide) ?_
  refine KW.newa (t := 0) (n := 200) (m := 2) (S' := z_3) dX9_init_8 (by decide) aC_int (by decide) (by decide) (by decide) (Nat.le_of_ble_eq_true rfl) (Nat.le_of_ble_eq_true rfl) zl_2 rfl ?_
  refine KW.putr (S' := z_4) dX9_init_10 fL_X9_7 (Or.inr ⟨rfl, rfl⟩) zk_3_1 (Or.inr ⟨_, rfl⟩) rfl ?_
  exact PW.vret dX9_init_13 rfl (Nat.le_refl _) (Nat.le_refl _)
theorem zk_4_0 : z_4.1[0]? = some (.inl 11) := by decide +kernel
def z_5 : pS := sR z_4 0 0 (some 1)
theorem zl_5 : z_5.1.length = 3 := by decide +kernel
def z_6 : pS := sN z_5 (.inl 1)
theorem zl_6 : z_6.1.length = 4 := by decide +kernel
def z_7 : pS := sN z_6 (.inr (0, 8))
theorem zk_7_3 : z_7.1[3]? = some (.inl 1) := by decide +kernel
def z_8 : pS := sR z_7 3 0 (some 4)
theorem zl_8 : z_8.1.length = 5 := by decide +kernel
def z_9 : pS := sN z_8 (.inr (0, 8))
theorem zk_9_3 : z_9.1[3]? = some (.inl 1) := by decide +kernel
def z_10 : pS := sR z_9 3 1 (some 5)
theorem zl_10 : z_10.1.length = 6 := by decide +kernel
def z_11 : pS := sN z_10 (.inr (0, 8))
theorem zk_11_3 : z_11.1[3]? = some (.inl 1) := by decide +kernel
def z_12 : pS := sR z_11 3 2 (some 6)
theorem zl_12 : z_12.1.length = 7 := by decide +kernel
def z_13 : pS := sN z_12 (.inr (0, 8))
theorem zk_13_3 : z_13.1[3]? = some (.inl 1) := by decide +kernel
def z_14 : pS := sR z_13 3 3 (some 7)
theorem zl_14 : z_14.1.length = 8 := by decide +kernel
def z_15 : pS := sN z_14 (.inr (0, 8))
theorem zk_15_3 : z_15.1[3]? = some (.inl 1) := by decide +kernel
def z_16 : pS := sR z_15 3 4 (some 8)
theorem zl_16 : z_16.1.length = 9 := by decide +kernel
def z_17 : pS := sN z_16 (.inr (0, 32))
theorem zk_17_3 : z_17.1[3]? = some (.inl 1) := by decide +kernel
def z_18 : pS := sR z_17 3 5 (some 9)
theorem zl_18 : z_18.1.length = 10 := by decide +kernel
def z_19 : pS := sN z_18 (.inr (0, 32))
theorem zk_19_3 : z_19.1[3]? = some (.inl 1) := by decide +kernel
def z_20 : pS := sR z_19 3 6 (some 10)
theorem zl_20 : z_20.1.length = 11 := by decide +kernel
def z_21 : pS := sN z_20 (.inl 3)
theorem zk_21_11 : z_21.1[11]? = some (.inl 3) := by decide +kernel
def z_22 : pS := cX3 11 z_21
theorem zk_22_3 : z_22.1[3]? = some (.inl 1) := by decide +kernel
def z_23 : pS := sR z_22 3 9 (some 11)
theorem zl_23 : z_23.1.length = 19 := by decide +kernel
def z_24 : pS := sN z_23 (.inl 3)
theorem zk_24_19 : z_24.1[19]? = some (.inl 3) := by decide +kernel
def z_25 : pS := cX3 19 z_24
theorem zk_25_3 : z_25.1[3]? = some (.inl 1) := by decide +kernel
def z_26 : pS := sR z_25 3 10 (some 19)
set_option maxRecDepth 20000 in
set_option maxHeartbeats 4000000 in
theorem k_X1_init {g : pG} {l : Launch} : PM g l 2 M_X1_init [.ref 3] z_6 none z_26 23 646 := by
  refine PM.of (by decide +kernel) (Nat.le_of_ble_eq_true rfl) ?_
  show PW g l (pRoom 2 23 646) M_X1_init _ 0 [(0, .ref 3)] [] z_6 0 0
  refine PW.aload_n 0 0 dX1_init_0 rfl rfl rfl ?_
  refine PW.objInit dX1_init_1 mL_X1_1 oI.1 oI.2 (Nat.le_of_ble_eq_true rfl) (Nat.le_of_ble_eq_true rfl) (Nat.le_of_ble_eq_true rfl) ?_
  refine PW.aload_n 0 0 dX1_init_4 rfl rfl rfl ?_
  refine PW.bipush (v := 8) dX1_init_5 (by decide) ?_
  refine KW.newa (t := 0) (n := 8) (m := 4) (S' := z_7) dX1_init_7 (by decide) aC_int (by decide) (by decide) (by decide) (Nat.le_of_ble_eq_true rfl) (Nat.le_of_ble_eq_true rfl) zl_6 rfl ?_
  refine KW.putr (S' := z_8) dX1_init_9 fL_X1_9 (Or.inr ⟨rfl, rfl⟩) zk_7_3 (Or.inr ⟨_, rfl⟩) rfl ?_
  refine PW.aload_n 0 0 dX1_init_12 rfl rfl rfl ?_
  refine PW.bipush (v := 8) dX1_init_13 (by decide) ?_
  refine KW.newa (t := 0) (n := 8) (m := 5) (S' := z_9) dX1_init_15 (by decide) aC_int (by decide) (by decide) (by decide) (Nat.le_of_ble_eq_true rfl) (Nat.le_of_ble_eq_true rfl) zl_8 rfl ?_
  refine KW.putr (S' := z_10) dX1_init_17 fL_X1_13 (Or.inr ⟨rfl, rfl⟩) zk_9_3 (Or.inr ⟨_, rfl⟩) rfl ?_
  refine PW.aload_n 0 0 dX1_init_20 rfl rfl rfl ?_
  refine PW.bipush (v := 8) dX1_init_21 (by decide) ?_
  refine KW.newa (t := 0) (n := 8) (m := 6) (S' := z_11) dX1_init_23 (by decide) aC_int (by decide) (by decide) (by decide) (Nat.le_of_ble_eq_true rfl) (Nat.le_of_ble_eq_true rfl) zl_10 rfl ?_
  refine KW.putr (S' := z_12) dX1_init_25 fL_X1_16 (Or.inr ⟨rfl, rfl⟩) zk_11_3 (Or.inr ⟨_, rfl⟩) rfl ?_
  refine PW.aload_n 0 0 dX1_init_28 rfl rfl rfl ?_
  refine PW.bipush (v := 8) dX1_init_29 (by decide) ?_
  refine KW.newa (t := 0) (n := 8) (m := 7) (S' := z_13) dX1_init_31 (by decide) aC_int (by decide) (by decide) (by decide) (Nat.le_of_ble_eq_true rfl) (Nat.le_of_ble_eq_true rfl) zl_12 rfl ?_
  refine KW.putr (S' := z_14) dX1_init_33 fL_X1_19 (Or.inr ⟨rfl, rfl⟩) zk_13_3 (Or.inr ⟨_, rfl⟩) rfl ?_
  refine PW.aload_n 0 0 dX1_init_36 rfl rfl rfl ?_
  refine PW.bipush (v := 8) dX1_init_37 (by decide) ?_
  refine KW.newa (t := 0) (n := 8) (m := 8) (S' := z_15) dX1_init_39 (by decide) aC_int (by decide) (by decide) (by decide) (Nat.le_of_ble_eq_true rfl) (Nat.le_of_ble_eq_true rfl) zl_14 rfl ?_
  refine KW.putr (S' := z_16) dX1_init_41 fL_X1_22 (Or.inr ⟨rfl, rfl⟩) zk_15_3 (Or.inr ⟨_, rfl⟩) rfl ?_
  refine PW.aload_n 0 0 dX1_init_44 rfl rfl rfl ?_
  refine PW.bipush (v := 32) dX1_init_45 (by decide) ?_
  refine KW.newa (t := 0) (n := 32) (m := 9) (S' := z_17) dX1_init_47 (by decide) aC_int (by decide) (by decide) (by decide) (Nat.le_of_ble_eq_true rfl) (Nat.le_of_ble_eq_true rfl) zl_16 rfl ?_
  refine KW.putr (S' := z_18) dX1_init_49 fL_X1_25 (Or.inr ⟨rfl, rfl⟩) zk_17_3 (Or.inr ⟨_, rfl⟩) rfl ?_
  refine PW.aload_n 0 0 dX1_init_52 rfl rfl rfl ?_
  refine PW.bipush (v := 32) dX1_init_53 (by decide) ?_
  refine KW.newa (t := 0) (n := 32) (m := 10) (S' := z_19) dX1_init_55 (by decide) aC_int (by decide) (by decide) (by decide) (Nat.le_of_ble_eq_true rfl) (Nat.le_of_ble_eq_true rfl) zl_18 rfl ?_
  refine KW.putr (S' := z_20) dX1_init_57 fL_X1_28 (Or.inr ⟨rfl, rfl⟩) zk_19_3 (Or.inr ⟨_, rfl⟩) rfl ?_
  refine PW.aload_n 0 0 dX1_init_60 rfl rfl rfl ?_
  refine KW.newo (ci := 3) (n := 11) (S' := z_21) dX1_init_61 (by decide) cL_X1_31 iN_3 (Nat.le_of_ble_eq_true rfl) (Nat.le_of_ble_eq_true rfl) zl_20 rfl ?_
  refine PW.dup dX1_init_64 rfl ?_
  refine PW.callIN (S' := z_22) (r := none) (mc := 7) (ms := 258) (st := [.ref 11, .ref 3]) [] dX1_init_65 (kcX3 zk_21_11) MI_X3_init mN_X1_33 rfl rfl (Nat.le_of_ble_eq_true rfl) (by decide) (by decide) (Nat.le_of_ble_eq_true rfl) (Nat.le_of_ble_eq_true rfl) ?_
  show PW _ _ _ _ _ _ _ [.ref 11, .ref 3] _ _ _
  refine KW.putr (S' := z_23) dX1_init_68 fL_X1_34 (Or.inl rfl) zk_22_3 (Or.inl ⟨_, rfl⟩) rfl ?_
  refine PW.aload_n 0 0 dX1_init_71 rfl rfl rfl ?_
  refine KW.newo (ci := 3) (n := 19) (S' := z_24) dX1_init_72 (by decide) cL_X1_31 iN_3 (Nat.le_of_ble_eq_true rfl) (Nat.le_of_ble_eq_true rfl) zl_23 rfl ?_
  refine PW.dup dX1_init_75 rfl ?_
  refine PW.callIN (S' := z_25) (r := none) (mc := 7) (ms := 258) (st := [.ref 19, .ref 3]) [] dX1_init_76 (kcX3 zk_24_19) MI_X3_init mN_X1_33 rfl rfl (Nat.le_of_ble_eq_true rfl) (by decide) (by decide) (Nat.le_of_ble_eq_true rfl) (Nat.le_of_ble_eq_true rfl) ?_
  show PW _ _ _ _ _ _ _ [.ref 19, .ref 3] _ _ _
  refine KW.putr (S' := z_26) dX1_init_79 fL_X1_38 (Or.inl rfl) zk_25_3 (Or.inl ⟨_, rfl⟩) rfl ?_
  exact PW.vret dX1_init_82 rfl (Nat.le_refl _) (Nat.le_refl _)
theorem zk_26_0 : z_26.1[0]? = some (.inl 11) := by decide +kernel
def z_27 : pS := sR z_26 0 1 (some 3)
theorem zl_27 : z_27.1.length = 27 := by decide +kernel
def z_28 : pS := sN z_27 (.inl 4)
theorem zk_28_0 : z_28.1[0]? = some (.inl 11) := by decide +kernel
theorem zr_28_0_0 : z_28.2.2.2 0 0 = some 1 := by decide +kernel
theorem zr_28_0_1 : z_28.2.2.2 0 1 = some 3 := by decide +kernel
theorem zk_28_3 : z_28.1[3]? = some (.inl 1) := by decide +kernel
theorem zr_28_3_10 : z_28.2.2.2 3 10 = some 19 := by decide +kernel
theorem zk_28_27 : z_28.1[27]? = some (.inl 4) := by decide +kernel
def z_29 : pS := sR z_28 27 0 (some 1)
theorem zk_29_27 : z_29.1[27]? = some (.inl 4) := by decide +kernel
def z_30 : pS := sR z_29 27 1 (some 19)
set_option maxRecDepth 20000 in
set_option maxHeartbeats 4000000 in
theorem k_X4_init {g : pG} {l : Launch} : PM g l 1 M_X4_init [.ref 27, .ref 1, .ref 19] z_28 none z_30 0 0 := by
  refine PM.of (by decide +kernel) (Nat.le_of_ble_eq_true rfl) ?_
  show PW g l (pRoom 1 0 0) M_X4_init _ 0 [(0, .ref 27), (1, .ref 1), (2, .ref 19)] [] z_28 0 0
  refine PW.aload_n 0 0 dX4_init_0 rfl rfl rfl ?_
  refine PW.objInit dX4_init_1 mL_X4_3 oI.1 oI.2 (Nat.le_of_ble_eq_true rfl) (Nat.le_of_ble_eq_true rfl) (Nat.le_of_ble_eq_true rfl) ?_
  refine PW.aload_n 0 0 dX4_init_4 rfl rfl rfl ?_
  refine PW.aload_n 1 1 dX4_init_5 rfl rfl rfl ?_
  refine KW.putr (S' := z_29) dX4_init_6 fL_X4_9 (Or.inr ⟨rfl, rfl⟩) zk_28_27 (Or.inl ⟨_, rfl⟩) rfl ?_
  refine PW.aload_n 0 0 dX4_init_9 rfl rfl rfl ?_
  refine PW.aload_n 2 2 dX4_init_10 rfl rfl rfl ?_
  refine KW.putr (S' := z_30) dX4_init_11 fL_X4_15 (Or.inl rfl) zk_29_27 (Or.inl ⟨_, rfl⟩) rfl ?_
  exact PW.vret dX4_init_14 rfl (Nat.le_refl _) (Nat.le_refl _)
theorem zk_30_0 : z_30.1[0]? = some (.inl 11) := by decide +kernel
def z_31 : pS := sR z_30 0 2 (some 27)
theorem zl_31 : z_31.1.length = 28 := by decide +kernel
def z_32 : pS := sN z_31 (.inr (5, 8))
theorem zk_32_0 : z_32.1[0]? = some (.inl 11) := by decide +kernel
def z_33 : pS := sR z_32 0 3 (some 28)
theorem zl_33 : z_33.1.length = 29 := by decide +kernel
def z_34 : pS := sN z_33 (.inl 6)
theorem zk_34_29 : z_34.1[29]? = some (.inl 6) := by decide +kernel
def z_35 : pS := cX6 29 z_34
theorem zk_35_0 : z_35.1[0]? = some (.inl 11) := by decide +kernel
def z_36 : pS := sR z_35 0 4 (some 29)
theorem zl_36 : z_36.1.length = 32 := by decide +kernel
def z_37 : pS := sN z_36 (.inl 2)
theorem zk_37_0 : z_37.1[0]? = some (.inl 11) := by decide +kernel
theorem zr_37_0_1 : z_37.2.2.2 0 1 = some 3 := by decide +kernel
theorem zl_37 : z_37.1.length = 33 := by decide +kernel
def z_38 : pS := sN z_37 (.inr (4, 80))
theorem zk_38_32 : z_38.1[32]? = some (.inl 2) := by decide +kernel
def z_39 : pS := sR z_38 32 1 (some 33)
theorem zl_39 : z_39.1.length = 34 := by decide +kernel
def z_40 : pS := sN z_39 (.inr (0, 10))
theorem zk_40_32 : z_40.1[32]? = some (.inl 2) := by decide +kernel
def z_41 : pS := sR z_40 32 2 (some 34)
theorem zl_41 : z_41.1.length = 35 := by decide +kernel
def z_42 : pS := sN z_41 (.inr (0, 10))
theorem zk_42_32 : z_42.1[32]? = some (.inl 2) := by decide +kernel
def z_43 : pS := sR z_42 32 3 (some 35)
theorem zk_43_32 : z_43.1[32]? = some (.inl 2) := by decide +kernel
def z_44 : pS := sR z_43 32 0 (some 3)
theorem zk_44_32 : z_44.1[32]? = some (.inl 2) := by decide +kernel
theorem zr_44_32_1 : z_44.2.2.2 32 1 = some 33 := by decide +kernel
theorem zk_44_33 : z_44.1[33]? = some (.inr (4, 80)) := by decide +kernel
theorem zl_44 : z_44.1.length = 36 := by decide +kernel
def z_45 : pS := objS 33 8 (mkS 3) 80 z_44
set_option maxRecDepth 20000 in
set_option maxHeartbeats 4000000 in
theorem lp_X2_init_36 {g : pG} {l : Launch} {F : pF} (K : PW g l (pRoom 2 83 1380) M_X2_init F 65 [(2, .int (nI 80)), (0, .ref 32), (1, .ref 3)] [] (objS 33 8 (mkS 3) 80 z_44) (3 + 1 * 80) (100 + 16 * 80)) : ∀ (r i : Nat), i + r = 80 → PW g l (pRoom 2 83 1380) M_X2_init F 36 [(2, .int (nI i)), (0, .ref 32), (1, .ref 3)] [] (objS 33 8 (mkS 3) i z_44) (3 + 1 * i) (100 + 16 * i)
  | 0, i, h => by
    obtain rfl : i = 80 := by omega
    refine PW.iload_n 0 2 dX2_init_36 rfl rfl ?_
    refine PW.aload_n 1 0 dX2_init_37 rfl rfl rfl ?_
    refine KW.getr dX2_init_38 fL_X2_15 (objS_l (hmS 3).1 80 zk_44_32) (Or.inr ⟨_, rfl⟩) ((objS_r (hmS 3).2.2 (hmS 3).2.1 (by rw [zl_44]; decide) (by decide) 80).trans zr_44_32_1) ?_
    refine PW.alen (v := 80) dX2_init_41 (objS_l (hmS 3).1 80 zk_44_33) (by decide) rfl ?_
    refine PW.icmp_ge (tgt := 65) dX2_init_42 (by decide) (fun _ => K) (fun c => absurd (by decide) c)
  | r + 1, i, h => by
    have hcl : (nI i).toNatClampNeg = i := nI_clamp (by omega)
    have hin : vp_in (nI i) 80 := vp_in_nI (by omega) (by omega)
    refine PW.iload_n 0 2 dX2_init_36 rfl rfl ?_
    refine PW.aload_n 1 0 dX2_init_37 rfl rfl rfl ?_
    refine KW.getr dX2_init_38 fL_X2_15 (objS_l (hmS 3).1 i zk_44_32) (Or.inr ⟨_, rfl⟩) ((objS_r (hmS 3).2.2 (hmS 3).2.1 (by rw [zl_44]; decide) (by decide) i).trans zr_44_32_1) ?_
    refine PW.alen (v := 80) dX2_init_41 (objS_l (hmS 3).1 i zk_44_33) (by decide) rfl ?_
    refine PW.icmp_ge (tgt := 65) dX2_init_42 (by decide) (fun c => absurd c (loop_ge (n := 80) (by omega) (by decide))) (fun _ => ?_)
    refine PW.aload_n 1 0 dX2_init_45 rfl rfl rfl ?_
    refine KW.getr dX2_init_46 fL_X2_15 (objS_l (hmS 3).1 i zk_44_32) (Or.inr ⟨_, rfl⟩) ((objS_r (hmS 3).2.2 (hmS 3).2.1 (by rw [zl_44]; decide) (by decide) i).trans zr_44_32_1) ?_
    refine PW.iload_n 0 2 dX2_init_49 rfl rfl ?_
    refine KW.newo (ci := 8) dX2_init_50 (by decide) cL_X2_13 iN_8 (by show _ ≤ 83; omega) (by show _ + 16 ≤ 1380; omega) rfl rfl ?_
    refine PW.dup dX2_init_53 rfl ?_
    refine PW.aload_n 2 1 dX2_init_54 rfl rfl rfl ?_
    refine PW.callI (r := none) (st := [.ref (objS 33 8 (mkS 3) i z_44).1.length, .int (nI i), .ref 33]) [.ref 3] dX2_init_55 (kcX8 sN_n) MI_X8_init mL_X2_30 rfl rfl (Nat.le_of_ble_eq_true rfl) (by decide) (by decide) (by show _ ≤ 83; omega) (by show _ + 16 + 0 ≤ 1380; omega) ?_
    refine PW.aastore (ci := 8) dX2_init_58 ((hmS 3).1 _ _ _ _ (sN_l (objS_l (hmS 3).1 i zk_44_33))) (Or.inl ⟨rfl, rfl⟩) ((hmS 3).1 _ _ _ _ sN_n) hin ?_
    rw [hcl]
    refine PW.iinc (v := nI (i + 1)) 0 dX2_init_59 rfl (nI_1 i) (Nat.le_of_ble_eq_true rfl) rfl ?_
    refine PW.goto (tgt := 36) dX2_init_62 (by decide) ?_
    exact PW.cnt (by first | rfl | omega) (by first | rfl | (have : kN 8 = 16 := rfl; have : kN 6 = 4 := rfl; omega)) (lp_X2_init_36 K r (i + 1) (by omega))
set_option maxRecDepth 20000 in
set_option maxHeartbeats 4000000 in
theorem k_X2_init {g : pG} {l : Launch} : PM g l 2 M_X2_init [.ref 32, .ref 3] z_37 none z_45 83 1380 := by
  refine PM.of (by decide +kernel) (Nat.le_of_ble_eq_true rfl) ?_
  show PW g l (pRoom 2 83 1380) M_X2_init _ 0 [(0, .ref 32), (1, .ref 3)] [] z_37 0 0
  refine PW.aload_n 0 0 dX2_init_0 rfl rfl rfl ?_
  refine PW.objInit dX2_init_1 mL_X2_3 oI.1 oI.2 (Nat.le_of_ble_eq_true rfl) (Nat.le_of_ble_eq_true rfl) (Nat.le_of_ble_eq_true rfl) ?_
  refine PW.aload_n 0 0 dX2_init_4 rfl rfl rfl ?_
  refine PW.bipush (v := 80) dX2_init_5 (by decide) ?_
  refine KW.anewa (t := 4) (n := 80) (m := 33) (S' := z_38) dX2_init_7 (Or.inl ⟨rfl, rfl⟩) cL_X2_13 (by decide) (by decide) (by decide) (Nat.le_of_ble_eq_true rfl) (Nat.le_of_ble_eq_true rfl) zl_37 rfl ?_
  refine KW.putr (S' := z_39) dX2_init_10 fL_X2_15 (Or.inr ⟨rfl, rfl⟩) zk_38_32 (Or.inr ⟨_, rfl⟩) rfl ?_
  refine PW.aload_n 0 0 dX2_init_13 rfl rfl rfl ?_
  refine PW.bipush (v := 10) dX2_init_14 (by decide) ?_
  refine KW.newa (t := 0) (n := 10) (m := 34) (S' := z_40) dX2_init_16 (by decide) aC_int (by decide) (by decide) (by decide) (Nat.le_of_ble_eq_true rfl) (Nat.le_of_ble_eq_true rfl) zl_39 rfl ?_
  refine KW.putr (S' := z_41) dX2_init_18 fL_X2_19 (Or.inr ⟨rfl, rfl⟩) zk_40_32 (Or.inr ⟨_, rfl⟩) rfl ?_
  refine PW.aload_n 0 0 dX2_init_21 rfl rfl rfl ?_
  refine PW.bipush (v := 10) dX2_init_22 (by decide) ?_
  refine KW.newa (t := 0) (n := 10) (m := 35) (S' := z_42) dX2_init_24 (by decide) aC_int (by decide) (by decide) (by decide) (Nat.le_of_ble_eq_true rfl) (Nat.le_of_ble_eq_true rfl) zl_41 rfl ?_
  refine KW.putr (S' := z_43) dX2_init_26 fL_X2_23 (Or.inr ⟨rfl, rfl⟩) zk_42_32 (Or.inr ⟨_, rfl⟩) rfl ?_
  refine PW.aload_n 0 0 dX2_init_29 rfl rfl rfl ?_
  refine PW.aload_n 1 1 dX2_init_30 rfl rfl rfl ?_
  refine KW.putr (S' := z_44) dX2_init_31 fL_X2_26 (Or.inr ⟨rfl, rfl⟩) zk_43_32 (Or.inl ⟨_, rfl⟩) rfl ?_
  refine PW.iconst (v := 0) dX2_init_34 (by decide) ?_
  refine PW.istore_n dX2_init_35 rfl (Nat.le_of_ble_eq_true rfl) rfl ?_
  refine lp_X2_init_36 (?_ : PW _ _ _ _ _ 65 [(2, .int (nI 80)), (0, .ref 32), (1, .ref 3)] [] z_45 83 1380) 80 0 rfl
  exact PW.vret dX2_init_65 rfl (Nat.le_refl _) (Nat.le_refl _)
theorem zk_45_0 : z_45.1[0]? = some (.inl 11) := by decide +kernel
def z_46 : pS := sR z_45 0 5 (some 32)
theorem zl_46 : z_46.1.length = 116 := by decide +kernel
def z_47 : pS := sN z_46 (.inl 5)
theorem zk_47_0 : z_47.1[0]? = some (.inl 11) := by decide +kernel
theorem zr_47_0_1 : z_47.2.2.2 0 1 = some 3 := by decide +kernel
theorem zl_47 : z_47.1.length = 117 := by decide +kernel
def z_48 : pS := sN z_47 (.inr (0, 2000))
theorem zk_48_116 : z_48.1[116]? = some (.inl 5) := by decide +kernel
def z_49 : pS := sR z_48 116 2 (some 117)
theorem zl_49 : z_49.1.length = 118 := by decide +kernel
def z_50 : pS := sN z_49 (.inr (0, 32))
theorem zk_50_116 : z_50.1[116]? = some (.inl 5) := by decide +kernel
def z_51 : pS := sR z_50 116 3 (some 118)
theorem zl_51 : z_51.1.length = 119 := by decide +kernel
def z_52 : pS := sN z_51 (.inr (0, 8))
theorem zk_52_116 : z_52.1[116]? = some (.inl 5) := by decide +kernel
def z_53 : pS := sR z_52 116 4 (some 119)
theorem zl_53 : z_53.1.length = 120 := by decide +kernel
def z_54 : pS := sN z_53 (.inr (0, 8))
theorem zk_54_116 : z_54.1[116]? = some (.inl 5) := by decide +kernel
def z_55 : pS := sR z_54 116 5 (some 120)
theorem zl_55 : z_55.1.length = 121 := by decide +kernel
def z_56 : pS := sN z_55 (.inr (0, 8))
theorem zk_56_116 : z_56.1[116]? = some (.inl 5) := by decide +kernel
def z_57 : pS := sR z_56 116 6 (some 121)
theorem zl_57 : z_57.1.length = 122 := by decide +kernel
def z_58 : pS := sN z_57 (.inr (0, 8))
theorem zk_58_116 : z_58.1[116]? = some (.inl 5) := by decide +kernel
def z_59 : pS := sR z_58 116 7 (some 122)
theorem zk_59_116 : z_59.1[116]? = some (.inl 5) := by decide +kernel
def z_60 : pS := sR z_59 116 0 (some 3)
theorem zl_60 : z_60.1.length = 123 := by decide +kernel
def z_61 : pS := sN z_60 (.inl 8)
theorem zk_61_123 : z_61.1[123]? = some (.inl 8) := by decide +kernel
def z_62 : pS := sR z_61 123 0 (some 3)
theorem zk_62_116 : z_62.1[116]? = some (.inl 5) := by decide +kernel
def z_63 : pS := sR z_62 116 1 (some 123)
set_option maxRecDepth 20000 in
set_option maxHeartbeats 4000000 in
theorem k_X5_init {g : pG} {l : Launch} : PM g l 2 M_X5_init [.ref 116, .ref 3] z_47 none z_63 7 2080 := by
  refine PM.of (by decide +kernel) (Nat.le_of_ble_eq_true rfl) ?_
  show PW g l (pRoom 2 7 2080) M_X5_init _ 0 [(0, .ref 116), (1, .ref 3)] [] z_47 0 0
  refine PW.aload_n 0 0 dX5_init_0 rfl rfl rfl ?_
  refine PW.objInit dX5_init_1 mL_X5_3 oI.1 oI.2 (Nat.le_of_ble_eq_true rfl) (Nat.le_of_ble_eq_true rfl) (Nat.le_of_ble_eq_true rfl) ?_
  refine PW.aload_n 0 0 dX5_init_4 rfl rfl rfl ?_
  refine PW.sipush (v := 2000) dX5_init_5 (by decide) ?_
  refine KW.newa (t := 0) (n := 2000) (m := 117) (S' := z_48) dX5_init_8 (by decide) aC_int (by decide) (by decide) (by decide) (Nat.le_of_ble_eq_true rfl) (Nat.le_of_ble_eq_true rfl) zl_47 rfl ?_
  refine KW.putr (S' := z_49) dX5_init_10 fL_X5_9 (Or.inr ⟨rfl, rfl⟩) zk_48_116 (Or.inr ⟨_, rfl⟩) rfl ?_
  refine PW.aload_n 0 0 dX5_init_13 rfl rfl rfl ?_
  refine PW.bipush (v := 32) dX5_init_14 (by decide) ?_
  refine KW.newa (t := 0) (n := 32) (m := 118) (S' := z_50) dX5_init_16 (by decide) aC_int (by decide) (by decide) (by decide) (Nat.le_of_ble_eq_true rfl) (Nat.le_of_ble_eq_true rfl) zl_49 rfl ?_
  refine KW.putr (S' := z_51) dX5_init_18 fL_X5_17 (Or.inr ⟨rfl, rfl⟩) zk_50_116 (Or.inr ⟨_, rfl⟩) rfl ?_
  refine PW.aload_n 0 0 dX5_init_21 rfl rfl rfl ?_
  refine PW.bipush (v := 8) dX5_init_22 (by decide) ?_
  refine KW.newa (t := 0) (n := 8) (m := 119) (S' := z_52) dX5_init_24 (by decide) aC_int (by decide) (by decide) (by decide) (Nat.le_of_ble_eq_true rfl) (Nat.le_of_ble_eq_true rfl) zl_51 rfl ?_
  refine KW.putr (S' := z_53) dX5_init_26 fL_X5_20 (Or.inr ⟨rfl, rfl⟩) zk_52_116 (Or.inr ⟨_, rfl⟩) rfl ?_
  refine PW.aload_n 0 0 dX5_init_29 rfl rfl rfl ?_
  refine PW.bipush (v := 8) dX5_init_30 (by decide) ?_
  refine KW.newa (t := 0) (n := 8) (m := 120) (S' := z_54) dX5_init_32 (by decide) aC_int (by decide) (by decide) (by decide) (Nat.le_of_ble_eq_true rfl) (Nat.le_of_ble_eq_true rfl) zl_53 rfl ?_
  refine KW.putr (S' := z_55) dX5_init_34 fL_X5_23 (Or.inr ⟨rfl, rfl⟩) zk_54_116 (Or.inr ⟨_, rfl⟩) rfl ?_
  refine PW.aload_n 0 0 dX5_init_37 rfl rfl rfl ?_
  refine PW.bipush (v := 8) dX5_init_38 (by decide) ?_
  refine KW.newa (t := 0) (n := 8) (m := 121) (S' := z_56) dX5_init_40 (by decide) aC_int (by decide) (by decide) (by decide) (Nat.le_of_ble_eq_true rfl) (Nat.le_of_ble_eq_true rfl) zl_55 rfl ?_
  refine KW.putr (S' := z_57) dX5_init_42 fL_X5_26 (Or.inr ⟨rfl, rfl⟩) zk_56_116 (Or.inr ⟨_, rfl⟩) rfl ?_
  refine PW.aload_n 0 0 dX5_init_45 rfl rfl rfl ?_
  refine PW.bipush (v := 8) dX5_init_46 (by decide) ?_
  refine KW.newa (t := 0) (n := 8) (m := 122) (S' := z_58) dX5_init_48 (by decide) aC_int (by decide) (by decide) (by decide) (Nat.le_of_ble_eq_true rfl) (Nat.le_of_ble_eq_true rfl) zl_57 rfl ?_
  refine KW.putr (S' := z_59) dX5_init_50 fL_X5_29 (Or.inr ⟨rfl, rfl⟩) zk_58_116 (Or.inr ⟨_, rfl⟩) rfl ?_
  refine PW.aload_n 0 0 dX5_init_53 rfl rfl rfl ?_
  refine PW.aload_n 1 1 dX5_init_54 rfl rfl rfl ?_
  refine KW.putr (S' := z_60) dX5_init_55 fL_X5_32 (Or.inr ⟨rfl, rfl⟩) zk_59_116 (Or.inl ⟨_, rfl⟩) rfl ?_
  refine PW.aload_n 0 0 dX5_init_58 rfl rfl rfl ?_
  refine KW.newo (ci := 8) (n := 123) (S' := z_61) dX5_init_59 (by decide) cL_X5_36 iN_8 (Nat.le_of_ble_eq_true rfl) (Nat.le_of_ble_eq_true rfl) zl_60 rfl ?_
  refine PW.dup dX5_init_62 rfl ?_
  refine PW.aload_n 1 1 dX5_init_63 rfl rfl rfl ?_
  refine PW.callI (S' := z_62) (r := none) (mc := 0) (ms := 0) (st := [.ref 123, .ref 116]) [.ref 3] dX5_init_64 (kcX8 zk_61_123) MI_X8_init mL_X5_38 rfl rfl (Nat.le_of_ble_eq_true rfl) (by decide) (by decide) (Nat.le_of_ble_eq_true rfl) (Nat.le_of_ble_eq_true rfl) ?_
  show PW _ _ _ _ _ _ _ [.ref 123, .ref 116] _ _ _
  refine KW.putr (S' := z_63) dX5_init_67 fL_X5_41 (Or.inr ⟨rfl, rfl⟩) zk_62_116 (Or.inl ⟨_, rfl⟩) rfl ?_
  exact PW.vret dX5_init_70 rfl (Nat.le_refl _) (Nat.le_refl _)
theorem zk_63_0 : z_63.1[0]? = some (.inl 11) := by decide +kernel
def z_64 : pS := sR z_63 0 6 (some 116)
theorem zl_64 : z_64.1.length = 124 := by decide +kernel
def z_65 : pS := sN z_64 (.inl 10)
theorem zl_65 : z_65.1.length = 125 := by decide +kernel
def z_66 : pS := sN z_65 (.inr (0, 8))
theorem zk_66_124 : z_66.1[124]? = some (.inl 10) := by decide +kernel
def z_67 : pS := sR z_66 124 0 (some 125)
theorem zl_67 : z_67.1.length = 126 := by decide +kernel
def z_68 : pS := sN z_67 (.inr (0, 8))
theorem zk_68_124 : z_68.1[124]? = some (.inl 10) := by decide +kernel
def z_69 : pS := sR z_68 124 1 (some 126)
theorem zl_69 : z_69.1.length = 127 := by decide +kernel
def z_70 : pS := sN z_69 (.inr (0, 8))
theorem zk_70_124 : z_70.1[124]? = some (.inl 10) := by decide +kernel
def z_71 : pS := sR z_70 124 2 (some 127)
theorem zl_71 : z_71.1.length = 128 := by decide +kernel
def z_72 : pS := sN z_71 (.inr (0, 8))
theorem zk_72_124 : z_72.1[124]? = some (.inl 10) := by decide +kernel
def z_73 : pS := sR z_72 124 3 (some 128)
theorem zl_73 : z_73.1.length = 129 := by decide +kernel
def z_74 : pS := sN z_73 (.inr (5, 8))
theorem zk_74_124 : z_74.1[124]? = some (.inl 10) := by decide +kernel
def z_75 : pS := sR z_74 124 4 (some 129)
theorem zk_75_124 : z_75.1[124]? = some (.inl 10) := by decide +kernel
theorem zr_75_124_4 : z_75.2.2.2 124 4 = some 129 := by decide +kernel
theorem zk_75_129 : z_75.1[129]? = some (.inr (5, 8)) := by decide +kernel
theorem zl_75 : z_75.1.length = 130 := by decide +kernel
def z_76 : pS := objS 129 6 mkP 8 z_75
set_option maxRecDepth 20000 in
set_option maxHeartbeats 4000000 in
theorem lp_X10_init_47 {g : pG} {l : Launch} {F : pF} (K : PW g l (pRoom 2 29 200) M_X10_init F 75 [(1, .int (nI 8)), (0, .ref 124)] [] (objS 129 6 mkP 8 z_75) (5 + 3 * 8) (40 + 20 * 8)) : ∀ (r i : Nat), i + r = 8 → PW g l (pRoom 2 29 200) M_X10_init F 47 [(1, .int (nI i)), (0, .ref 124)] [] (objS 129 6 mkP i z_75) (5 + 3 * i) (40 + 20 * i)
  | 0, i, h => by
    obtain rfl : i = 8 := by omega
    refine PW.iload_n 0 1 dX10_init_47 rfl rfl ?_
    refine PW.aload_n 1 0 dX10_init_48 rfl rfl rfl ?_
    refine KW.getr dX10_init_49 fL_X10_26 (objS_l hmP.1 8 zk_75_124) (Or.inr ⟨_, rfl⟩) ((objS_r hmP.2.2 hmP.2.1 (by rw [zl_75]; decide) (by decide) 8).trans zr_75_124_4) ?_
    refine PW.alen (v := 8) dX10_init_52 (objS_l hmP.1 8 zk_75_129) (by decide) rfl ?_
    refine PW.icmp_ge (tgt := 75) dX10_init_53 (by decide) (fun _ => K) (fun c => absurd (by decide) c)
  | r + 1, i, h => by
    have hcl : (nI i).toNatClampNeg = i := nI_clamp (by omega)
    have hin : vp_in (nI i) 8 := vp_in_nI (by omega) (by omega)
    refine PW.iload_n 0 1 dX10_init_47 rfl rfl ?_
    refine PW.aload_n 1 0 dX10_init_48 rfl rfl rfl ?_
    refine KW.getr dX10_init_49 fL_X10_26 (objS_l hmP.1 i zk_75_124) (Or.inr ⟨_, rfl⟩) ((objS_r hmP.2.2 hmP.2.1 (by rw [zl_75]; decide) (by decide) i).trans zr_75_124_4) ?_
    refine PW.alen (v := 8) dX10_init_52 (objS_l hmP.1 i zk_75_129) (by decide) rfl ?_
    refine PW.icmp_ge (tgt := 75) dX10_init_53 (by decide) (fun c => absurd c (loop_ge (n := 8) (by omega) (by decide))) (fun _ => ?_)
    refine PW.aload_n 1 0 dX10_init_56 rfl rfl rfl ?_
    refine KW.getr dX10_init_57 fL_X10_26 (objS_l hmP.1 i zk_75_124) (Or.inr ⟨_, rfl⟩) ((objS_r hmP.2.2 hmP.2.1 (by rw [zl_75]; decide) (by decide) i).trans zr_75_124_4) ?_
    refine PW.iload_n 0 1 dX10_init_60 rfl rfl ?_
    refine KW.newo (ci := 6) dX10_init_61 (by decide) cL_X10_24 iN_6 (by show _ ≤ 29; omega) (by show _ + 4 ≤ 200; omega) rfl rfl ?_
    refine PW.dup dX10_init_64 rfl ?_
    refine PW.callIN (r := none) (st := [.ref (objS 129 6 mkP i z_75).1.length, .int (nI i), .ref 129]) [] dX10_init_65 (kcX6 sN_n) MI_X6_init mN_X10_30 rfl rfl (Nat.le_of_ble_eq_true rfl) (by decide) (by decide) (by show _ ≤ 29; omega) (by show _ + 4 + 16 ≤ 200; omega) ?_
    refine PW.aastore (ci := 6) dX10_init_68 (hmP.1 _ _ _ _ (sN_l (objS_l hmP.1 i zk_75_129))) (Or.inr ⟨rfl, rfl⟩) (hmP.1 _ _ _ _ sN_n) hin ?_
    rw [hcl]
    refine PW.iinc (v := nI (i + 1)) 0 dX10_init_69 rfl (nI_1 i) (Nat.le_of_ble_eq_true rfl) rfl ?_
    refine PW.goto (tgt := 47) dX10_init_72 (by decide) ?_
    exact PW.cnt (by first | rfl | omega) (by first | rfl | (have : kN 8 = 16 := rfl; have : kN 6 = 4 := rfl; omega)) (lp_X10_init_47 K r (i + 1) (by omega))
set_option maxRecDepth 20000 in
set_option maxHeartbeats 4000000 in
theorem k_X10_init {g : pG} {l : Launch} : PM g l 2 M_X10_init [.ref 124] z_65 none z_76 29 200 := by
  refine PM.of (by decide +kernel) (Nat.le_of_ble_eq_true rfl) ?_
  show PW g l (pRoom 2 29 200) M_X10_init _ 0 [(0, .ref 124)] [] z_65 0 0
  refine PW.aload_n 0 0 dX10_init_0 rfl rfl rfl ?_
  refine PW.objInit dX10_init_1 mL_X10_3 oI.1 oI.2 (Nat.le_of_ble_eq_true rfl) (Nat.le_of_ble_eq_true rfl) (Nat.le_of_ble_eq_true rfl) ?_
  refine PW.aload_n 0 0 dX10_init_4 rfl rfl rfl ?_
  refine PW.bipush (v := 8) dX10_init_5 (by decide) ?_
  refine KW.newa (t := 0) (n := 8) (m := 125) (S' := z_66) dX10_init_7 (by decide) aC_int (by decide) (by decide) (by decide) (Nat.le_of_ble_eq_true rfl) (Nat.le_of_ble_eq_true rfl) zl_65 rfl ?_
  refine KW.putr (S' := z_67) dX10_init_9 fL_X10_11 (Or.inr ⟨rfl, rfl⟩) zk_66_124 (Or.inr ⟨_, rfl⟩) rfl ?_
  refine PW.aload_n 0 0 dX10_init_12 rfl rfl rfl ?_
  refine PW.bipush (v := 8) dX10_init_13 (by decide) ?_
  refine KW.newa (t := 0) (n := 8) (m := 126) (S' := z_68) dX10_init_15 (by decide) aC_int (by decide) (by decide) (by decide) (Nat.le_of_ble_eq_true rfl) (Nat.le_of_ble_eq_true rfl) zl_67 rfl ?_
  refine KW.putr (S' := z_69) dX10_init_17 fL_X10_15 (Or.inr ⟨rfl, rfl⟩) zk_68_124 (Or.inr ⟨_, rfl⟩) rfl ?_
  refine PW.aload_n 0 0 dX10_init_20 rfl rfl rfl ?_
  refine PW.bipush (v := 8) dX10_init_21 (by decide) ?_
  refine KW.newa (t := 0) (n := 8) (m := 127) (S' := z_70) dX10_init_23 (by decide) aC_int (by decide) (by decide) (by decide) (Nat.le_of_ble_eq_true rfl) (Nat.le_of_ble_eq_true rfl) zl_69 rfl ?_
  refine KW.putr (S' := z_71) dX10_init_25 fL_X10_18 (Or.inr ⟨rfl, rfl⟩) zk_70_124 (Or.inr ⟨_, rfl⟩) rfl ?_
  refine PW.aload_n 0 0 dX10_init_28 rfl rfl rfl ?_
  refine PW.bipush (v := 8) dX10_init_29 (by decide) ?_
  refine KW.newa (t := 0) (n := 8) (m := 128) (S' := z_72) dX10_init_31 (by decide) aC_int (by decide) (by decide) (by decide) (Nat.le_of_ble_eq_true rfl) (Nat.le_of_ble_eq_true rfl) zl_71 rfl ?_
  refine KW.putr (S' := z_73) dX10_init_33 fL_X10_21 (Or.inr ⟨rfl, rfl⟩) zk_72_124 (Or.inr ⟨_, rfl⟩) rfl ?_
  refine PW.aload_n 0 0 dX10_init_36 rfl rfl rfl ?_
  refine PW.bipush (v := 8) dX10_init_37 (by decide) ?_
  refine KW.anewa (t := 5) (n := 8) (m := 129) (S' := z_74) dX10_init_39 (Or.inr ⟨rfl, rfl⟩) cL_X10_24 (by decide) (by decide) (by decide) (Nat.le_of_ble_eq_true rfl) (Nat.le_of_ble_eq_true rfl) zl_73 rfl ?_
  refine KW.putr (S' := z_75) dX10_init_42 fL_X10_26 (Or.inr ⟨rfl, rfl⟩) zk_74_124 (Or.inr ⟨_, rfl⟩) rfl ?_
  refine PW.iconst (v := 0) dX10_init_45 (by decide) ?_
  refine PW.istore_n dX10_init_46 rfl (Nat.le_of_ble_eq_true rfl) rfl ?_
  refine lp_X10_init_47 (?_ : PW _ _ _ _ _ 75 [(1, .int (nI 8)), (0, .ref 124)] [] z_76 29 200) 8 0 rfl
  exact PW.vret dX10_init_75 rfl (Nat.le_refl _) (Nat.le_refl _)
theorem zk_76_0 : z_76.1[0]? = some (.inl 11) := by decide +kernel
def z_77 : pS := sR z_76 0 7 (some 124)
theorem zl_77 : z_77.1.length = 154 := by decide +kernel
def z_78 : pS := sN z_77 (.inl 7)
theorem zl_78 : z_78.1.length = 155 := by decide +kernel
def z_79 : pS := sN z_78 (.inr (0, 6))
theorem zk_79_154 : z_79.1[154]? = some (.inl 7) := by decide +kernel
def z_80 : pS := sR z_79 154 0 (some 155)
theorem zl_80 : z_80.1.length = 156 := by decide +kernel
def z_81 : pS := sN z_80 (.inr (0, 60))
theorem zk_81_154 : z_81.1[154]? = some (.inl 7) := by decide +kernel
def z_82 : pS := sR z_81 154 1 (some 156)
theorem zl_82 : z_82.1.length = 157 := by decide +kernel
def z_83 : pS := sN z_82 (.inr (0, 10))
theorem zk_83_154 : z_83.1[154]? = some (.inl 7) := by decide +kernel
def z_84 : pS := sR z_83 154 2 (some 157)
theorem zl_84 : z_84.1.length = 158 := by decide +kernel
def z_85 : pS := sN z_84 (.inr (0, 240))
theorem zk_85_154 : z_85.1[154]? = some (.inl 7) := by decide +kernel
def z_86 : pS := sR z_85 154 3 (some 158)
theorem zl_86 : z_86.1.length = 159 := by decide +kernel
def z_87 : pS := sN z_86 (.inr (1, 41))
theorem zk_87_154 : z_87.1[154]? = some (.inl 7) := by decide +kernel
def z_88 : pS := sR z_87 154 4 (some 159)
theorem zl_88 : z_88.1.length = 160 := by decide +kernel
def z_89 : pS := sN z_88 (.inr (1, 205))
theorem zk_89_154 : z_89.1[154]? = some (.inl 7) := by decide +kernel
def z_90 : pS := sR z_89 154 5 (some 160)
theorem zl_90 : z_90.1.length = 161 := by decide +kernel
def z_91 : pS := sN z_90 (.inr (0, 4))
theorem zk_91_154 : z_91.1[154]? = some (.inl 7) := by decide +kernel
def z_92 : pS := sR z_91 154 6 (some 161)
theorem zk_92_154 : z_92.1[154]? = some (.inl 7) := by decide +kernel
theorem zr_92_154_1 : z_92.2.2.2 154 1 = some 156 := by decide +kernel
theorem zk_92_156 : z_92.1[156]? = some (.inr (0, 60)) := by decide +kernel
def z_93 : pS := fillS 156 (5) 60 z_92
theorem zk_93_154 : z_93.1[154]? = some (.inl 7) := by decide +kernel
theorem zr_93_154_2 : z_93.2.2.2 154 2 = some 157 := by decide +kernel
theorem zk_93_157 : z_93.1[157]? = some (.inr (0, 10)) := by decide +kernel
def z_94 : pS := fillS 157 (-1) 10 z_93
set_option maxRecDepth 20000 in
set_option maxHeartbeats 4000000 in
theorem lp_X7_init_63 {g : pG} {l : Launch} {F : pF} (K : PW g l (pRoom 1 7 566) M_X7_init F 85 [(1, .int (nI 60)), (0, .ref 154)] [] (fillS 156 (5) 60 z_92) (7 + 0 * 60) (566 + 0 * 60)) : ∀ (r i : Nat), i + r = 60 → PW g l (pRoom 1 7 566) M_X7_init F 63 [(1, .int (nI i)), (0, .ref 154)] [] (fillS 156 (5) i z_92) (7 + 0 * i) (566 + 0 * i)
  | 0, i, h => by
    obtain rfl : i = 60 := by omega
    refine PW.iload_n 0 1 dX7_init_63 rfl rfl ?_
    refine PW.aload_n 1 0 dX7_init_64 rfl rfl rfl ?_
    refine KW.getr dX7_init_65 fL_X7_15 ((congrArg (fun x => x[154]?) (fillS_1 156 (5) 60 z_92).1).trans zk_92_154) (Or.inr ⟨_, rfl⟩) ((congrArg (fun x => x 154 1) (fillS_1 156 (5) 60 z_92).2).trans zr_92_154_1) ?_
    refine PW.alen (v := 60) dX7_init_68 ((congrArg (fun x => x[156]?) (fillS_1 156 (5) 60 z_92).1).trans zk_92_156) (by decide) rfl ?_
    refine PW.icmp_ge (tgt := 85) dX7_init_69 (by decide) (fun _ => K) (fun c => absurd (by decide) c)
  | r + 1, i, h => by
    have hcl : (nI i).toNatClampNeg = i := nI_clamp (by omega)
    have hin : vp_in (nI i) 60 := vp_in_nI (by omega) (by omega)
    refine PW.iload_n 0 1 dX7_init_63 rfl rfl ?_
    refine PW.aload_n 1 0 dX7_init_64 rfl rfl rfl ?_
    refine KW.getr dX7_init_65 fL_X7_15 ((congrArg (fun x => x[154]?) (fillS_1 156 (5) i z_92).1).trans zk_92_154) (Or.inr ⟨_, rfl⟩) ((congrArg (fun x => x 154 1) (fillS_1 156 (5) i z_92).2).trans zr_92_154_1) ?_
    refine PW.alen (v := 60) dX7_init_68 ((congrArg (fun x => x[156]?) (fillS_1 156 (5) i z_92).1).trans zk_92_156) (by decide) rfl ?_
    refine PW.icmp_ge (tgt := 85) dX7_init_69 (by decide) (fun c => absurd c (loop_ge (n := 60) (by omega) (by decide))) (fun _ => ?_)
    refine PW.aload_n 1 0 dX7_init_72 rfl rfl rfl ?_
    refine KW.getr dX7_init_73 fL_X7_15 ((congrArg (fun x => x[154]?) (fillS_1 156 (5) i z_92).1).trans zk_92_154) (Or.inr ⟨_, rfl⟩) ((congrArg (fun x => x 154 1) (fillS_1 156 (5) i z_92).2).trans zr_92_154_1) ?_
    refine PW.iload_n 0 1 dX7_init_76 rfl rfl ?_
    refine PW.iconst (v := 5) dX7_init_77 (by decide) ?_
    refine PW.iastore dX7_init_78 ((congrArg (fun x => x[156]?) (fillS_1 156 (5) i z_92).1).trans zk_92_156) hin ?_
    rw [hcl]
    refine PW.iinc (v := nI (i + 1)) 0 dX7_init_79 rfl (nI_1 i) (Nat.le_of_ble_eq_true rfl) rfl ?_
    refine PW.goto (tgt := 63) dX7_init_82 (by decide) ?_
    exact PW.cnt (by first | rfl | omega) (by first | rfl | (have : kN 8 = 16 := rfl; have : kN 6 = 4 := rfl; omega)) (lp_X7_init_63 K r (i + 1) (by omega))
set_option maxRecDepth 20000 in
set_option maxHeartbeats 4000000 in
theorem lp_X7_init_87 {g : pG} {l : Launch} {F : pF} (K : PW g l (pRoom 1 7 566) M_X7_init F 109 [(1, .int (nI 10)), (0, .ref 154)] [] (fillS 157 (-1) 10 z_93) (7 + 0 * 10) (566 + 0 * 10)) : ∀ (r i : Nat), i + r = 10 → PW g l (pRoom 1 7 566) M_X7_init F 87 [(1, .int (nI i)), (0, .ref 154)] [] (fillS 157 (-1) i z_93) (7 + 0 * i) (566 + 0 * i)
  | 0, i, h => by
    obtain rfl : i = 10 := by omega
    refine PW.iload_n 0 1 dX7_init_87 rfl rfl ?_
    refine PW.aload_n 1 0 dX7_init_88 rfl rfl rfl ?_
    refine KW.getr dX7_init_89 fL_X7_18 ((congrArg (fun x => x[154]?) (fillS_1 157 (-1) 10 z_93).1).trans zk_93_154) (Or.inr ⟨_, rfl⟩) ((congrArg (fun x => x 154 2) (fillS_1 157 (-1) 10 z_93).2).trans zr_93_154_2) ?_
    refine PW.alen (v := 10) dX7_init_92 ((congrArg (fun x => x[157]?) (fillS_1 157 (-1) 10 z_93).1).trans zk_93_157) (by decide) rfl ?_
    refine PW.icmp_ge (tgt := 109) dX7_init_93 (by decide) (fun _ => K) (fun c => absurd (by decide) c)
  | r + 1, i, h => by
    have hcl : (nI i).toNatClampNeg = i := nI_clamp (by omega)
    have hin : vp_in (nI i) 10 := vp_in_nI (by omega) (by omega)
    refine PW.iload_n 0 1 dX7_init_87 rfl rfl ?_
    refine PW.aload_n 1 0 dX7_init_88 rfl rfl rfl ?_
    refine KW.getr dX7_init_89 fL_X7_18 ((congrArg (fun x => x[154]?) (fillS_1 157 (-1) i z_93).1).trans zk_93_154) (Or.inr ⟨_, rfl⟩) ((congrArg (fun x => x 154 2) (fillS_1 157 (-1) i z_93).2).trans zr_93_154_2) ?_
    refine PW.alen (v := 10) dX7_init_92 ((congrArg (fun x => x[157]?) (fillS_1 157 (-1) i z_93).1).trans zk_93_157) (by decide) rfl ?_
    refine PW.icmp_ge (tgt := 109) dX7_init_93 (by decide) (fun c => absurd c (loop_ge (n := 10) (by omega) (by decide))) (fun _ => ?_)
    refine PW.aload_n 1 0 dX7_init_96 rfl rfl rfl ?_
    refine KW.getr dX7_init_97 fL_X7_18 ((congrArg (fun x => x[154]?) (fillS_1 157 (-1) i z_93).1).trans zk_93_154) (Or.inr ⟨_, rfl⟩) ((congrArg (fun x => x 154 2) (fillS_1 157 (-1) i z_93).2).trans zr_93_154_2) ?_
    refine PW.iload_n 0 1 dX7_init_100 rfl rfl ?_
    refine PW.iconst (v := -1) dX7_init_101 (by decide) ?_
    refine PW.iastore dX7_init_102 ((congrArg (fun x => x[157]?) (fillS_1 157 (-1) i z_93).1).trans zk_93_157) hin ?_
    rw [hcl]
    refine PW.iinc (v := nI (i + 1)) 0 dX7_init_103 rfl (nI_1 i) (Nat.le_of_ble_eq_true rfl) rfl ?_
    refine PW.goto (tgt := 87) dX7_init_106 (by decide) ?_
    exact PW.cnt (by first | rfl | omega) (by first | rfl | (have : kN 8 = 16 := rfl; have : kN 6 = 4 := rfl; omega)) (lp_X7_init_87 K r (i + 1) (by omega))
set_option maxRecDepth 20000 in
set_option maxHeartbeats 4000000 in
theorem k_X7_init {g : pG} {l : Launch} : PM g l 1 M_X7_init [.ref 154] z_78 none z_94 7 566 := by
  refine PM.of (by decide +kernel) (Nat.le_of_ble_eq_true rfl) ?_
  show PW g l (pRoom 1 7 566) M_X7_init _ 0 [(0, .ref 154)] [] z_78 0 0
  refine PW.aload_n 0 0 dX7_init_0 rfl rfl rfl ?_
  refine PW.objInit dX7_init_1 mL_X7_3 oI.1 oI.2 (Nat.le_of_ble_eq_true rfl) (Nat.le_of_ble_eq_true rfl) (Nat.le_of_ble_eq_true rfl) ?_
  refine PW.aload_n 0 0 dX7_init_4 rfl rfl rfl ?_
  refine PW.bipush (v := 6) dX7_init_5 (by decide) ?_
  refine KW.newa (t := 0) (n := 6) (m := 155) (S' := z_79) dX7_init_7 (by decide) aC_int (by decide) (by decide) (by decide) (Nat.le_of_ble_eq_true rfl) (Nat.le_of_ble_eq_true rfl) zl_78 rfl ?_
  refine KW.putr (S' := z_80) dX7_init_9 fL_X7_11 (Or.inr ⟨rfl, rfl⟩) zk_79_154 (Or.inr ⟨_, rfl⟩) rfl ?_
  refine PW.aload_n 0 0 dX7_init_12 rfl rfl rfl ?_
  refine PW.bipush (v := 60) dX7_init_13 (by decide) ?_
  refine KW.newa (t := 0) (n := 60) (m := 156) (S' := z_81) dX7_init_15 (by decide) aC_int (by decide) (by decide) (by decide) (Nat.le_of_ble_eq_true rfl) (Nat.le_of_ble_eq_true rfl) zl_80 rfl ?_
  refine KW.putr (S' := z_82) dX7_init_17 fL_X7_15 (Or.inr ⟨rfl, rfl⟩) zk_81_154 (Or.inr ⟨_, rfl⟩) rfl ?_
  refine PW.aload_n 0 0 dX7_init_20 rfl rfl rfl ?_
  refine PW.bipush (v := 10) dX7_init_21 (by decide) ?_
  refine KW.newa (t := 0) (n := 10) (m := 157) (S' := z_83) dX7_init_23 (by decide) aC_int (by decide) (by decide) (by decide) (Nat.le_of_ble_eq_true rfl) (Nat.le_of_ble_eq_true rfl) zl_82 rfl ?_
  refine KW.putr (S' := z_84) dX7_init_25 fL_X7_18 (Or.inr ⟨rfl, rfl⟩) zk_83_154 (Or.inr ⟨_, rfl⟩) rfl ?_
  refine PW.aload_n 0 0 dX7_init_28 rfl rfl rfl ?_
  refine PW.sipush (v := 240) dX7_init_29 (by decide) ?_
  refine KW.newa (t := 0) (n := 240) (m := 158) (S' := z_85) dX7_init_32 (by decide) aC_int (by decide) (by decide) (by decide) (Nat.le_of_ble_eq_true rfl) (Nat.le_of_ble_eq_true rfl) zl_84 rfl ?_
  refine KW.putr (S' := z_86) dX7_init_34 fL_X7_21 (Or.inr ⟨rfl, rfl⟩) zk_85_154 (Or.inr ⟨_, rfl⟩) rfl ?_
  refine PW.aload_n 0 0 dX7_init_37 rfl rfl rfl ?_
  refine PW.bipush (v := 41) dX7_init_38 (by decide) ?_
  refine KW.newa (t := 1) (n := 41) (m := 159) (S' := z_87) dX7_init_40 (by decide) aC_long (by decide) (by decide) (by decide) (Nat.le_of_ble_eq_true rfl) (Nat.le_of_ble_eq_true rfl) zl_86 rfl ?_
  refine KW.putr (S' := z_88) dX7_init_42 fL_X7_24 (Or.inr ⟨rfl, rfl⟩) zk_87_154 (Or.inr ⟨_, rfl⟩) rfl ?_
  refine PW.aload_n 0 0 dX7_init_45 rfl rfl rfl ?_
  refine PW.sipush (v := 205) dX7_init_46 (by decide) ?_
  refine KW.newa (t := 1) (n := 205) (m := 160) (S' := z_89) dX7_init_49 (by decide) aC_long (by decide) (by decide) (by decide) (Nat.le_of_ble_eq_true rfl) (Nat.le_of_ble_eq_true rfl) zl_88 rfl ?_
  refine KW.putr (S' := z_90) dX7_init_51 fL_X7_28 (Or.inr ⟨rfl, rfl⟩) zk_89_154 (Or.inr ⟨_, rfl⟩) rfl ?_
  refine PW.aload_n 0 0 dX7_init_54 rfl rfl rfl ?_
  refine PW.iconst (v := 4) dX7_init_55 (by decide) ?_
  refine KW.newa (t := 0) (n := 4) (m := 161) (S' := z_91) dX7_init_56 (by decide) aC_int (by decide) (by decide) (by decide) (Nat.le_of_ble_eq_true rfl) (Nat.le_of_ble_eq_true rfl) zl_90 rfl ?_
  refine KW.putr (S' := z_92) dX7_init_58 fL_X7_31 (Or.inr ⟨rfl, rfl⟩) zk_91_154 (Or.inr ⟨_, rfl⟩) rfl ?_
  refine PW.iconst (v := 0) dX7_init_61 (by decide) ?_
  refine PW.istore_n dX7_init_62 rfl (Nat.le_of_ble_eq_true rfl) rfl ?_
  refine lp_X7_init_63 (?_ : PW _ _ _ _ _ 85 [(1, .int (nI 60)), (0, .ref 154)] [] z_93 7 566) 60 0 rfl
  refine PW.iconst (v := 0) dX7_init_85 (by decide) ?_
  refine PW.istore_n dX7_init_86 rfl (Nat.le_of_ble_eq_true rfl) rfl ?_
  refine lp_X7_init_87 (?_ : PW _ _ _ _ _ 109 [(1, .int (nI 10)), (0, .ref 154)] [] z_94 7 566) 10 0 rfl
  exact PW.vret dX7_init_109 rfl (Nat.le_refl _) (Nat.le_refl _)
theorem zk_94_0 : z_94.1[0]? = some (.inl 11) := by decide +kernel
def z_95 : pS := sR z_94 0 8 (some 154)
theorem zl_95 : z_95.1.length = 162 := by decide +kernel
def z_96 : pS := sN z_95 (.inl 0)
theorem zl_96 : z_96.1.length = 163 := by decide +kernel
def z_97 : pS := sN z_96 (.inr (0, 10))
theorem zk_97_162 : z_97.1[162]? = some (.inl 0) := by decide +kernel
def z_98 : pS := sR z_97 162 0 (some 163)
theorem zl_98 : z_98.1.length = 164 := by decide +kernel
def z_99 : pS := sN z_98 (.inr (0, 10))
theorem zk_99_162 : z_99.1[162]? = some (.inl 0) := by decide +kernel
def z_100 : pS := sR z_99 162 1 (some 164)
theorem zk_100_162 : z_100.1[162]? = some (.inl 0) := by decide +kernel
def z_101 : pS := sI z_100 162 3 1
set_option maxRecDepth 20000 in
set_option maxHeartbeats 4000000 in
theorem k_X0_init {g : pG} {l : Launch} : PM g l 1 M_X0_init [.ref 162] z_96 none z_101 2 20 := by
  refine PM.of (by decide +kernel) (Nat.le_of_ble_eq_true rfl) ?_
  show PW g l (pRoom 1 2 20) M_X0_init _ 0 [(0, .ref 162)] [] z_96 0 0
  refine PW.aload_n 0 0 dX0_init_0 rfl rfl rfl ?_
  refine PW.objInit dX0_init_1 mL_X0_3 oI.1 oI.2 (Nat.le_of_ble_eq_true rfl) (Nat.le_of_ble_eq_true rfl) (Nat.le_of_ble_eq_true rfl) ?_
  refine PW.aload_n 0 0 dX0_init_4 rfl rfl rfl ?_
  refine PW.bipush (v := 10) dX0_init_5 (by decide) ?_
  refine KW.newa (t := 0) (n := 10) (m := 163) (S' := z_97) dX0_init_7 (by decide) aC_int (by decide) (by decide) (by decide) (Nat.le_of_ble_eq_true rfl) (Nat.le_of_ble_eq_true rfl) zl_96 rfl ?_
  refine KW.putr (S' := z_98) dX0_init_9 fL_X0_11 (Or.inr ⟨rfl, rfl⟩) zk_97_162 (Or.inr ⟨_, rfl⟩) rfl ?_
  refine PW.aload_n 0 0 dX0_init_12 rfl rfl rfl ?_
  refine PW.bipush (v := 10) dX0_init_13 (by decide) ?_
  refine KW.newa (t := 0) (n := 10) (m := 164) (S' := z_99) dX0_init_15 (by decide) aC_int (by decide) (by decide) (by decide) (Nat.le_of_ble_eq_true rfl) (Nat.le_of_ble_eq_true rfl) zl_98 rfl ?_
  refine KW.putr (S' := z_100) dX0_init_17 fL_X0_15 (Or.inr ⟨rfl, rfl⟩) zk_99_162 (Or.inr ⟨_, rfl⟩) rfl ?_
  refine PW.aload_n 0 0 dX0_init_20 rfl rfl rfl ?_
  refine PW.iconst (v := 1) dX0_init_21 (by decide) ?_
  refine KW.puti (S' := z_101) dX0_init_22 fL_X0_18 rfl zk_100_162 rfl rfl ?_
  exact PW.vret dX0_init_25 rfl (Nat.le_refl _) (Nat.le_refl _)
theorem zk_101_0 : z_101.1[0]? = some (.inl 11) := by decide +kernel
def z_102 : pS := sR z_101 0 9 (some 162)
theorem zl_102 : z_102.1.length = 165 := by decide +kernel
def z_103 : pS := sN z_102 (.inl 8)
theorem zk_103_0 : z_103.1[0]? = some (.inl 11) := by decide +kernel
theorem zr_103_0_1 : z_103.2.2.2 0 1 = some 3 := by decide +kernel
theorem zk_103_165 : z_103.1[165]? = some (.inl 8) := by decide +kernel
def z_104 : pS := sR z_103 165 0 (some 3)
theorem zk_104_0 : z_104.1[0]? = some (.inl 11) := by decide +kernel
def z_105 : pS := sR z_104 0 10 (some 165)
theorem zl_105 : z_105.1.length = 166 := by decide +kernel
def z_106 : pS := sN z_105 (.inl 6)
theorem zk_106_166 : z_106.1[166]? = some (.inl 6) := by decide +kernel
def z_107 : pS := cX6 166 z_106
theorem zk_107_0 : z_107.1[0]? = some (.inl 11) := by decide +kernel
def z_108 : pS := sR z_107 0 11 (some 166)
theorem zk_108_0 : z_108.1[0]? = some (.inl 11) := by decide +kernel
theorem zr_108_0_3 : z_108.2.2.2 0 3 = some 28 := by decide +kernel
theorem zk_108_28 : z_108.1[28]? = some (.inr (5, 8)) := by decide +kernel
theorem zl_108 : z_108.1.length = 169 := by decide +kernel
def z_109 : pS := objS 28 6 mkP 8 z_108
set_option maxRecDepth 20000 in
set_option maxHeartbeats 4000000 in
theorem lp_X11_init_159 {g : pG} {l : Launch} {F : pF} (K : PW g l (pRoom 4 192 5369) M_X11_init F 187 [(1, .int (nI 8)), (0, .ref 0)] [] (objS 28 6 mkP 8 z_108) (168 + 3 * 8) (5209 + 20 * 8)) : ∀ (r i : Nat), i + r = 8 → PW g l (pRoom 4 192 5369) M_X11_init F 159 [(1, .int (nI i)), (0, .ref 0)] [] (objS 28 6 mkP i z_108) (168 + 3 * i) (5209 + 20 * i)
  | 0, i, h => by
    obtain rfl : i = 8 := by omega
    refine PW.iload_n 0 1 dX11_init_159 rfl rfl ?_
    refine PW.aload_n 1 0 dX11_init_160 rfl rfl rfl ?_
    refine KW.getr dX11_init_161 fL_X11_38 (objS_l hmP.1 8 zk_108_0) (Or.inr ⟨_, rfl⟩) ((objS_r hmP.2.2 hmP.2.1 (by rw [zl_108]; decide) (by decide) 8).trans zr_108_0_3) ?_
    refine PW.alen (v := 8) dX11_init_164 (objS_l hmP.1 8 zk_108_28) (by decide) rfl ?_
    refine PW.icmp_ge (tgt := 187) dX11_init_165 (by decide) (fun _ => K) (fun c => absurd (by decide) c)
  | r + 1, i, h => by
    have hcl : (nI i).toNatClampNeg = i := nI_clamp (by omega)
    have hin : vp_in (nI i) 8 := vp_in_nI (by omega) (by omega)
    refine PW.iload_n 0 1 dX11_init_159 rfl rfl ?_
    refine PW.aload_n 1 0 dX11_init_160 rfl rfl rfl ?_
    refine KW.getr dX11_init_161 fL_X11_38 (objS_l hmP.1 i zk_108_0) (Or.inr ⟨_, rfl⟩) ((objS_r hmP.2.2 hmP.2.1 (by rw [zl_108]; decide) (by decide) i).trans zr_108_0_3) ?_
    refine PW.alen (v := 8) dX11_init_164 (objS_l hmP.1 i zk_108_28) (by decide) rfl ?_
    refine PW.icmp_ge (tgt := 187) dX11_init_165 (by decide) (fun c => absurd c (loop_ge (n := 8) (by omega) (by decide))) (fun _ => ?_)
    refine PW.aload_n 1 0 dX11_init_168 rfl rfl rfl ?_
    refine KW.getr dX11_init_169 fL_X11_38 (objS_l hmP.1 i zk_108_0) (Or.inr ⟨_, rfl⟩) ((objS_r hmP.2.2 hmP.2.1 (by rw [zl_108]; decide) (by decide) i).trans zr_108_0_3) ?_
    refine PW.iload_n 0 1 dX11_init_172 rfl rfl ?_
    refine KW.newo (ci := 6) dX11_init_173 (by decide) cL_X11_36 iN_6 (by show _ ≤ 192; omega) (by show _ + 4 ≤ 5369; omega) rfl rfl ?_
    refine PW.dup dX11_init_176 rfl ?_
    refine PW.callIN (r := none) (st := [.ref (objS 28 6 mkP i z_108).1.length, .int (nI i), .ref 28]) [] dX11_init_177 (kcX6 sN_n) MI_X6_init mN_X11_42 rfl rfl (Nat.le_of_ble_eq_true rfl) (by decide) (by decide) (by show _ ≤ 192; omega) (by show _ + 4 + 16 ≤ 5369; omega) ?_
    refine PW.aastore (ci := 6) dX11_init_180 (hmP.1 _ _ _ _ (sN_l (objS_l hmP.1 i zk_108_28))) (Or.inr ⟨rfl, rfl⟩) (hmP.1 _ _ _ _ sN_n) hin ?_
    rw [hcl]
    refine PW.iinc (v := nI (i + 1)) 0 dX11_init_181 rfl (nI_1 i) (Nat.le_of_ble_eq_true rfl) rfl ?_
    refine PW.goto (tgt := 159) dX11_init_184 (by decide) ?_
    exact PW.cnt (by first | rfl | omega) (by first | rfl | (have : kN 8 = 16 := rfl; have : kN 6 = 4 := rfl; omega)) (lp_X11_init_159 K r (i + 1) (by omega))
set_option maxRecDepth 20000 in
set_option maxHeartbeats 4000000 in
theorem k_X11_init {g : pG} {l : Launch} : PM g l 4 M_X11_init [.ref 0] z_1 none z_109 192 5369 := by
  refine PM.of (by decide +kernel) (Nat.le_of_ble_eq_true rfl) ?_
  show PW g l (pRoom 4 192 5369) M_X11_init _ 0 [(0, .ref 0)] [] z_1 0 0
  refine PW.aload_n 0 0 dX11_init_0 rfl rfl rfl ?_
  refine PW.objInit dX11_init_1 mL_X11_1 oI.1 oI.2 (Nat.le_of_ble_eq_true rfl) (Nat.le_of_ble_eq_true rfl) (Nat.le_of_ble_eq_true rfl) ?_
  refine PW.aload_n 0 0 dX11_init_4 rfl rfl rfl ?_
  refine KW.newo (ci := 9) (n := 1) (S' := z_2) dX11_init_5 (by decide) cL_X11_7 iN_9 (Nat.le_of_ble_eq_true rfl) (Nat.le_of_ble_eq_true rfl) zl_1 rfl ?_
  refine PW.dup dX11_init_8 rfl ?_
  refine PW.callIN (S' := z_4) (r := none) (mc := 1) (ms := 200) (st := [.ref 1, .ref 0]) [] dX11_init_9 k_X9_init MI_X9_init mN_X11_9 rfl rfl (Nat.le_of_ble_eq_true rfl) (by decide) (by decide) (Nat.le_of_ble_eq_true rfl) (Nat.le_of_ble_eq_true rfl) ?_
  show PW _ _ _ _ _ _ _ [.ref 1, .ref 0] _ _ _
  refine KW.putr (S' := z_5) dX11_init_12 fL_X11_10 (Or.inr ⟨rfl, rfl⟩) zk_4_0 (Or.inl ⟨_, rfl⟩) rfl ?_
  refine PW.aload_n 0 0 dX11_init_15 rfl rfl rfl ?_
  refine KW.newo (ci := 1) (n := 3) (S' := z_6) dX11_init_16 (by decide) cL_X11_16 iN_1 (Nat.le_of_ble_eq_true rfl) (Nat.le_of_ble_eq_true rfl) zl_5 rfl ?_
  refine PW.dup dX11_init_19 rfl ?_
  refine PW.callIN (S' := z_26) (r := none) (mc := 23) (ms := 646) (st := [.ref 3, .ref 0]) [] dX11_init_20 k_X1_init MI_X1_init mN_X11_18 rfl rfl (Nat.le_of_ble_eq_true rfl) (by decide) (by decide) (Nat.le_of_ble_eq_true rfl) (Nat.le_of_ble_eq_true rfl) ?_
  show PW _ _ _ _ _ _ _ [.ref 3, .ref 0] _ _ _
  refine KW.putr (S' := z_27) dX11_init_23 fL_X11_19 (Or.inr ⟨rfl, rfl⟩) zk_26_0 (Or.inl ⟨_, rfl⟩) rfl ?_
  refine PW.aload_n 0 0 dX11_init_26 rfl rfl rfl ?_
  refine KW.newo (ci := 4) (n := 27) (S' := z_28) dX11_init_27 (by decide) cL_X11_23 iN_4 (Nat.le_of_ble_eq_true rfl) (Nat.le_of_ble_eq_true rfl) zl_27 rfl ?_
  refine PW.dup dX11_init_30 rfl ?_
  refine PW.aload_n 0 0 dX11_init_31 rfl rfl rfl ?_
  refine KW.getr dX11_init_32 fL_X11_10 zk_28_0 (Or.inl ⟨_, rfl⟩) zr_28_0_0 ?_
  refine PW.aload_n 0 0 dX11_init_35 rfl rfl rfl ?_
  refine KW.getr dX11_init_36 fL_X11_19 zk_28_0 (Or.inl ⟨_, rfl⟩) zr_28_0_1 ?_
  refine PW.callV (r := some (.ref 19)) (S' := z_28) (ci := 1) (st := [.ref 1, .ref 27, .ref 27, .ref 0]) [] dX11_init_39 (kspare zk_28_3 zr_28_3_10) MV_X1_spareLaw mL_X11_25 (by decide) rfl zk_28_3 rfl rfl (Nat.le_of_ble_eq_true rfl) (by decide) (by decide) (Nat.le_of_ble_eq_true rfl) (Nat.le_of_ble_eq_true rfl) ?_
  show PW _ _ _ _ _ _ _ (.ref 19 :: [.ref 1, .ref 27, .ref 27, .ref 0]) _ _ _
  refine PW.callI (S' := z_30) (r := none) (mc := 0) (ms := 0) (st := [.ref 27, .ref 0]) [.ref 1, .ref 19] dX11_init_42 k_X4_init MI_X4_init mL_X11_29 rfl rfl (Nat.le_of_ble_eq_true rfl) (by decide) (by decide) (Nat.le_of_ble_eq_true rfl) (Nat.le_of_ble_eq_true rfl) ?_
  show PW _ _ _ _ _ _ _ [.ref 27, .ref 0] _ _ _
  refine KW.putr (S' := z_31) dX11_init_45 fL_X11_32 (Or.inr ⟨rfl, rfl⟩) zk_30_0 (Or.inl ⟨_, rfl⟩) rfl ?_
  refine PW.aload_n 0 0 dX11_init_48 rfl rfl rfl ?_
  refine PW.bipush (v := 8) dX11_init_49 (by decide) ?_
  refine KW.anewa (t := 5) (n := 8) (m := 28) (S' := z_32) dX11_init_51 (Or.inr ⟨rfl, rfl⟩) cL_X11_36 (by decide) (by decide) (by decide) (Nat.le_of_ble_eq_true rfl) (Nat.le_of_ble_eq_true rfl) zl_31 rfl ?_
  refine KW.putr (S' := z_33) dX11_init_54 fL_X11_38 (Or.inr ⟨rfl, rfl⟩) zk_32_0 (Or.inr ⟨_, rfl⟩) rfl ?_
  refine PW.aload_n 0 0 dX11_init_57 rfl rfl rfl ?_
  refine KW.newo (ci := 6) (n := 29) (S' := z_34) dX11_init_58 (by decide) cL_X11_36 iN_6 (Nat.le_of_ble_eq_true rfl) (Nat.le_of_ble_eq_true rfl) zl_33 rfl ?_
  refine PW.dup dX11_init_61 rfl ?_
  refine PW.callIN (S' := z_35) (r := none) (mc := 2) (ms := 16) (st := [.ref 29, .ref 0]) [] dX11_init_62 (kcX6 zk_34_29) MI_X6_init mN_X11_42 rfl rfl (Nat.le_of_ble_eq_true rfl) (by decide) (by decide) (Nat.le_of_ble_eq_true rfl) (Nat.le_of_ble_eq_true rfl) ?_
  show PW _ _ _ _ _ _ _ [.ref 29, .ref 0] _ _ _
  refine KW.putr (S' := z_36) dX11_init_65 fL_X11_43 (Or.inr ⟨rfl, rfl⟩) zk_35_0 (Or.inl ⟨_, rfl⟩) rfl ?_
  refine PW.aload_n 0 0 dX11_init_68 rfl rfl rfl ?_
  refine KW.newo (ci := 2) (n := 32) (S' := z_37) dX11_init_69 (by decide) cL_X11_47 iN_2 (Nat.le_of_ble_eq_true rfl) (Nat.le_of_ble_eq_true rfl) zl_36 rfl ?_
  refine PW.dup dX11_init_72 rfl ?_
  refine PW.aload_n 0 0 dX11_init_73 rfl rfl rfl ?_
  refine KW.getr dX11_init_74 fL_X11_19 zk_37_0 (Or.inl ⟨_, rfl⟩) zr_37_0_1 ?_
  refine PW.callI (S' := z_45) (r := none) (mc := 83) (ms := 1380) (st := [.ref 32, .ref 0]) [.ref 3] dX11_init_77 k_X2_init MI_X2_init mL_X11_49 rfl rfl (Nat.le_of_ble_eq_true rfl) (by decide) (by decide) (Nat.le_of_ble_eq_true rfl) (Nat.le_of_ble_eq_true rfl) ?_
  show PW _ _ _ _ _ _ _ [.ref 32, .ref 0] _ _ _
  refine KW.putr (S' := z_46) dX11_init_80 fL_X11_52 (Or.inr ⟨rfl, rfl⟩) zk_45_0 (Or.inl ⟨_, rfl⟩) rfl ?_
  refine PW.aload_n 0 0 dX11_init_83 rfl rfl rfl ?_
  refine KW.newo (ci := 5) (n := 116) (S' := z_47) dX11_init_84 (by decide) cL_X11_56 iN_5 (Nat.le_of_ble_eq_true rfl) (Nat.le_of_ble_eq_true rfl) zl_46 rfl ?_
  refine PW.dup dX11_init_87 rfl ?_
  refine PW.aload_n 0 0 dX11_init_88 rfl rfl rfl ?_
  refine KW.getr dX11_init_89 fL_X11_19 zk_47_0 (Or.inl ⟨_, rfl⟩) zr_47_0_1 ?_
  refine PW.callI (S' := z_63) (r := none) (mc := 7) (ms := 2080) (st := [.ref 116, .ref 0]) [.ref 3] dX11_init_92 k_X5_init MI_X5_init mL_X11_58 rfl rfl (Nat.le_of_ble_eq_true rfl) (by decide) (by decide) (Nat.le_of_ble_eq_true rfl) (Nat.le_of_ble_eq_true rfl) ?_
  show PW _ _ _ _ _ _ _ [.ref 116, .ref 0] _ _ _
  refine KW.putr (S' := z_64) dX11_init_95 fL_X11_59 (Or.inr ⟨rfl, rfl⟩) zk_63_0 (Or.inl ⟨_, rfl⟩) rfl ?_
  refine PW.aload_n 0 0 dX11_init_98 rfl rfl rfl ?_
  refine KW.newo (ci := 10) (n := 124) (S' := z_65) dX11_init_99 (by decide) cL_X11_63 iN_10 (Nat.le_of_ble_eq_true rfl) (Nat.le_of_ble_eq_true rfl) zl_64 rfl ?_
  refine PW.dup dX11_init_102 rfl ?_
  refine PW.callI (S' := z_76) (r := none) (mc := 29) (ms := 200) (st := [.ref 124, .ref 0]) [] dX11_init_103 k_X10_init MI_X10_init mL_X11_65 rfl rfl (Nat.le_of_ble_eq_true rfl) (by decide) (by decide) (Nat.le_of_ble_eq_true rfl) (Nat.le_of_ble_eq_true rfl) ?_
  show PW _ _ _ _ _ _ _ [.ref 124, .ref 0] _ _ _
  refine KW.putr (S' := z_77) dX11_init_106 fL_X11_66 (Or.inr ⟨rfl, rfl⟩) zk_76_0 (Or.inl ⟨_, rfl⟩) rfl ?_
  refine PW.aload_n 0 0 dX11_init_109 rfl rfl rfl ?_
  refine KW.newo (ci := 7) (n := 154) (S' := z_78) dX11_init_110 (by decide) cL_X11_70 iN_7 (Nat.le_of_ble_eq_true rfl) (Nat.le_of_ble_eq_true rfl) zl_77 rfl ?_
  refine PW.dup dX11_init_113 rfl ?_
  refine PW.callI (S' := z_94) (r := none) (mc := 7) (ms := 566) (st := [.ref 154, .ref 0]) [] dX11_init_114 k_X7_init MI_X7_init mL_X11_72 rfl rfl (Nat.le_of_ble_eq_true rfl) (by decide) (by decide) (Nat.le_of_ble_eq_true rfl) (Nat.le_of_ble_eq_true rfl) ?_
  show PW _ _ _ _ _ _ _ [.ref 154, .ref 0] _ _ _
  refine KW.putr (S' := z_95) dX11_init_117 fL_X11_73 (Or.inr ⟨rfl, rfl⟩) zk_94_0 (Or.inl ⟨_, rfl⟩) rfl ?_
  refine PW.aload_n 0 0 dX11_init_120 rfl rfl rfl ?_
  refine KW.newo (ci := 0) (n := 162) (S' := z_96) dX11_init_121 (by decide) cL_X11_77 iN_0 (Nat.le_of_ble_eq_true rfl) (Nat.le_of_ble_eq_true rfl) zl_95 rfl ?_
  refine PW.dup dX11_init_124 rfl ?_
  refine PW.callIN (S' := z_101) (r := none) (mc := 2) (ms := 20) (st := [.ref 162, .ref 0]) [] dX11_init_125 k_X0_init MI_X0_init mN_X11_79 rfl rfl (Nat.le_of_ble_eq_true rfl) (by decide) (by decide) (Nat.le_of_ble_eq_true rfl) (Nat.le_of_ble_eq_true rfl) ?_
  show PW _ _ _ _ _ _ _ [.ref 162, .ref 0] _ _ _
  refine KW.putr (S' := z_102) dX11_init_128 fL_X11_80 (Or.inr ⟨rfl, rfl⟩) zk_101_0 (Or.inl ⟨_, rfl⟩) rfl ?_
  refine PW.aload_n 0 0 dX11_init_131 rfl rfl rfl ?_
  refine KW.newo (ci := 8) (n := 165) (S' := z_103) dX11_init_132 (by decide) cL_X11_84 iN_8 (Nat.le_of_ble_eq_true rfl) (Nat.le_of_ble_eq_true rfl) zl_102 rfl ?_
  refine PW.dup dX11_init_135 rfl ?_
  refine PW.aload_n 0 0 dX11_init_136 rfl rfl rfl ?_
  refine KW.getr dX11_init_137 fL_X11_19 zk_103_0 (Or.inl ⟨_, rfl⟩) zr_103_0_1 ?_
  refine PW.callI (S' := z_104) (r := none) (mc := 0) (ms := 0) (st := [.ref 165, .ref 0]) [.ref 3] dX11_init_140 (kcX8 zk_103_165) MI_X8_init mL_X11_86 rfl rfl (Nat.le_of_ble_eq_true rfl) (by decide) (by decide) (Nat.le_of_ble_eq_true rfl) (Nat.le_of_ble_eq_true rfl) ?_
  show PW _ _ _ _ _ _ _ [.ref 165, .ref 0] _ _ _
  refine KW.putr (S' := z_105) dX11_init_143 fL_X11_87 (Or.inr ⟨rfl, rfl⟩) zk_104_0 (Or.inl ⟨_, rfl⟩) rfl ?_
  refine PW.aload_n 0 0 dX11_init_146 rfl rfl rfl ?_
  refine KW.newo (ci := 6) (n := 166) (S' := z_106) dX11_init_147 (by decide) cL_X11_36 iN_6 (Nat.le_of_ble_eq_true rfl) (Nat.le_of_ble_eq_true rfl) zl_105 rfl ?_
  refine PW.dup dX11_init_150 rfl ?_
  refine PW.callIN (S' := z_107) (r := none) (mc := 2) (ms := 16) (st := [.ref 166, .ref 0]) [] dX11_init_151 (kcX6 zk_106_166) MI_X6_init mN_X11_42 rfl rfl (Nat.le_of_ble_eq_true rfl) (by decide) (by decide) (Nat.le_of_ble_eq_true rfl) (Nat.le_of_ble_eq_true rfl) ?_
  show PW _ _ _ _ _ _ _ [.ref 166, .ref 0] _ _ _
  refine KW.putr (S' := z_108) dX11_init_154 fL_X11_91 (Or.inr ⟨rfl, rfl⟩) zk_107_0 (Or.inl ⟨_, rfl⟩) rfl ?_
  refine PW.iconst (v := 0) dX11_init_157 (by decide) ?_
  refine PW.istore_n dX11_init_158 rfl (Nat.le_of_ble_eq_true rfl) rfl ?_
  refine lp_X11_init_159 (?_ : PW _ _ _ _ _ 187 [(1, .int (nI 8)), (0, .ref 0)] [] z_109 192 5369) 8 0 rfl
  exact PW.vret dX11_init_187 rfl (Nat.le_refl _) (Nat.le_refl _)
def z_110 : pS := sN z_109 (.inl 12)
theorem zl_110 : z_110.1.length = 194 := by decide +kernel
def z_111 : pS := sN z_110 (.inr (2, 200))
theorem zk_111_193 : z_111.1[193]? = some (.inl 12) := by decide +kernel
def z_112 : pS := sR z_111 193 0 (some 194)
theorem zl_112 : z_112.1.length = 195 := by decide +kernel
def z_113 : pS := sN z_112 (.inr (0, 8))
theorem zk_113_193 : z_113.1[193]? = some (.inl 12) := by decide +kernel
def z_114 : pS := sR z_113 193 8 (some 195)
theorem zl_114 : z_114.1.length = 196 := by decide +kernel
def z_115 : pS := sN z_114 (.inr (0, 8))
theorem zk_115_193 : z_115.1[193]? = some (.inl 12) := by decide +kernel
def z_116 : pS := sR z_115 193 9 (some 196)
theorem zl_116 : z_116.1.length = 197 := by decide +kernel
def z_117 : pS := sN z_116 (.inr (0, 8))
theorem zk_117_193 : z_117.1[193]? = some (.inl 12) := by decide +kernel
def z_118 : pS := sR z_117 193 10 (some 197)
theorem zl_118 : z_118.1.length = 198 := by decide +kernel
def z_119 : pS := sN z_118 (.inr (0, 8))
theorem zk_119_193 : z_119.1[193]? = some (.inl 12) := by decide +kernel
def z_120 : pS := sR z_119 193 11 (some 198)
theorem zl_120 : z_120.1.length = 199 := by decide +kernel
def z_121 : pS := sN z_120 (.inr (0, 8))
theorem zk_121_193 : z_121.1[193]? = some (.inl 12) := by decide +kernel
def z_122 : pS := sR z_121 193 12 (some 199)
theorem zl_122 : z_122.1.length = 200 := by decide +kernel
def z_123 : pS := sN z_122 (.inr (0, 32))
theorem zk_123_193 : z_123.1[193]? = some (.inl 12) := by decide +kernel
def z_124 : pS := sR z_123 193 13 (some 200)
theorem zl_124 : z_124.1.length = 201 := by decide +kernel
def z_125 : pS := sN z_124 (.inr (0, 32))
theorem zk_125_193 : z_125.1[193]? = some (.inl 12) := by decide +kernel
def z_126 : pS := sR z_125 193 14 (some 201)
theorem zl_126 : z_126.1.length = 202 := by decide +kernel
def z_127 : pS := sN z_126 (.inr (0, 12))
theorem zk_127_193 : z_127.1[193]? = some (.inl 12) := by decide +kernel
def z_128 : pS := sR z_127 193 16 (some 202)
theorem zl_128 : z_128.1.length = 203 := by decide +kernel
def z_129 : pS := sN z_128 (.inr (0, 12))
theorem zk_129_193 : z_129.1[193]? = some (.inl 12) := by decide +kernel
def z_130 : pS := sR z_129 193 17 (some 203)
theorem zl_130 : z_130.1.length = 204 := by decide +kernel
def z_131 : pS := sN z_130 (.inr (0, 12))
theorem zk_131_193 : z_131.1[193]? = some (.inl 12) := by decide +kernel
def z_132 : pS := sR z_131 193 18 (some 204)
theorem zl_132 : z_132.1.length = 205 := by decide +kernel
def z_133 : pS := sN z_132 (.inr (0, 12))
theorem zk_133_193 : z_133.1[193]? = some (.inl 12) := by decide +kernel
def z_134 : pS := sR z_133 193 19 (some 205)
theorem zl_134 : z_134.1.length = 206 := by decide +kernel
def z_135 : pS := sN z_134 (.inr (0, 160))
theorem zk_135_193 : z_135.1[193]? = some (.inl 12) := by decide +kernel
def z_136 : pS := sR z_135 193 20 (some 206)
theorem zl_136 : z_136.1.length = 207 := by decide +kernel
def z_137 : pS := sN z_136 (.inr (0, 160))
theorem zk_137_193 : z_137.1[193]? = some (.inl 12) := by decide +kernel
def z_138 : pS := sR z_137 193 21 (some 207)
theorem zl_138 : z_138.1.length = 208 := by decide +kernel
def z_139 : pS := sN z_138 (.inr (0, 12))
theorem zk_139_193 : z_139.1[193]? = some (.inl 12) := by decide +kernel
def z_140 : pS := sR z_139 193 22 (some 208)
theorem zl_140 : z_140.1.length = 209 := by decide +kernel
def z_141 : pS := sN z_140 (.inr (0, 12))
theorem zk_141_193 : z_141.1[193]? = some (.inl 12) := by decide +kernel
def z_142 : pS := sR z_141 193 23 (some 209)
theorem zl_142 : z_142.1.length = 210 := by decide +kernel
def z_143 : pS := sN z_142 (.inr (0, 12))
theorem zk_143_193 : z_143.1[193]? = some (.inl 12) := by decide +kernel
def z_144 : pS := sR z_143 193 24 (some 210)
theorem zl_144 : z_144.1.length = 211 := by decide +kernel
def z_145 : pS := sN z_144 (.inr (0, 12))
theorem zk_145_193 : z_145.1[193]? = some (.inl 12) := by decide +kernel
def z_146 : pS := sR z_145 193 25 (some 211)
theorem zl_146 : z_146.1.length = 212 := by decide +kernel
def z_147 : pS := sN z_146 (.inr (0, 160))
theorem zk_147_193 : z_147.1[193]? = some (.inl 12) := by decide +kernel
def z_148 : pS := sR z_147 193 26 (some 212)
theorem zl_148 : z_148.1.length = 213 := by decide +kernel
def z_149 : pS := sN z_148 (.inr (0, 160))
theorem zk_149_193 : z_149.1[193]? = some (.inl 12) := by decide +kernel
def z_150 : pS := sR z_149 193 27 (some 213)
theorem zl_150 : z_150.1.length = 214 := by decide +kernel
def z_151 : pS := sN z_150 (.inr (0, 200))
theorem zk_151_193 : z_151.1[193]? = some (.inl 12) := by decide +kernel
def z_152 : pS := sR z_151 193 37 (some 214)
theorem zl_152 : z_152.1.length = 215 := by decide +kernel
def z_153 : pS := sN z_152 (.inr (0, 200))
theorem zk_153_193 : z_153.1[193]? = some (.inl 12) := by decide +kernel
def z_154 : pS := sR z_153 193 45 (some 215)
theorem zl_154 : z_154.1.length = 216 := by decide +kernel
def z_155 : pS := sN z_154 (.inr (3, 200))
theorem zk_155_193 : z_155.1[193]? = some (.inl 12) := by decide +kernel
def z_156 : pS := sR z_155 193 46 (some 216)
theorem zl_156 : z_156.1.length = 217 := by decide +kernel
def z_157 : pS := sN z_156 (.inr (0, 16))
theorem zk_157_193 : z_157.1[193]? = some (.inl 12) := by decide +kernel
def z_158 : pS := sR z_157 193 47 (some 217)
theorem zl_158 : z_158.1.length = 218 := by decide +kernel
def z_159 : pS := sN z_158 (.inr (0, 128))
theorem zk_159_193 : z_159.1[193]? = some (.inl 12) := by decide +kernel
def z_160 : pS := sR z_159 193 48 (some 218)
theorem zl_160 : z_160.1.length = 219 := by decide +kernel
def z_161 : pS := sN z_160 (.inr (0, 128))
theorem zk_161_193 : z_161.1[193]? = some (.inl 12) := by decide +kernel
def z_162 : pS := sR z_161 193 49 (some 219)
theorem zl_162 : z_162.1.length = 220 := by decide +kernel
def z_163 : pS := sN z_162 (.inr (0, 16))
theorem zk_163_193 : z_163.1[193]? = some (.inl 12) := by decide +kernel
def z_164 : pS := sR z_163 193 50 (some 220)
theorem zl_164 : z_164.1.length = 221 := by decide +kernel
def z_165 : pS := sN z_164 (.inr (0, 8))
theorem zk_165_193 : z_165.1[193]? = some (.inl 12) := by decide +kernel
def z_166 : pS := sR z_165 193 51 (some 221)
theorem zl_166 : z_166.1.length = 222 := by decide +kernel
def z_167 : pS := sN z_166 (.inr (0, 8))
theorem zk_167_193 : z_167.1[193]? = some (.inl 12) := by decide +kernel
def z_168 : pS := sR z_167 193 52 (some 222)
theorem zl_168 : z_168.1.length = 223 := by decide +kernel
def z_169 : pS := sN z_168 (.inr (0, 32))
theorem zk_169_193 : z_169.1[193]? = some (.inl 12) := by decide +kernel
def z_170 : pS := sR z_169 193 55 (some 223)
theorem zl_170 : z_170.1.length = 224 := by decide +kernel
def z_171 : pS := sN z_170 (.inr (0, 8))
theorem zk_171_193 : z_171.1[193]? = some (.inl 12) := by decide +kernel
def z_172 : pS := sR z_171 193 56 (some 224)
theorem zl_172 : z_172.1.length = 225 := by decide +kernel
def z_173 : pS := sN z_172 (.inr (0, 8))
theorem zk_173_193 : z_173.1[193]? = some (.inl 12) := by decide +kernel
def z_174 : pS := sR z_173 193 57 (some 225)
theorem zl_174 : z_174.1.length = 226 := by decide +kernel
def z_175 : pS := sN z_174 (.inr (0, 8))
theorem zk_175_193 : z_175.1[193]? = some (.inl 12) := by decide +kernel
def z_176 : pS := sR z_175 193 58 (some 226)
theorem zl_176 : z_176.1.length = 227 := by decide +kernel
def z_177 : pS := sN z_176 (.inr (0, 8))
theorem zk_177_193 : z_177.1[193]? = some (.inl 12) := by decide +kernel
def z_178 : pS := sR z_177 193 59 (some 227)
theorem zl_178 : z_178.1.length = 228 := by decide +kernel
def z_179 : pS := sN z_178 (.inr (0, 10))
theorem zk_179_193 : z_179.1[193]? = some (.inl 12) := by decide +kernel
def z_180 : pS := sR z_179 193 60 (some 228)
theorem zl_180 : z_180.1.length = 229 := by decide +kernel
def z_181 : pS := sN z_180 (.inr (0, 10))
theorem zk_181_193 : z_181.1[193]? = some (.inl 12) := by decide +kernel
def z_182 : pS := sR z_181 193 61 (some 229)
theorem zl_182 : z_182.1.length = 230 := by decide +kernel
def z_183 : pS := sN z_182 (.inr (0, 80))
theorem zk_183_193 : z_183.1[193]? = some (.inl 12) := by decide +kernel
def z_184 : pS := sR z_183 193 62 (some 230)
theorem zl_184 : z_184.1.length = 231 := by decide +kernel
def z_185 : pS := sN z_184 (.inr (0, 80))
theorem zk_185_193 : z_185.1[193]? = some (.inl 12) := by decide +kernel
def z_186 : pS := sR z_185 193 63 (some 231)
theorem zl_186 : z_186.1.length = 232 := by decide +kernel
def z_187 : pS := sN z_186 (.inr (0, 80))
theorem zk_187_193 : z_187.1[193]? = some (.inl 12) := by decide +kernel
def z_188 : pS := sR z_187 193 64 (some 232)
theorem zl_188 : z_188.1.length = 233 := by decide +kernel
def z_189 : pS := sN z_188 (.inr (0, 80))
theorem zk_189_193 : z_189.1[193]? = some (.inl 12) := by decide +kernel
def z_190 : pS := sR z_189 193 65 (some 233)
theorem zl_190 : z_190.1.length = 234 := by decide +kernel
def z_191 : pS := sN z_190 (.inr (0, 6))
theorem zk_191_193 : z_191.1[193]? = some (.inl 12) := by decide +kernel
def z_192 : pS := sR z_191 193 66 (some 234)
theorem zl_192 : z_192.1.length = 235 := by decide +kernel
def z_193 : pS := sN z_192 (.inr (0, 60))
theorem zk_193_193 : z_193.1[193]? = some (.inl 12) := by decide +kernel
def z_194 : pS := sR z_193 193 67 (some 235)
theorem zl_194 : z_194.1.length = 236 := by decide +kernel
def z_195 : pS := sN z_194 (.inr (0, 10))
theorem zk_195_193 : z_195.1[193]? = some (.inl 12) := by decide +kernel
def z_196 : pS := sR z_195 193 68 (some 236)
theorem zk_196_193 : z_196.1[193]? = some (.inl 12) := by decide +kernel
def z_197 : pS := sI z_196 193 69 1
theorem zl_197 : z_197.1.length = 237 := by decide +kernel
def z_198 : pS := sN z_197 (.inr (0, 10))
theorem zk_198_193 : z_198.1[193]? = some (.inl 12) := by decide +kernel
def z_199 : pS := sR z_198 193 72 (some 237)
theorem zl_199 : z_199.1.length = 238 := by decide +kernel
def z_200 : pS := sN z_199 (.inr (0, 10))
theorem zk_200_193 : z_200.1[193]? = some (.inl 12) := by decide +kernel
def z_201 : pS := sR z_200 193 73 (some 238)
theorem zl_201 : z_201.1.length = 239 := by decide +kernel
def z_202 : pS := sN z_201 (.inr (0, 240))
theorem zk_202_193 : z_202.1[193]? = some (.inl 12) := by decide +kernel
def z_203 : pS := sR z_202 193 74 (some 239)
theorem zl_203 : z_203.1.length = 240 := by decide +kernel
def z_204 : pS := sN z_203 (.inr (1, 41))
theorem zk_204_193 : z_204.1[193]? = some (.inl 12) := by decide +kernel
def z_205 : pS := sR z_204 193 75 (some 240)
theorem zl_205 : z_205.1.length = 241 := by decide +kernel
def z_206 : pS := sN z_205 (.inr (1, 205))
theorem zk_206_193 : z_206.1[193]? = some (.inl 12) := by decide +kernel
def z_207 : pS := sR z_206 193 76 (some 241)
theorem zk_207_193 : z_207.1[193]? = some (.inl 12) := by decide +kernel
theorem zr_207_193_67 : z_207.2.2.2 193 67 = some 235 := by decide +kernel
theorem zk_207_235 : z_207.1[235]? = some (.inr (0, 60)) := by decide +kernel
def z_208 : pS := fillS 235 (5) 60 z_207
theorem zk_208_193 : z_208.1[193]? = some (.inl 12) := by decide +kernel
theorem zr_208_193_68 : z_208.2.2.2 193 68 = some 236 := by decide +kernel
theorem zk_208_236 : z_208.1[236]? = some (.inr (0, 10)) := by decide +kernel
def z_209 : pS := fillS 236 (-1) 10 z_208
set_option maxRecDepth 20000 in
set_option maxHeartbeats 4000000 in
theorem lp_X12_init_407 {g : pG} {l : Launch} {F : pF} (K : PW g l (pRoom 1 48 2930) M_X12_init F 426 [(1, .int (nI 60)), (0, .ref 193)] [] (fillS 235 (5) 60 z_207) (48 + 0 * 60) (2930 + 0 * 60)) : ∀ (r i : Nat), i + r = 60 → PW g l (pRoom 1 48 2930) M_X12_init F 407 [(1, .int (nI i)), (0, .ref 193)] [] (fillS 235 (5) i z_207) (48 + 0 * i) (2930 + 0 * i)
  | 0, i, h => by
    obtain rfl : i = 60 := by omega
    refine PW.iload_n 0 1 dX12_init_407 rfl rfl ?_
    refine PW.bipush (v := 60) dX12_init_408 (by decide) ?_
    refine PW.icmp_ge (tgt := 426) dX12_init_410 (by decide) (fun _ => K) (fun c => absurd (by decide) c)
  | r + 1, i, h => by
    have hcl : (nI i).toNatClampNeg = i := nI_clamp (by omega)
    have hin : vp_in (nI i) 60 := vp_in_nI (by omega) (by omega)
    refine PW.iload_n 0 1 dX12_init_407 rfl rfl ?_
    refine PW.bipush (v := 60) dX12_init_408 (by decide) ?_
    refine PW.icmp_ge (tgt := 426) dX12_init_410 (by decide) (fun c => absurd c (loop_ge (n := 60) (by omega) (by decide))) (fun _ => ?_)
    refine PW.aload_n 1 0 dX12_init_413 rfl rfl rfl ?_
    refine KW.getr dX12_init_414 fL_X12_135 ((congrArg (fun x => x[193]?) (fillS_1 235 (5) i z_207).1).trans zk_207_193) (Or.inr ⟨_, rfl⟩) ((congrArg (fun x => x 193 67) (fillS_1 235 (5) i z_207).2).trans zr_207_193_67) ?_
    refine PW.iload_n 0 1 dX12_init_417 rfl rfl ?_
    refine PW.iconst (v := 5) dX12_init_418 (by decide) ?_
    refine PW.iastore dX12_init_419 ((congrArg (fun x => x[235]?) (fillS_1 235 (5) i z_207).1).trans zk_207_235) hin ?_
    rw [hcl]
    refine PW.iinc (v := nI (i + 1)) 0 dX12_init_420 rfl (nI_1 i) (Nat.le_of_ble_eq_true rfl) rfl ?_
    refine PW.goto (tgt := 407) dX12_init_423 (by decide) ?_
    exact PW.cnt (by first | rfl | omega) (by first | rfl | (have : kN 8 = 16 := rfl; have : kN 6 = 4 := rfl; omega)) (lp_X12_init_407 K r (i + 1) (by omega))
set_option maxRecDepth 20000 in
set_option maxHeartbeats 4000000 in
theorem lp_X12_init_428 {g : pG} {l : Launch} {F : pF} (K : PW g l (pRoom 1 48 2930) M_X12_init F 447 [(1, .int (nI 10)), (0, .ref 193)] [] (fillS 236 (-1) 10 z_208) (48 + 0 * 10) (2930 + 0 * 10)) : ∀ (r i : Nat), i + r = 10 → PW g l (pRoom 1 48 2930) M_X12_init F 428 [(1, .int (nI i)), (0, .ref 193)] [] (fillS 236 (-1) i z_208) (48 + 0 * i) (2930 + 0 * i)
  | 0, i, h => by
    obtain rfl : i = 10 := by omega
    refine PW.iload_n 0 1 dX12_init_428 rfl rfl ?_
    refine PW.bipush (v := 10) dX12_init_429 (by decide) ?_
    refine PW.icmp_ge (tgt := 447) dX12_init_431 (by decide) (fun _ => K) (fun c => absurd (by decide) c)
  | r + 1, i, h => by
    have hcl : (nI i).toNatClampNeg = i := nI_clamp (by omega)
    have hin : vp_in (nI i) 10 := vp_in_nI (by omega) (by omega)
    refine PW.iload_n 0 1 dX12_init_428 rfl rfl ?_
    refine PW.bipush (v := 10) dX12_init_429 (by decide) ?_
    refine PW.icmp_ge (tgt := 447) dX12_init_431 (by decide) (fun c => absurd c (loop_ge (n := 10) (by omega) (by decide))) (fun _ => ?_)
    refine PW.aload_n 1 0 dX12_init_434 rfl rfl rfl ?_
    refine KW.getr dX12_init_435 fL_X12_138 ((congrArg (fun x => x[193]?) (fillS_1 236 (-1) i z_208).1).trans zk_208_193) (Or.inr ⟨_, rfl⟩) ((congrArg (fun x => x 193 68) (fillS_1 236 (-1) i z_208).2).trans zr_208_193_68) ?_
    refine PW.iload_n 0 1 dX12_init_438 rfl rfl ?_
    refine PW.iconst (v := -1) dX12_init_439 (by decide) ?_
    refine PW.iastore dX12_init_440 ((congrArg (fun x => x[236]?) (fillS_1 236 (-1) i z_208).1).trans zk_208_236) hin ?_
    rw [hcl]
    refine PW.iinc (v := nI (i + 1)) 0 dX12_init_441 rfl (nI_1 i) (Nat.le_of_ble_eq_true rfl) rfl ?_
    refine PW.goto (tgt := 428) dX12_init_444 (by decide) ?_
    exact PW.cnt (by first | rfl | omega) (by first | rfl | (have : kN 8 = 16 := rfl; have : kN 6 = 4 := rfl; omega)) (lp_X12_init_428 K r (i + 1) (by omega))
set_option maxRecDepth 20000 in
set_option maxHeartbeats 4000000 in
theorem k_X12_init {g : pG} {l : Launch} : PM g l 1 M_X12_init [.ref 193] z_110 none z_209 48 2930 := by
  refine PM.of (by decide +kernel) (Nat.le_of_ble_eq_true rfl) ?_
  show PW g l (pRoom 1 48 2930) M_X12_init _ 0 [(0, .ref 193)] [] z_110 0 0
  refine PW.aload_n 0 0 dX12_init_0 rfl rfl rfl ?_
  refine PW.objInit dX12_init_1 mL_X12_1 oI.1 oI.2 (Nat.le_of_ble_eq_true rfl) (Nat.le_of_ble_eq_true rfl) (Nat.le_of_ble_eq_true rfl) ?_
  refine PW.aload_n 0 0 dX12_init_4 rfl rfl rfl ?_
  refine PW.sipush (v := 200) dX12_init_5 (by decide) ?_
  refine KW.newa (t := 2) (n := 200) (m := 194) (S' := z_111) dX12_init_8 (by decide) aC_byte (by decide) (by decide) (by decide) (Nat.le_of_ble_eq_true rfl) (Nat.le_of_ble_eq_true rfl) zl_110 rfl ?_
  refine KW.putr (S' := z_112) dX12_init_10 fL_X12_7 (Or.inr ⟨rfl, rfl⟩) zk_111_193 (Or.inr ⟨_, rfl⟩) rfl ?_
  refine PW.aload_n 0 0 dX12_init_13 rfl rfl rfl ?_
  refine PW.bipush (v := 8) dX12_init_14 (by decide) ?_
  refine KW.newa (t := 0) (n := 8) (m := 195) (S' := z_113) dX12_init_16 (by decide) aC_int (by decide) (by decide) (by decide) (Nat.le_of_ble_eq_true rfl) (Nat.le_of_ble_eq_true rfl) zl_112 rfl ?_
  refine KW.putr (S' := z_114) dX12_init_18 fL_X12_13 (Or.inr ⟨rfl, rfl⟩) zk_113_193 (Or.inr ⟨_, rfl⟩) rfl ?_
  refine PW.aload_n 0 0 dX12_init_21 rfl rfl rfl ?_
  refine PW.bipush (v := 8) dX12_init_22 (by decide) ?_
  refine KW.newa (t := 0) (n := 8) (m := 196) (S' := z_115) dX12_init_24 (by decide) aC_int (by decide) (by decide) (by decide) (Nat.le_of_ble_eq_true rfl) (Nat.le_of_ble_eq_true rfl) zl_114 rfl ?_
  refine KW.putr (S' := z_116) dX12_init_26 fL_X12_17 (Or.inr ⟨rfl, rfl⟩) zk_115_193 (Or.inr ⟨_, rfl⟩) rfl ?_
  refine PW.aload_n 0 0 dX12_init_29 rfl rfl rfl ?_
  refine PW.bipush (v := 8) dX12_init_30 (by decide) ?_
  refine KW.newa (t := 0) (n := 8) (m := 197) (S' := z_117) dX12_init_32 (by decide) aC_int (by decide) (by decide) (by decide) (Nat.le_of_ble_eq_true rfl) (Nat.le_of_ble_eq_true rfl) zl_116 rfl ?_
  refine KW.putr (S' := z_118) dX12_init_34 fL_X12_20 (Or.inr ⟨rfl, rfl⟩) zk_117_193 (Or.inr ⟨_, rfl⟩) rfl ?_
  refine PW.aload_n 0 0 dX12_init_37 rfl rfl rfl ?_
  refine PW.bipush (v := 8) dX12_init_38 (by decide) ?_
  refine KW.newa (t := 0) (n := 8) (m := 198) (S' := z_119) dX12_init_40 (by decide) aC_int (by decide) (by decide) (by decide) (Nat.le_of_ble_eq_true rfl) (Nat.le_of_ble_eq_true rfl) zl_118 rfl ?_
  refine KW.putr (S' := z_120) dX12_init_42 fL_X12_23 (Or.inr ⟨rfl, rfl⟩) zk_119_193 (Or.inr ⟨_, rfl⟩) rfl ?_
  refine PW.aload_n 0 0 dX12_init_45 rfl rfl rfl ?_
  refine PW.bipush (v := 8) dX12_init_46 (by decide) ?_
  refine KW.newa (t := 0) (n := 8) (m := 199) (S' := z_121) dX12_init_48 (by decide) aC_int (by decide) (by decide) (by decide) (Nat.le_of_ble_eq_true rfl) (Nat.le_of_ble_eq_true rfl) zl_120 rfl ?_
  refine KW.putr (S' := z_122) dX12_init_50 fL_X12_26 (Or.inr ⟨rfl, rfl⟩) zk_121_193 (Or.inr ⟨_, rfl⟩) rfl ?_
  refine PW.aload_n 0 0 dX12_init_53 rfl rfl rfl ?_
  refine PW.bipush (v := 32) dX12_init_54 (by decide) ?_
  refine KW.newa (t := 0) (n := 32) (m := 200) (S' := z_123) dX12_init_56 (by decide) aC_int (by decide) (by decide) (by decide) (Nat.le_of_ble_eq_true rfl) (Nat.le_of_ble_eq_true rfl) zl_122 rfl ?_
  refine KW.putr (S' := z_124) dX12_init_58 fL_X12_29 (Or.inr ⟨rfl, rfl⟩) zk_123_193 (Or.inr ⟨_, rfl⟩) rfl ?_
  refine PW.aload_n 0 0 dX12_init_61 rfl rfl rfl ?_
  refine PW.bipush (v := 32) dX12_init_62 (by decide) ?_
  refine KW.newa (t := 0) (n := 32) (m := 201) (S' := z_125) dX12_init_64 (by decide) aC_int (by decide) (by decide) (by decide) (Nat.le_of_ble_eq_true rfl) (Nat.le_of_ble_eq_true rfl) zl_124 rfl ?_
  refine KW.putr (S' := z_126) dX12_init_66 fL_X12_32 (Or.inr ⟨rfl, rfl⟩) zk_125_193 (Or.inr ⟨_, rfl⟩) rfl ?_
  refine PW.aload_n 0 0 dX12_init_69 rfl rfl rfl ?_
  refine PW.bipush (v := 12) dX12_init_70 (by decide) ?_
  refine KW.newa (t := 0) (n := 12) (m := 202) (S' := z_127) dX12_init_72 (by decide) aC_int (by decide) (by decide) (by decide) (Nat.le_of_ble_eq_true rfl) (Nat.le_of_ble_eq_true rfl) zl_126 rfl ?_
  refine KW.putr (S' := z_128) dX12_init_74 fL_X12_35 (Or.inr ⟨rfl, rfl⟩) zk_127_193 (Or.inr ⟨_, rfl⟩) rfl ?_
  refine PW.aload_n 0 0 dX12_init_77 rfl rfl rfl ?_
  refine PW.bipush (v := 12) dX12_init_78 (by decide) ?_
  refine KW.newa (t := 0) (n := 12) (m := 203) (S' := z_129) dX12_init_80 (by decide) aC_int (by decide) (by decide) (by decide) (Nat.le_of_ble_eq_true rfl) (Nat.le_of_ble_eq_true rfl) zl_128 rfl ?_
  refine KW.putr (S' := z_130) dX12_init_82 fL_X12_38 (Or.inr ⟨rfl, rfl⟩) zk_129_193 (Or.inr ⟨_, rfl⟩) rfl ?_
  refine PW.aload_n 0 0 dX12_init_85 rfl rfl rfl ?_
  refine PW.bipush (v := 12) dX12_init_86 (by decide) ?_
  refine KW.newa (t := 0) (n := 12) (m := 204) (S' := z_131) dX12_init_88 (by decide) aC_int (by decide) (by decide) (by decide) (Nat.le_of_ble_eq_true rfl) (Nat.le_of_ble_eq_true rfl) zl_130 rfl ?_
  refine KW.putr (S' := z_132) dX12_init_90 fL_X12_41 (Or.inr ⟨rfl, rfl⟩) zk_131_193 (Or.inr ⟨_, rfl⟩) rfl ?_
  refine PW.aload_n 0 0 dX12_init_93 rfl rfl rfl ?_
  refine PW.bipush (v := 12) dX12_init_94 (by decide) ?_
  refine KW.newa (t := 0) (n := 12) (m := 205) (S' := z_133) dX12_init_96 (by decide) aC_int (by decide) (by decide) (by decide) (Nat.le_of_ble_eq_true rfl) (Nat.le_of_ble_eq_true rfl) zl_132 rfl ?_
  refine KW.putr (S' := z_134) dX12_init_98 fL_X12_44 (Or.inr ⟨rfl, rfl⟩) zk_133_193 (Or.inr ⟨_, rfl⟩) rfl ?_
  refine PW.aload_n 0 0 dX12_init_101 rfl rfl rfl ?_
  refine PW.sipush (v := 160) dX12_init_102 (by decide) ?_
  refine KW.newa (t := 0) (n := 160) (m := 206) (S' := z_135) dX12_init_105 (by decide) aC_int (by decide) (by decide) (by decide) (Nat.le_of_ble_eq_true rfl) (Nat.le_of_ble_eq_true rfl) zl_134 rfl ?_
  refine KW.putr (S' := z_136) dX12_init_107 fL_X12_47 (Or.inr ⟨rfl, rfl⟩) zk_135_193 (Or.inr ⟨_, rfl⟩) rfl ?_
  refine PW.aload_n 0 0 dX12_init_110 rfl rfl rfl ?_
  refine PW.sipush (v := 160) dX12_init_111 (by decide) ?_
  refine KW.newa (t := 0) (n := 160) (m := 207) (S' := z_137) dX12_init_114 (by decide) aC_int (by decide) (by decide) (by decide) (Nat.le_of_ble_eq_true rfl) (Nat.le_of_ble_eq_true rfl) zl_136 rfl ?_
  refine KW.putr (S' := z_138) dX12_init_116 fL_X12_50 (Or.inr ⟨rfl, rfl⟩) zk_137_193 (Or.inr ⟨_, rfl⟩) rfl ?_
  refine PW.aload_n 0 0 dX12_init_119 rfl rfl rfl ?_
  refine PW.bipush (v := 12) dX12_init_120 (by decide) ?_
  refine KW.newa (t := 0) (n := 12) (m := 208) (S' := z_139) dX12_init_122 (by decide) aC_int (by decide) (by decide) (by decide) (Nat.le_of_ble_eq_true rfl) (Nat.le_of_ble_eq_true rfl) zl_138 rfl ?_
  refine KW.putr (S' := z_140) dX12_init_124 fL_X12_53 (Or.inr ⟨rfl, rfl⟩) zk_139_193 (Or.inr ⟨_, rfl⟩) rfl ?_
  refine PW.aload_n 0 0 dX12_init_127 rfl rfl rfl ?_
  refine PW.bipush (v := 12) dX12_init_128 (by decide) ?_
  refine KW.newa (t := 0) (n := 12) (m := 209) (S' := z_141) dX12_init_130 (by decide) aC_int (by decide) (by decide) (by decide) (Nat.le_of_ble_eq_true rfl) (Nat.le_of_ble_eq_true rfl) zl_140 rfl ?_
  refine KW.putr (S' := z_142) dX12_init_132 fL_X12_56 (Or.inr ⟨rfl, rfl⟩) zk_141_193 (Or.inr ⟨_, rfl⟩) rfl ?_
  refine PW.aload_n 0 0 dX12_init_135 rfl rfl rfl ?_
  refine PW.bipush (v := 12) dX12_init_136 (by decide) ?_
  refine KW.newa (t := 0) (n := 12) (m := 210) (S' := z_143) dX12_init_138 (by decide) aC_int (by decide) (by decide) (by decide) (Nat.le_of_ble_eq_true rfl) (Nat.le_of_ble_eq_true rfl) zl_142 rfl ?_
  refine KW.putr (S' := z_144) dX12_init_140 fL_X12_59 (Or.inr ⟨rfl, rfl⟩) zk_143_193 (Or.inr ⟨_, rfl⟩) rfl ?_
  refine PW.aload_n 0 0 dX12_init_143 rfl rfl rfl ?_
  refine PW.bipush (v := 12) dX12_init_144 (by decide) ?_
  refine KW.newa (t := 0) (n := 12) (m := 211) (S' := z_145) dX12_init_146 (by decide) aC_int (by decide) (by decide) (by decide) (Nat.le_of_ble_eq_true rfl) (Nat.le_of_ble_eq_true rfl) zl_144 rfl ?_
  refine KW.putr (S' := z_146) dX12_init_148 fL_X12_62 (Or.inr ⟨rfl, rfl⟩) zk_145_193 (Or.inr ⟨_, rfl⟩) rfl ?_
  refine PW.aload_n 0 0 dX12_init_151 rfl rfl rfl ?_
  refine PW.sipush (v := 160) dX12_init_152 (by decide) ?_
  refine KW.newa (t := 0) (n := 160) (m := 212) (S' := z_147) dX12_init_155 (by decide) aC_int (by decide) (by decide) (by decide) (Nat.le_of_ble_eq_true rfl) (Nat.le_of_ble_eq_true rfl) zl_146 rfl ?_
  refine KW.putr (S' := z_148) dX12_init_157 fL_X12_65 (Or.inr ⟨rfl, rfl⟩) zk_147_193 (Or.inr ⟨_, rfl⟩) rfl ?_
  refine PW.aload_n 0 0 dX12_init_160 rfl rfl rfl ?_
  refine PW.sipush (v := 160) dX12_init_161 (by decide) ?_
  refine KW.newa (t := 0) (n := 160) (m := 213) (S' := z_149) dX12_init_164 (by decide) aC_int (by decide) (by decide) (by decide) (Nat.le_of_ble_eq_true rfl) (Nat.le_of_ble_eq_true rfl) zl_148 rfl ?_
  refine KW.putr (S' := z_150) dX12_init_166 fL_X12_68 (Or.inr ⟨rfl, rfl⟩) zk_149_193 (Or.inr ⟨_, rfl⟩) rfl ?_
  refine PW.aload_n 0 0 dX12_init_169 rfl rfl rfl ?_
  refine PW.sipush (v := 200) dX12_init_170 (by decide) ?_
  refine KW.newa (t := 0) (n := 200) (m := 214) (S' := z_151) dX12_init_173 (by decide) aC_int (by decide) (by decide) (by decide) (Nat.le_of_ble_eq_true rfl) (Nat.le_of_ble_eq_true rfl) zl_150 rfl ?_
  refine KW.putr (S' := z_152) dX12_init_175 fL_X12_71 (Or.inr ⟨rfl, rfl⟩) zk_151_193 (Or.inr ⟨_, rfl⟩) rfl ?_
  refine PW.aload_n 0 0 dX12_init_178 rfl rfl rfl ?_
  refine PW.sipush (v := 200) dX12_init_179 (by decide) ?_
  refine KW.newa (t := 0) (n := 200) (m := 215) (S' := z_153) dX12_init_182 (by decide) aC_int (by decide) (by decide) (by decide) (Nat.le_of_ble_eq_true rfl) (Nat.le_of_ble_eq_true rfl) zl_152 rfl ?_
  refine KW.putr (S' := z_154) dX12_init_184 fL_X12_74 (Or.inr ⟨rfl, rfl⟩) zk_153_193 (Or.inr ⟨_, rfl⟩) rfl ?_
  refine PW.aload_n 0 0 dX12_init_187 rfl rfl rfl ?_
  refine PW.sipush (v := 200) dX12_init_188 (by decide) ?_
  refine KW.newa (t := 3) (n := 200) (m := 216) (S' := z_155) dX12_init_191 (by decide) aC_boolean (by decide) (by decide) (by decide) (Nat.le_of_ble_eq_true rfl) (Nat.le_of_ble_eq_true rfl) zl_154 rfl ?_
  refine KW.putr (S' := z_156) dX12_init_193 fL_X12_77 (Or.inr ⟨rfl, rfl⟩) zk_155_193 (Or.inr ⟨_, rfl⟩) rfl ?_
  refine PW.aload_n 0 0 dX12_init_196 rfl rfl rfl ?_
  refine PW.bipush (v := 16) dX12_init_197 (by decide) ?_
  refine KW.newa (t := 0) (n := 16) (m := 217) (S' := z_157) dX12_init_199 (by decide) aC_int (by decide) (by decide) (by decide) (Nat.le_of_ble_eq_true rfl) (Nat.le_of_ble_eq_true rfl) zl_156 rfl ?_
  refine KW.putr (S' := z_158) dX12_init_201 fL_X12_81 (Or.inr ⟨rfl, rfl⟩) zk_157_193 (Or.inr ⟨_, rfl⟩) rfl ?_
  refine PW.aload_n 0 0 dX12_init_204 rfl rfl rfl ?_
  refine PW.sipush (v := 128) dX12_init_205 (by decide) ?_
  refine KW.newa (t := 0) (n := 128) (m := 218) (S' := z_159) dX12_init_208 (by decide) aC_int (by decide) (by decide) (by decide) (Nat.le_of_ble_eq_true rfl) (Nat.le_of_ble_eq_true rfl) zl_158 rfl ?_
  refine KW.putr (S' := z_160) dX12_init_210 fL_X12_84 (Or.inr ⟨rfl, rfl⟩) zk_159_193 (Or.inr ⟨_, rfl⟩) rfl ?_
  refine PW.aload_n 0 0 dX12_init_213 rfl rfl rfl ?_
  refine PW.sipush (v := 128) dX12_init_214 (by decide) ?_
  refine KW.newa (t := 0) (n := 128) (m := 219) (S' := z_161) dX12_init_217 (by decide) aC_int (by decide) (by decide) (by decide) (Nat.le_of_ble_eq_true rfl) (Nat.le_of_ble_eq_true rfl) zl_160 rfl ?_
  refine KW.putr (S' := z_162) dX12_init_219 fL_X12_87 (Or.inr ⟨rfl, rfl⟩) zk_161_193 (Or.inr ⟨_, rfl⟩) rfl ?_
  refine PW.aload_n 0 0 dX12_init_222 rfl rfl rfl ?_
  refine PW.bipush (v := 16) dX12_init_223 (by decide) ?_
  refine KW.newa (t := 0) (n := 16) (m := 220) (S' := z_163) dX12_init_225 (by decide) aC_int (by decide) (by decide) (by decide) (Nat.le_of_ble_eq_true rfl) (Nat.le_of_ble_eq_true rfl) zl_162 rfl ?_
  refine KW.putr (S' := z_164) dX12_init_227 fL_X12_90 (Or.inr ⟨rfl, rfl⟩) zk_163_193 (Or.inr ⟨_, rfl⟩) rfl ?_
  refine PW.aload_n 0 0 dX12_init_230 rfl rfl rfl ?_
  refine PW.bipush (v := 8) dX12_init_231 (by decide) ?_
  refine KW.newa (t := 0) (n := 8) (m := 221) (S' := z_165) dX12_init_233 (by decide) aC_int (by decide) (by decide) (by decide) (Nat.le_of_ble_eq_true rfl) (Nat.le_of_ble_eq_true rfl) zl_164 rfl ?_
  refine KW.putr (S' := z_166) dX12_init_235 fL_X12_93 (Or.inr ⟨rfl, rfl⟩) zk_165_193 (Or.inr ⟨_, rfl⟩) rfl ?_
  refine PW.aload_n 0 0 dX12_init_238 rfl rfl rfl ?_
  refine PW.bipush (v := 8) dX12_init_239 (by decide) ?_
  refine KW.newa (t := 0) (n := 8) (m := 222) (S' := z_167) dX12_init_241 (by decide) aC_int (by decide) (by decide) (by decide) (Nat.le_of_ble_eq_true rfl) (Nat.le_of_ble_eq_true rfl) zl_166 rfl ?_
  refine KW.putr (S' := z_168) dX12_init_243 fL_X12_96 (Or.inr ⟨rfl, rfl⟩) zk_167_193 (Or.inr ⟨_, rfl⟩) rfl ?_
  refine PW.aload_n 0 0 dX12_init_246 rfl rfl rfl ?_
  refine PW.bipush (v := 32) dX12_init_247 (by decide) ?_
  refine KW.newa (t := 0) (n := 32) (m := 223) (S' := z_169) dX12_init_249 (by decide) aC_int (by decide) (by decide) (by decide) (Nat.le_of_ble_eq_true rfl) (Nat.le_of_ble_eq_true rfl) zl_168 rfl ?_
  refine KW.putr (S' := z_170) dX12_init_251 fL_X12_99 (Or.inr ⟨rfl, rfl⟩) zk_169_193 (Or.inr ⟨_, rfl⟩) rfl ?_
  refine PW.aload_n 0 0 dX12_init_254 rfl rfl rfl ?_
  refine PW.bipush (v := 8) dX12_init_255 (by decide) ?_
  refine KW.newa (t := 0) (n := 8) (m := 224) (S' := z_171) dX12_init_257 (by decide) aC_int (by decide) (by decide) (by decide) (Nat.le_of_ble_eq_true rfl) (Nat.le_of_ble_eq_true rfl) zl_170 rfl ?_
  refine KW.putr (S' := z_172) dX12_init_259 fL_X12_102 (Or.inr ⟨rfl, rfl⟩) zk_171_193 (Or.inr ⟨_, rfl⟩) rfl ?_
  refine PW.aload_n 0 0 dX12_init_262 rfl rfl rfl ?_
  refine PW.bipush (v := 8) dX12_init_263 (by decide) ?_
  refine KW.newa (t := 0) (n := 8) (m := 225) (S' := z_173) dX12_init_265 (by decide) aC_int (by decide) (by decide) (by decide) (Nat.le_of_ble_eq_true rfl) (Nat.le_of_ble_eq_true rfl) zl_172 rfl ?_
  refine KW.putr (S' := z_174) dX12_init_267 fL_X12_105 (Or.inr ⟨rfl, rfl⟩) zk_173_193 (Or.inr ⟨_, rfl⟩) rfl ?_
  refine PW.aload_n 0 0 dX12_init_270 rfl rfl rfl ?_
  refine PW.bipush (v := 8) dX12_init_271 (by decide) ?_
  refine KW.newa (t := 0) (n := 8) (m := 226) (S' := z_175) dX12_init_273 (by decide) aC_int (by decide) (by decide) (by decide) (Nat.le_of_ble_eq_true rfl) (Nat.le_of_ble_eq_true rfl) zl_174 rfl ?_
  refine KW.putr (S' := z_176) dX12_init_275 fL_X12_108 (Or.inr ⟨rfl, rfl⟩) zk_175_193 (Or.inr ⟨_, rfl⟩) rfl ?_
  refine PW.aload_n 0 0 dX12_init_278 rfl rfl rfl ?_
  refine PW.bipush (v := 8) dX12_init_279 (by decide) ?_
  refine KW.newa (t := 0) (n := 8) (m := 227) (S' := z_177) dX12_init_281 (by decide) aC_int (by decide) (by decide) (by decide) (Nat.le_of_ble_eq_true rfl) (Nat.le_of_ble_eq_true rfl) zl_176 rfl ?_
  refine KW.putr (S' := z_178) dX12_init_283 fL_X12_111 (Or.inr ⟨rfl, rfl⟩) zk_177_193 (Or.inr ⟨_, rfl⟩) rfl ?_
  refine PW.aload_n 0 0 dX12_init_286 rfl rfl rfl ?_
  refine PW.bipush (v := 10) dX12_init_287 (by decide) ?_
  refine KW.newa (t := 0) (n := 10) (m := 228) (S' := z_179) dX12_init_289 (by decide) aC_int (by decide) (by decide) (by decide) (Nat.le_of_ble_eq_true rfl) (Nat.le_of_ble_eq_true rfl) zl_178 rfl ?_
  refine KW.putr (S' := z_180) dX12_init_291 fL_X12_114 (Or.inr ⟨rfl, rfl⟩) zk_179_193 (Or.inr ⟨_, rfl⟩) rfl ?_
  refine PW.aload_n 0 0 dX12_init_294 rfl rfl rfl ?_
  refine PW.bipush (v := 10) dX12_init_295 (by decide) ?_
  refine KW.newa (t := 0) (n := 10) (m := 229) (S' := z_181) dX12_init_297 (by decide) aC_int (by decide) (by decide) (by decide) (Nat.le_of_ble_eq_true rfl) (Nat.le_of_ble_eq_true rfl) zl_180 rfl ?_
  refine KW.putr (S' := z_182) dX12_init_299 fL_X12_117 (Or.inr ⟨rfl, rfl⟩) zk_181_193 (Or.inr ⟨_, rfl⟩) rfl ?_
  refine PW.aload_n 0 0 dX12_init_302 rfl rfl rfl ?_
  refine PW.bipush (v := 80) dX12_init_303 (by decide) ?_
  refine KW.newa (t := 0) (n := 80) (m := 230) (S' := z_183) dX12_init_305 (by decide) aC_int (by decide) (by decide) (by decide) (Nat.le_of_ble_eq_true rfl) (Nat.le_of_ble_eq_true rfl) zl_182 rfl ?_
  refine KW.putr (S' := z_184) dX12_init_307 fL_X12_120 (Or.inr ⟨rfl, rfl⟩) zk_183_193 (Or.inr ⟨_, rfl⟩) rfl ?_
  refine PW.aload_n 0 0 dX12_init_310 rfl rfl rfl ?_
  refine PW.bipush (v := 80) dX12_init_311 (by decide) ?_
  refine KW.newa (t := 0) (n := 80) (m := 231) (S' := z_185) dX12_init_313 (by decide) aC_int (by decide) (by decide) (by decide) (Nat.le_of_ble_eq_true rfl) (Nat.le_of_ble_eq_true rfl) zl_184 rfl ?_
  refine KW.putr (S' := z_186) dX12_init_315 fL_X12_123 (Or.inr ⟨rfl, rfl⟩) zk_185_193 (Or.inr ⟨_, rfl⟩) rfl ?_
  refine PW.aload_n 0 0 dX12_init_318 rfl rfl rfl ?_
  refine PW.bipush (v := 80) dX12_init_319 (by decide) ?_
  refine KW.newa (t := 0) (n := 80) (m := 232) (S' := z_187) dX12_init_321 (by decide) aC_int (by decide) (by decide) (by decide) (Nat.le_of_ble_eq_true rfl) (Nat.le_of_ble_eq_true rfl) zl_186 rfl ?_
  refine KW.putr (S' := z_188) dX12_init_323 fL_X12_126 (Or.inr ⟨rfl, rfl⟩) zk_187_193 (Or.inr ⟨_, rfl⟩) rfl ?_
  refine PW.aload_n 0 0 dX12_init_326 rfl rfl rfl ?_
  refine PW.bipush (v := 80) dX12_init_327 (by decide) ?_
  refine KW.newa (t := 0) (n := 80) (m := 233) (S' := z_189) dX12_init_329 (by decide) aC_int (by decide) (by decide) (by decide) (Nat.le_of_ble_eq_true rfl) (Nat.le_of_ble_eq_true rfl) zl_188 rfl ?_
  refine KW.putr (S' := z_190) dX12_init_331 fL_X12_129 (Or.inr ⟨rfl, rfl⟩) zk_189_193 (Or.inr ⟨_, rfl⟩) rfl ?_
  refine PW.aload_n 0 0 dX12_init_334 rfl rfl rfl ?_
  refine PW.bipush (v := 6) dX12_init_335 (by decide) ?_
  refine KW.newa (t := 0) (n := 6) (m := 234) (S' := z_191) dX12_init_337 (by decide) aC_int (by decide) (by decide) (by decide) (Nat.le_of_ble_eq_true rfl) (Nat.le_of_ble_eq_true rfl) zl_190 rfl ?_
  refine KW.putr (S' := z_192) dX12_init_339 fL_X12_132 (Or.inr ⟨rfl, rfl⟩) zk_191_193 (Or.inr ⟨_, rfl⟩) rfl ?_
  refine PW.aload_n 0 0 dX12_init_342 rfl rfl rfl ?_
  refine PW.bipush (v := 60) dX12_init_343 (by decide) ?_
  refine KW.newa (t := 0) (n := 60) (m := 235) (S' := z_193) dX12_init_345 (by decide) aC_int (by decide) (by decide) (by decide) (Nat.le_of_ble_eq_true rfl) (Nat.le_of_ble_eq_true rfl) zl_192 rfl ?_
  refine KW.putr (S' := z_194) dX12_init_347 fL_X12_135 (Or.inr ⟨rfl, rfl⟩) zk_193_193 (Or.inr ⟨_, rfl⟩) rfl ?_
  refine PW.aload_n 0 0 dX12_init_350 rfl rfl rfl ?_
  refine PW.bipush (v := 10) dX12_init_351 (by decide) ?_
  refine KW.newa (t := 0) (n := 10) (m := 236) (S' := z_195) dX12_init_353 (by decide) aC_int (by decide) (by decide) (by decide) (Nat.le_of_ble_eq_true rfl) (Nat.le_of_ble_eq_true rfl) zl_194 rfl ?_
  refine KW.putr (S' := z_196) dX12_init_355 fL_X12_138 (Or.inr ⟨rfl, rfl⟩) zk_195_193 (Or.inr ⟨_, rfl⟩) rfl ?_
  refine PW.aload_n 0 0 dX12_init_358 rfl rfl rfl ?_
  refine PW.iconst (v := 1) dX12_init_359 (by decide) ?_
  refine KW.puti (S' := z_197) dX12_init_360 fL_X12_141 rfl zk_196_193 rfl rfl ?_
  refine PW.aload_n 0 0 dX12_init_363 rfl rfl rfl ?_
  refine PW.bipush (v := 10) dX12_init_364 (by decide) ?_
  refine KW.newa (t := 0) (n := 10) (m := 237) (S' := z_198) dX12_init_366 (by decide) aC_int (by decide) (by decide) (by decide) (Nat.le_of_ble_eq_true rfl) (Nat.le_of_ble_eq_true rfl) zl_197 rfl ?_
  refine KW.putr (S' := z_199) dX12_init_368 fL_X12_145 (Or.inr ⟨rfl, rfl⟩) zk_198_193 (Or.inr ⟨_, rfl⟩) rfl ?_
  refine PW.aload_n 0 0 dX12_init_371 rfl rfl rfl ?_
  refine PW.bipush (v := 10) dX12_init_372 (by decide) ?_
  refine KW.newa (t := 0) (n := 10) (m := 238) (S' := z_200) dX12_init_374 (by decide) aC_int (by decide) (by decide) (by decide) (Nat.le_of_ble_eq_true rfl) (Nat.le_of_ble_eq_true rfl) zl_199 rfl ?_
  refine KW.putr (S' := z_201) dX12_init_376 fL_X12_148 (Or.inr ⟨rfl, rfl⟩) zk_200_193 (Or.inr ⟨_, rfl⟩) rfl ?_
  refine PW.aload_n 0 0 dX12_init_379 rfl rfl rfl ?_
  refine PW.sipush (v := 240) dX12_init_380 (by decide) ?_
  refine KW.newa (t := 0) (n := 240) (m := 239) (S' := z_202) dX12_init_383 (by decide) aC_int (by decide) (by decide) (by decide) (Nat.le_of_ble_eq_true rfl) (Nat.le_of_ble_eq_true rfl) zl_201 rfl ?_
  refine KW.putr (S' := z_203) dX12_init_385 fL_X12_151 (Or.inr ⟨rfl, rfl⟩) zk_202_193 (Or.inr ⟨_, rfl⟩) rfl ?_
  refine PW.aload_n 0 0 dX12_init_388 rfl rfl rfl ?_
  refine PW.bipush (v := 41) dX12_init_389 (by decide) ?_
  refine KW.newa (t := 1) (n := 41) (m := 240) (S' := z_204) dX12_init_391 (by decide) aC_long (by decide) (by decide) (by decide) (Nat.le_of_ble_eq_true rfl) (Nat.le_of_ble_eq_true rfl) zl_203 rfl ?_
  refine KW.putr (S' := z_205) dX12_init_393 fL_X12_154 (Or.inr ⟨rfl, rfl⟩) zk_204_193 (Or.inr ⟨_, rfl⟩) rfl ?_
  refine PW.aload_n 0 0 dX12_init_396 rfl rfl rfl ?_
  refine PW.sipush (v := 205) dX12_init_397 (by decide) ?_
  refine KW.newa (t := 1) (n := 205) (m := 241) (S' := z_206) dX12_init_400 (by decide) aC_long (by decide) (by decide) (by decide) (Nat.le_of_ble_eq_true rfl) (Nat.le_of_ble_eq_true rfl) zl_205 rfl ?_
  refine KW.putr (S' := z_207) dX12_init_402 fL_X12_158 (Or.inr ⟨rfl, rfl⟩) zk_206_193 (Or.inr ⟨_, rfl⟩) rfl ?_
  refine PW.iconst (v := 0) dX12_init_405 (by decide) ?_
  refine PW.istore_n dX12_init_406 rfl (Nat.le_of_ble_eq_true rfl) rfl ?_
  refine lp_X12_init_407 (?_ : PW _ _ _ _ _ 426 [(1, .int (nI 60)), (0, .ref 193)] [] z_208 48 2930) 60 0 rfl
  refine PW.iconst (v := 0) dX12_init_426 (by decide) ?_
  refine PW.istore_n dX12_init_427 rfl (Nat.le_of_ble_eq_true rfl) rfl ?_
  refine lp_X12_init_428 (?_ : PW _ _ _ _ _ 447 [(1, .int (nI 10)), (0, .ref 193)] [] z_209 48 2930) 10 0 rfl
  exact PW.vret dX12_init_447 rfl (Nat.le_refl _) (Nat.le_refl _)
