theorem oI : Cond.instanceMethod Lib.objectInit ∈ TB ∧ Cond.code Lib.objectInit ⟨#[0xb1]⟩ 1 none ∈ TB := ⟨TB_1 (i := 26) (by decide +kernel) rfl, TB_1 (i := 27) (by decide +kernel) rfl⟩
def okT : FieldType → Bool
  | .int => true
  | .boolean => true
  | .long => true
  | .object _ => true
  | .array _ => true
  | _ => false
theorem okT_of {t : FieldType} (h : okT t = true) : t = .int ∨ t = .boolean ∨ t = .long ∨ (∃ n, t = .object n) ∨ ∃ u, t = .array u := by
  cases t with
  | int => exact Or.inl rfl
  | boolean => exact Or.inr (Or.inl rfl)
  | long => exact Or.inr (Or.inr (Or.inl rfl))
  | object n => exact Or.inr (Or.inr (Or.inr (Or.inl ⟨n, rfl⟩)))
  | array u => exact Or.inr (Or.inr (Or.inr (Or.inr ⟨u, rfl⟩)))
  | _ => cases h
theorem okK : ∀ ci, ci < 13 → ∀ k, k < kN ci → okT (kT ci k) = true := by decide +kernel
theorem okF {ci : Nat} (h : ci < 13) : ∀ k, k < kN ci → (kT ci k = .int ∨ kT ci k = .boolean ∨ kT ci k = .long ∨ (∃ n, kT ci k = .object n) ∨ ∃ t, kT ci k = .array t) := fun k hk => okT_of (okK ci h k hk)
section CT
variable {g : pG} {l : Launch} {R : Room} {μ : pM} {F : pF} {pc : Nat} {lv : List (Nat × Value)} {st : List Value} {S S' : pS} {kc ks : Nat}
theorem KW.newo {idx ci n : Nat} (hd : decode μ.2.1 pc = .ok (.new idx, 3)) (hci : ci < 13) (hcl : Cond.classLink μ.1.cls idx (kR ci) ∈ TB) (hin : Cond.instantiable (kR ci) (kN ci) ∈ TB ∧ Cond.initialized (kR ci) ∈ TB) (hc : kc + 1 ≤ R.cells) (hs : ks + kN ci ≤ R.slots) (hn : S.1.length = n) (hS : sN S (.inl ci) = S')
    (kk : PW g l R μ F (pc + 3) lv (.ref n :: st) S' (kc + 1) (ks + kN ci)) : PW g l R μ F pc lv st S kc ks := by
  subst hn; subst hS
  exact PW.newo hd hci hcl hin (okF hci) hc hs kk
theorem KW.newa {t n m : Nat} {x : Int32} (hd : decode μ.2.1 pc = .ok (.newarray (aty t), 2)) (ht : t < 4) (hcl : Cond.arrayClass (aT t) ∈ TB) (hx : ¬ x < 0) (hn : x.toNatClampNeg = n) (hb : n ≤ 100000) (hc : kc + 1 ≤ R.cells) (hs : ks + n ≤ R.slots) (hm : S.1.length = m) (hS : sN S (.inr (t, n)) = S')
    (kk : PW g l R μ F (pc + 2) lv (.ref m :: st) S' (kc + 1) (ks + n)) : PW g l R μ F pc lv (.int x :: st) S kc ks := by
  subst hm; subst hS
  exact PW.newa hd ht hcl hx hn hb hc hs kk
theorem KW.anewa {idx t n m : Nat} {C0 : String} {x : Int32} (hd : decode μ.2.1 pc = .ok (.anewarray idx, 3)) (ht : (t = 4 ∧ C0 = "HullTank$Strain") ∨ (t = 5 ∧ C0 = "HullTank$Program")) (hcl : Cond.classLink μ.1.cls idx C0 ∈ TB) (hx : ¬ x < 0) (hn : x.toNatClampNeg = n) (hb : n ≤ 100000) (hc : kc + 1 ≤ R.cells) (hs : ks + n ≤ R.slots) (hm : S.1.length = m) (hS : sN S (.inr (t, n)) = S')
    (kk : PW g l R μ F (pc + 3) lv (.ref m :: st) S' (kc + 1) (ks + n)) : PW g l R μ F pc lv (.int x :: st) S kc ks := by
  subst hm; subst hS
  exact PW.anewa hd ht hcl hx hn hb hc hs kk
theorem KW.putr {idx ci k i r : Nat} (hd : decode μ.2.1 pc = .ok (.putfield idx, 3)) (hf : FLD μ.1.cls idx ci k) (hfin : (kF ci k).2.2.2 = false ∨ (μ.1.name = "<init>" ∧ (kF ci k).1 = μ.1.cls)) (ho : S.1[i]? = some (.inl ci)) (hty : (∃ n, kT ci k = .object n) ∨ ∃ t, kT ci k = .array t) (hS : sR S i k (some r) = S')
    (kk : PW g l R μ F (pc + 3) lv st S' kc ks) : PW g l R μ F pc lv (.ref r :: .ref i :: st) S kc ks := by
  subst hS
  exact PW.putR (r := some r) hd hf hfin ho hty rfl kk
theorem KW.puti {idx ci k i : Nat} {x : Int32} (hd : decode μ.2.1 pc = .ok (.putfield idx, 3)) (hf : FLD μ.1.cls idx ci k) (hfin : (kF ci k).2.2.2 = false) (ho : S.1[i]? = some (.inl ci)) (hty : kT ci k = .int) (hS : sI S i k x = S')
    (kk : PW g l R μ F (pc + 3) lv st S' kc ks) : PW g l R μ F pc lv (.int x :: .ref i :: st) S kc ks := by
  subst hS
  exact PW.putI hd hf hfin ho hty kk
theorem KW.getr {idx ci k i r : Nat} (hd : decode μ.2.1 pc = .ok (.getfield idx, 3)) (hf : FLD μ.1.cls idx ci k) (ho : S.1[i]? = some (.inl ci)) (hty : (∃ n, kT ci k = .object n) ∨ ∃ t, kT ci k = .array t) (hr : S.2.2.2 i k = some r)
    (kk : PW g l R μ F (pc + 3) lv (.ref r :: st) S kc ks) : PW g l R μ F pc lv (.ref i :: st) S kc ks :=
  PW.getf (v := .ref r) hd hf ho (by rcases hty with ⟨n, h⟩ | ⟨n, h⟩ <;> rw [h] <;> show va_rf (S.2.2.2 i k) = _ <;> rw [hr] <;> rfl) kk
end CT
theorem sN_l {S : pS} {x : pK} {i : Nat} {k : pK} (h : S.1[i]? = some k) : (sN S x).1[i]? = some k := by
  show (S.1 ++ [x])[i]? = some k
  rw [List.getElem?_append_left (List.getElem?_eq_some_iff.mp h).1]
  exact h
theorem sN_n {S : pS} {x : pK} : (sN S x).1[S.1.length]? = some x := by
  show (S.1 ++ [x])[S.1.length]? = some x
  rw [List.getElem?_append_right (Nat.le_refl _), Nat.sub_self]
  rfl
def fillS (a : Nat) (v : Int32) : Nat → pS → pS
  | 0, S => S
  | n + 1, S => sI (fillS a v n S) a n v
theorem fillS_1 (a : Nat) (v : Int32) (n : Nat) (S : pS) : (fillS a v n S).1 = S.1 ∧ (fillS a v n S).2.2.2 = S.2.2.2 := by
  induction n with
  | zero => exact ⟨rfl, rfl⟩
  | succ n ih => exact ih
def cX6 (T : Nat) (S : pS) : pS :=
  let A0 := sN S (.inr (0, 8))
  let B0 := sR A0 T 0 (some S.1.length)
  let A1 := sN B0 (.inr (0, 8))
  let B1 := sR A1 T 1 (some B0.1.length)
  B1
set_option maxRecDepth 20000 in
set_option maxHeartbeats 4000000 in
theorem kcX6 {g : pG} {l : Launch} {T : Nat} {S : pS} (hT : S.1[T]? = some (.inl 6)) : PM g l 1 M_X6_init [.ref T] S none (cX6 T S) 2 16 := by
  refine PM.of (by decide +kernel) (Nat.le_of_ble_eq_true rfl) ?_
  show PW g l (pRoom 1 2 16) M_X6_init _ 0 [(0, .ref T)] [] S 0 0
  unfold cX6
  refine PW.aload_n 0 0 dX6_init_0 rfl rfl rfl ?_
  refine PW.objInit dX6_init_1 mL_X6_3 oI.1 oI.2 (Nat.le_of_ble_eq_true rfl) (Nat.le_refl _) (Nat.le_refl _) ?_
  refine PW.aload_n 0 0 dX6_init_4 rfl rfl rfl ?_
  refine PW.bipush (v := 8) dX6_init_5 (by decide) ?_
  refine KW.newa (t := 0) (n := 8) dX6_init_7 (by decide) aC_int (by decide) (by decide) (by decide) (Nat.le_of_ble_eq_true rfl) (Nat.le_of_ble_eq_true rfl) rfl rfl ?_
  replace hT := sN_l (x := .inr (0, 8)) hT
  refine KW.putr dX6_init_9 fL_X6_11 (Or.inr ⟨rfl, rfl⟩) hT (Or.inr ⟨_, rfl⟩) rfl ?_
  refine PW.aload_n 0 0 dX6_init_12 rfl rfl rfl ?_
  refine PW.bipush (v := 8) dX6_init_13 (by decide) ?_
  refine KW.newa (t := 0) (n := 8) dX6_init_15 (by decide) aC_int (by decide) (by decide) (by decide) (Nat.le_of_ble_eq_true rfl) (Nat.le_of_ble_eq_true rfl) rfl rfl ?_
  replace hT := sN_l (x := .inr (0, 8)) hT
  refine KW.putr dX6_init_17 fL_X6_15 (Or.inr ⟨rfl, rfl⟩) hT (Or.inr ⟨_, rfl⟩) rfl ?_
  exact PW.vret dX6_init_20 rfl (Nat.le_refl _) (Nat.le_refl _)
def cX3 (T : Nat) (S : pS) : pS :=
  let A0 := sN S (.inr (0, 160))
  let B0 := sR A0 T 0 (some S.1.length)
  let A1 := sN B0 (.inr (0, 12))
  let B1 := sR A1 T 1 (some B0.1.length)
  let A2 := sN B1 (.inr (0, 12))
  let B2 := sR A2 T 2 (some B1.1.length)
  let A3 := sN B2 (.inr (0, 12))
  let B3 := sR A3 T 3 (some B2.1.length)
  let A4 := sN B3 (.inr (0, 12))
  let B4 := sR A4 T 4 (some B3.1.length)
  let A5 := sN B4 (.inr (0, 10))
  let B5 := sR A5 T 5 (some B4.1.length)
  let A6 := sN B5 (.inr (0, 40))
  let B6 := sR A6 T 6 (some B5.1.length)
  B6
set_option maxRecDepth 20000 in
set_option maxHeartbeats 4000000 in
theorem kcX3 {g : pG} {l : Launch} {T : Nat} {S : pS} (hT : S.1[T]? = some (.inl 3)) : PM g l 1 M_X3_init [.ref T] S none (cX3 T S) 7 258 := by
  refine PM.of (by decide +kernel) (Nat.le_of_ble_eq_true rfl) ?_
  show PW g l (pRoom 1 7 258) M_X3_init _ 0 [(0, .ref T)] [] S 0 0
  unfold cX3
  refine PW.aload_n 0 0 dX3_init_0 rfl rfl rfl ?_
  refine PW.objInit dX3_init_1 mL_X3_3 oI.1 oI.2 (Nat.le_of_ble_eq_true rfl) (Nat.le_refl _) (Nat.le_refl _) ?_
  refine PW.aload_n 0 0 dX3_init_4 rfl rfl rfl ?_
  refine PW.sipush (v := 160) dX3_init_5 (by decide) ?_
  refine KW.newa (t := 0) (n := 160) dX3_init_8 (by decide) aC_int (by decide) (by decide) (by decide) (Nat.le_of_ble_eq_true rfl) (Nat.le_of_ble_eq_true rfl) rfl rfl ?_
  replace hT := sN_l (x := .inr (0, 160)) hT
  refine KW.putr dX3_init_10 fL_X3_9 (Or.inr ⟨rfl, rfl⟩) hT (Or.inr ⟨_, rfl⟩) rfl ?_
  refine PW.aload_n 0 0 dX3_init_13 rfl rfl rfl ?_
  refine PW.bipush (v := 12) dX3_init_14 (by decide) ?_
  refine KW.newa (t := 0) (n := 12) dX3_init_16 (by decide) aC_int (by decide) (by decide) (by decide) (Nat.le_of_ble_eq_true rfl) (Nat.le_of_ble_eq_true rfl) rfl rfl ?_
  replace hT := sN_l (x := .inr (0, 12)) hT
  refine KW.putr dX3_init_18 fL_X3_13 (Or.inr ⟨rfl, rfl⟩) hT (Or.inr ⟨_, rfl⟩) rfl ?_
  refine PW.aload_n 0 0 dX3_init_21 rfl rfl rfl ?_
  refine PW.bipush (v := 12) dX3_init_22 (by decide) ?_
  refine KW.newa (t := 0) (n := 12) dX3_init_24 (by decide) aC_int (by decide) (by decide) (by decide) (Nat.le_of_ble_eq_true rfl) (Nat.le_of_ble_eq_true rfl) rfl rfl ?_
  replace hT := sN_l (x := .inr (0, 12)) hT
  refine KW.putr dX3_init_26 fL_X3_16 (Or.inr ⟨rfl, rfl⟩) hT (Or.inr ⟨_, rfl⟩) rfl ?_
  refine PW.aload_n 0 0 dX3_init_29 rfl rfl rfl ?_
  refine PW.bipush (v := 12) dX3_init_30 (by decide) ?_
  refine KW.newa (t := 0) (n := 12) dX3_init_32 (by decide) aC_int (by decide) (by decide) (by decide) (Nat.le_of_ble_eq_true rfl) (Nat.le_of_ble_eq_true rfl) rfl rfl ?_
  replace hT := sN_l (x := .inr (0, 12)) hT
  refine KW.putr dX3_init_34 fL_X3_19 (Or.inr ⟨rfl, rfl⟩) hT (Or.inr ⟨_, rfl⟩) rfl ?_
  refine PW.aload_n 0 0 dX3_init_37 rfl rfl rfl ?_
  refine PW.bipush (v := 12) dX3_init_38 (by decide) ?_
  refine KW.newa (t := 0) (n := 12) dX3_init_40 (by decide) aC_int (by decide) (by decide) (by decide) (Nat.le_of_ble_eq_true rfl) (Nat.le_of_ble_eq_true rfl) rfl rfl ?_
  replace hT := sN_l (x := .inr (0, 12)) hT
  refine KW.putr dX3_init_42 fL_X3_22 (Or.inr ⟨rfl, rfl⟩) hT (Or.inr ⟨_, rfl⟩) rfl ?_
  refine PW.aload_n 0 0 dX3_init_45 rfl rfl rfl ?_
  refine PW.bipush (v := 10) dX3_init_46 (by decide) ?_
  refine KW.newa (t := 0) (n := 10) dX3_init_48 (by decide) aC_int (by decide) (by decide) (by decide) (Nat.le_of_ble_eq_true rfl) (Nat.le_of_ble_eq_true rfl) rfl rfl ?_
  replace hT := sN_l (x := .inr (0, 10)) hT
  refine KW.putr dX3_init_50 fL_X3_25 (Or.inr ⟨rfl, rfl⟩) hT (Or.inr ⟨_, rfl⟩) rfl ?_
  refine PW.aload_n 0 0 dX3_init_53 rfl rfl rfl ?_
  refine PW.bipush (v := 40) dX3_init_54 (by decide) ?_
  refine KW.newa (t := 0) (n := 40) dX3_init_56 (by decide) aC_int (by decide) (by decide) (by decide) (Nat.le_of_ble_eq_true rfl) (Nat.le_of_ble_eq_true rfl) rfl rfl ?_
  replace hT := sN_l (x := .inr (0, 40)) hT
  refine KW.putr dX3_init_58 fL_X3_28 (Or.inr ⟨rfl, rfl⟩) hT (Or.inr ⟨_, rfl⟩) rfl ?_
  exact PW.vret dX3_init_61 rfl (Nat.le_refl _) (Nat.le_refl _)
theorem kcX8 {g : pG} {l : Launch} {T C : Nat} {S : pS} (hT : S.1[T]? = some (.inl 8)) : PM g l 1 M_X8_init [.ref T, .ref C] S none (sR S T 0 (some C)) 0 0 := by
  refine PM.of (by decide +kernel) (Nat.le_of_ble_eq_true rfl) ?_
  show PW g l (pRoom 1 0 0) M_X8_init _ 0 [(0, .ref T), (1, .ref C)] [] S 0 0
  refine PW.aload_n 0 0 dX8_init_0 rfl rfl rfl ?_
  refine PW.objInit dX8_init_1 mL_X8_1 oI.1 oI.2 (Nat.le_of_ble_eq_true rfl) (Nat.le_refl _) (Nat.le_refl _) ?_
  refine PW.aload_n 0 0 dX8_init_4 rfl rfl rfl ?_
  refine PW.aload_n 1 1 dX8_init_5 rfl rfl rfl ?_
  refine KW.putr dX8_init_6 fL_X8_7 (Or.inr ⟨rfl, rfl⟩) hT (Or.inl ⟨_, rfl⟩) rfl ?_
  exact PW.vret dX8_init_9 rfl (Nat.le_refl _) (Nat.le_refl _)
theorem kspare {g : pG} {l : Launch} {T r : Nat} {S : pS} (hT : S.1[T]? = some (.inl 1)) (hr : S.2.2.2 T 10 = some r) : PM g l 1 M_X1_spareLaw [.ref T] S (some (.ref r)) S 0 0 := by
  refine PM.of (by decide +kernel) (Nat.le_of_ble_eq_true rfl) ?_
  show PW g l (pRoom 1 0 0) M_X1_spareLaw _ 0 [(0, .ref T)] [] S 0 0
  refine PW.aload_n 0 0 dX1_spareLaw_0 rfl rfl rfl ?_
  refine KW.getr dX1_spareLaw_1 fL_X1_38 hT (Or.inl ⟨_, rfl⟩) hr ?_
  exact PW.aret dX1_spareLaw_4 rfl (Or.inl ⟨_, rfl⟩) rfl (Nat.le_refl _) (Nat.le_refl _)
def objS (a ci : Nat) (mk : Nat → pS → pS) : Nat → pS → pS
  | 0, S => S
  | n + 1, S => sR (mk (objS a ci mk n S).1.length (sN (objS a ci mk n S) (.inl ci))) a n (some (objS a ci mk n S).1.length)
theorem cX6_l {T i : Nat} {S : pS} {k : pK} (h : S.1[i]? = some k) : (cX6 T S).1[i]? = some k := by
  show ((S.1 ++ [_]) ++ [_])[i]? = some k
  have hl := (List.getElem?_eq_some_iff.mp h).1
  rw [List.getElem?_append_left (by simp; omega), List.getElem?_append_left hl]
  exact h
theorem cX6_r {T i k : Nat} {S : pS} (hi : i < S.1.length) (hT : i ≠ T) : (cX6 T S).2.2.2 i k = S.2.2.2 i k := by
  show upd2 (zr (upd2 (zr S.2.2.2 _ none) T 0 _) (S.1 ++ [_]).length none) T 1 _ i k = _
  rw [upd2_ne hT, zr_ne (by simp; omega), upd2_ne hT, zr_ne (by omega)]
def mkP (T : Nat) (S : pS) : pS := cX6 T S
def mkS (C : Nat) (T : Nat) (S : pS) : pS := sR S T 0 (some C)
theorem objS_l {a ci : Nat} {mk : Nat → pS → pS} (hm : ∀ (T : Nat) (S : pS) (i : Nat) (k : pK), S.1[i]? = some k → (mk T S).1[i]? = some k) {i : Nat} {k : pK} {S : pS} (n : Nat) (h : S.1[i]? = some k) : (objS a ci mk n S).1[i]? = some k := by
  induction n with
  | zero => exact h
  | succ n ih => exact hm _ _ _ _ (sN_l ih)
theorem objS_len {a ci c : Nat} {mk : Nat → pS → pS} (hm : ∀ (T : Nat) (S : pS), (mk T S).1.length = S.1.length + c) {S : pS} (n : Nat) : (objS a ci mk n S).1.length = S.1.length + (c + 1) * n := by
  induction n with
  | zero => rfl
  | succ n ih =>
    show (mk _ (sN (objS a ci mk n S) (.inl ci))).1.length = _
    rw [hm]
    show ((objS a ci mk n S).1 ++ [_]).length + c = _
    rw [List.length_append, ih, Nat.mul_succ]
    simp only [List.length_cons, List.length_nil]
    omega
theorem objS_r {a ci c : Nat} {mk : Nat → pS → pS} (hm : ∀ (T : Nat) (S : pS) (i k : Nat), i < S.1.length → i ≠ T → (mk T S).2.2.2 i k = S.2.2.2 i k) (hl : ∀ (T : Nat) (S : pS), (mk T S).1.length = S.1.length + c) {i k : Nat} {S : pS} (hi : i < S.1.length) (ha : i ≠ a) (n : Nat) : (objS a ci mk n S).2.2.2 i k = S.2.2.2 i k := by
  induction n with
  | zero => rfl
  | succ n ih =>
    have h1 : S.1.length ≤ (objS a ci mk n S).1.length := by rw [objS_len hl]; omega
    show upd2 (mk _ (sN (objS a ci mk n S) (.inl ci))).2.2.2 a n _ i k = _
    rw [upd2_ne ha, hm _ _ _ _ (by show i < ((objS a ci mk n S).1 ++ [_]).length; simp; omega) (by omega)]
    show zr (objS a ci mk n S).2.2.2 _ none i k = _
    rw [zr_ne (by omega)]
    exact ih
theorem loop_ge {i n : Nat} (h : i < n) (hn : n < 100000) : ¬ Int32.ofNat n ≤ nI i := nI_ge h (by omega)
