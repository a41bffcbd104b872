section PR
variable {g : pG} {l : Launch} {R : Room} {μ : pM} {F : pF} {pc : Nat} {lv : List (Nat × Value)} {st : List Value} {S : pS} {kc ks : Nat}
theorem PW_st {pc' : Nat} {st' : List Value} (k : PW g l R μ F pc' lv st' S kc ks) (h : ∀ (p : Program) (e : Env) (s : State) (m : MethodId) (args : Array Value) (below : List Frame) (meth : Method) (c : Code) (H : Heap) (locs : List Loc) (ls : Array Slot), CX g μ p s m args meth c → lv_has ls μ.2.2.1 (lv.map (rq g)) → W p l e R s m args below meth c H locs kc ks (F below args s) (F0 m pc' ls (st'.map (ren g))) → W p l e R s m args below meth c H locs kc ks (F below args s) (F0 m pc ls (st.map (ren g)))) : PW g l R μ F pc lv st S kc ks :=
  fun p e s m args below meth c H locs ls C hR hS hl => h p e s m args below meth c H locs ls C hl (k p e s m args below meth c H locs ls C hR hS hl)
theorem lvr {g : pG} {ls : Array Slot} {n : Nat} {lv : List (Nat × Value)} (hl : lv_has ls n (lv.map (rq g))) {j i : Nat} {v : Value} (hk : lv[j]? = some (i, v)) : ls[i]? = some (.val (ren g v)) := lv_at hl j (by rw [List.getElem?_map, hk]; rfl)
def st1 (i : Nat) (v : Value) (lv : List (Nat × Value)) : List (Nat × Value) := (i, v) :: lv.filter (fun q => !(q.1 == i) && !(q.1 + 1 == i && q.2.category == 2))
def st2 (i : Nat) (v : Value) (lv : List (Nat × Value)) : List (Nat × Value) := (i, v) :: lv.filter (fun q => !(q.1 == i) && (!(q.1 == i + 1) && !(q.1 + 1 == i && q.2.category == 2)))
theorem st1_ren (g : pG) (i : Nat) (v : Value) (lv : List (Nat × Value)) : (i, ren g v) :: (lv.map (rq g)).filter (fun q => !(q.1 == i) && !(q.1 + 1 == i && q.2.category == 2)) = (st1 i v lv).map (rq g) := by
  unfold st1
  rw [List.map_cons, List.filter_map]
  refine congrArg (List.cons _) (congrArg (List.map (rq g)) (List.filter_congr fun q _ => ?_))
  show (!(q.1 == i) && !(q.1 + 1 == i && (ren g q.2).category == 2)) = _
  rw [ren_cat]
theorem st2_ren (g : pG) (i : Nat) (v : Value) (lv : List (Nat × Value)) : (i, ren g v) :: (lv.map (rq g)).filter (fun q => !(q.1 == i) && (!(q.1 == i + 1) && !(q.1 + 1 == i && q.2.category == 2))) = (st2 i v lv).map (rq g) := by
  unfold st2
  rw [List.map_cons, List.filter_map]
  refine congrArg (List.cons _) (congrArg (List.map (rq g)) (List.filter_congr fun q _ => ?_))
  show (!(q.1 == i) && (!(q.1 == i + 1) && !(q.1 + 1 == i && (ren g q.2).category == 2))) = _
  rw [ren_cat]
theorem PW.iconst {n : Int} {v : Int32} (hd : decode μ.2.1 pc = .ok (.iconst n, 1)) (hv : Int32.ofInt n = v) (k : PW g l R μ F (pc + 1) lv (.int v :: st) S kc ks) : PW g l R μ F pc lv st S kc ks := PW_st k fun _ _ _ _ _ _ _ _ _ _ _ C hl w => lv_iconst C.1 C.2.1 hd hv w
theorem PW.bipush {n : Int} {v : Int32} (hd : decode μ.2.1 pc = .ok (.bipush n, 2)) (hv : (Int8.ofInt n).toInt32 = v) (k : PW g l R μ F (pc + 2) lv (.int v :: st) S kc ks) : PW g l R μ F pc lv st S kc ks := PW_st k fun _ _ _ _ _ _ _ _ _ _ _ C hl w => lv_bipush C.1 C.2.1 hd hv w
theorem PW.sipush {n : Int} {v : Int32} (hd : decode μ.2.1 pc = .ok (.sipush n, 3)) (hv : (Int16.ofInt n).toInt32 = v) (k : PW g l R μ F (pc + 3) lv (.int v :: st) S kc ks) : PW g l R μ F pc lv st S kc ks := PW_st k fun _ _ _ _ _ _ _ _ _ _ _ C hl w => lv_sipush C.1 C.2.1 hd hv w
theorem PW.lconst {n : Fin 2} {v : Int64} (hd : decode μ.2.1 pc = .ok (.lconst n, 1)) (hv : Int64.ofNat (n : Nat) = v) (k : PW g l R μ F (pc + 1) lv (.long v :: st) S kc ks) : PW g l R μ F pc lv st S kc ks := PW_st k fun _ _ _ _ _ _ _ _ _ _ _ C hl w => lv_lconst C.1 C.2.1 hd hv w
theorem PW.aconst_null  (hd : decode μ.2.1 pc = .ok (.aconst_null, 1))  (k : PW g l R μ F (pc + 1) lv (.null :: st) S kc ks) : PW g l R μ F pc lv st S kc ks := PW_st k fun _ _ _ _ _ _ _ _ _ _ _ C hl w => lv_null C.1 C.2.1 hd w
theorem PW.ldc {n : Nat} {v : Int32} (hd : decode μ.2.1 pc = .ok (.ldc n, 2)) (hw : Cond.constant μ.1.cls n v ∈ TB) (k : PW g l R μ F (pc + 2) lv (.int v :: st) S kc ks) : PW g l R μ F pc lv st S kc ks := PW_st k fun _ _ _ _ _ _ _ _ _ _ _ C hl w => lv_ldc C.1 C.2.1 C.2.2.2.2.1 (C.2.2.2.2.2.1 _ hw) hd w
theorem PW.ldc_w {n : Nat} {v : Int32} (hd : decode μ.2.1 pc = .ok (.ldc_w n, 3)) (hw : Cond.constant μ.1.cls n v ∈ TB) (k : PW g l R μ F (pc + 3) lv (.int v :: st) S kc ks) : PW g l R μ F pc lv st S kc ks := PW_st k fun _ _ _ _ _ _ _ _ _ _ _ C hl w => lv_ldcw C.1 C.2.1 C.2.2.2.2.1 (C.2.2.2.2.2.1 _ hw) hd w
theorem PW.ldc2_w {n : Nat} {v : Int64} (hd : decode μ.2.1 pc = .ok (.ldc2_w n, 3)) (hw : Cond.constantLong μ.1.cls n v ∈ TB) (k : PW g l R μ F (pc + 3) lv (.long v :: st) S kc ks) : PW g l R μ F pc lv st S kc ks := PW_st k fun _ _ _ _ _ _ _ _ _ _ _ C hl w => lv_ldc2 C.1 C.2.1 C.2.2.2.2.1 (C.2.2.2.2.2.1 _ hw) hd w
theorem PW.iload_n {k : Fin 4} {x : Int32} (j i : Nat) (hd : decode μ.2.1 pc = .ok (.iload_n k, 1)) (hi : (k : Nat) = i) (hk : lv[j]? = some (i, .int x)) (k : PW g l R μ F (pc + 1) lv (.int x :: st) S kc ks) : PW g l R μ F pc lv st S kc ks := PW_st k fun _ _ _ _ _ _ _ _ _ _ _ C hl w => lv_iload_n C.1 C.2.1 hd hi (lvr hl hk) w
theorem PW.iload {i : Nat} {x : Int32} (j : Nat) (hd : decode μ.2.1 pc = .ok (.iload i, 2)) (hk : lv[j]? = some (i, .int x)) (k : PW g l R μ F (pc + 2) lv (.int x :: st) S kc ks) : PW g l R μ F pc lv st S kc ks := PW_st k fun _ _ _ _ _ _ _ _ _ _ _ C hl w => lv_iload C.1 C.2.1 hd (lvr hl hk) w
theorem PW.lload_n {k : Fin 4} {x : Int64} (j i : Nat) (hd : decode μ.2.1 pc = .ok (.lload_n k, 1)) (hi : (k : Nat) = i) (hk : lv[j]? = some (i, .long x)) (k : PW g l R μ F (pc + 1) lv (.long x :: st) S kc ks) : PW g l R μ F pc lv st S kc ks := PW_st k fun _ _ _ _ _ _ _ _ _ _ _ C hl w => lv_lload_n C.1 C.2.1 hd hi (lvr hl hk) w
theorem PW.lload {i : Nat} {x : Int64} (j : Nat) (hd : decode μ.2.1 pc = .ok (.lload i, 2)) (hk : lv[j]? = some (i, .long x)) (k : PW g l R μ F (pc + 2) lv (.long x :: st) S kc ks) : PW g l R μ F pc lv st S kc ks := PW_st k fun _ _ _ _ _ _ _ _ _ _ _ C hl w => lv_lload C.1 C.2.1 hd (lvr hl hk) w
def isA : Value → Bool := fun v => match v with
  | .ref _ => true
  | .null => true
  | .float _ => true
  | _ => false
theorem PW.aload_n {k : Fin 4} {v : Value} (j i : Nat) (hd : decode μ.2.1 pc = .ok (.aload_n k, 1)) (hi : (k : Nat) = i) (hk : lv[j]? = some (i, v)) (hv : isA v = true) (k : PW g l R μ F (pc + 1) lv (v :: st) S kc ks) : PW g l R μ F pc lv st S kc ks := by
  refine PW_st k fun _ _ _ _ _ _ _ _ _ _ _ C hl w => ?_
  have h := lvr hl hk
  cases v with
  | ref x => exact lv_aload_n C.1 C.2.1 hd hi h w
  | null => exact lv_aload_nN C.1 C.2.1 hd hi h w
  | float x => exact lv_aload_n C.1 C.2.1 hd hi h w
  | int x => cases hv
  | long x => cases hv
  | double x => cases hv
  | retAddr x => cases hv
theorem PW.aload {i : Nat} {v : Value} (j : Nat) (hd : decode μ.2.1 pc = .ok (.aload i, 2)) (hk : lv[j]? = some (i, v)) (hv : isA v = true) (k : PW g l R μ F (pc + 2) lv (v :: st) S kc ks) : PW g l R μ F pc lv st S kc ks := by
  refine PW_st k fun _ _ _ _ _ _ _ _ _ _ _ C hl w => ?_
  have h := lvr hl hk
  cases v with
  | ref x => exact lv_aload C.1 C.2.1 hd h w
  | null => exact lv_aloadN C.1 C.2.1 hd h w
  | float x => exact lv_aload C.1 C.2.1 hd h w
  | int x => cases hv
  | long x => cases hv
  | double x => cases hv
  | retAddr x => cases hv
theorem PW.istore_n {k : Fin 4} {i : Nat} {x : Int32} {lv' : List (Nat × Value)} (hd : decode μ.2.1 pc = .ok (.istore_n k, 1)) (hi : (k : Nat) = i) (hn : i < μ.2.2.1) (hv : st1 i (.int x) lv = lv') (k : PW g l R μ F (pc + 1) lv' st S kc ks) : PW g l R μ F pc lv ((.int x) :: st) S kc ks := by
  subst hv
  intro p e s m args below meth c H locs ls C hR hS hl
  exact lv_istore_n C.1 C.2.1 hd hi hl hn (st1_ren g i (.int x) lv) fun ls' hl' => k p e s m args below meth c H locs ls' C hR hS hl'
theorem PW.istore {i : Nat} {x : Int32} {lv' : List (Nat × Value)} (hd : decode μ.2.1 pc = .ok (.istore i, 2)) (hn : i < μ.2.2.1) (hv : st1 i (.int x) lv = lv') (k : PW g l R μ F (pc + 2) lv' st S kc ks) : PW g l R μ F pc lv ((.int x) :: st) S kc ks := by
  subst hv
  intro p e s m args below meth c H locs ls C hR hS hl
  exact lv_istore C.1 C.2.1 hd hl hn (st1_ren g i (.int x) lv) fun ls' hl' => k p e s m args below meth c H locs ls' C hR hS hl'
theorem PW.lstore_n {k : Fin 4} {i : Nat} {x : Int64} {lv' : List (Nat × Value)} (hd : decode μ.2.1 pc = .ok (.lstore_n k, 1)) (hi : (k : Nat) = i) (hn : i + 1 < μ.2.2.1) (hv : st2 i (.long x) lv = lv') (k : PW g l R μ F (pc + 1) lv' st S kc ks) : PW g l R μ F pc lv ((.long x) :: st) S kc ks := by
  subst hv
  intro p e s m args below meth c H locs ls C hR hS hl
  exact lv_lstore_n C.1 C.2.1 hd hi hl hn (st2_ren g i (.long x) lv) fun ls' hl' => k p e s m args below meth c H locs ls' C hR hS hl'
theorem PW.lstore {i : Nat} {x : Int64} {lv' : List (Nat × Value)} (hd : decode μ.2.1 pc = .ok (.lstore i, 2)) (hn : i + 1 < μ.2.2.1) (hv : st2 i (.long x) lv = lv') (k : PW g l R μ F (pc + 2) lv' st S kc ks) : PW g l R μ F pc lv ((.long x) :: st) S kc ks := by
  subst hv
  intro p e s m args below meth c H locs ls C hR hS hl
  exact lv_lstore C.1 C.2.1 hd hl hn (st2_ren g i (.long x) lv) fun ls' hl' => k p e s m args below meth c H locs ls' C hR hS hl'
theorem PW.astore_n {k : Fin 4} {i : Nat} {v : Value} {lv' : List (Nat × Value)} (hd : decode μ.2.1 pc = .ok (.astore_n k, 1)) (hi : (k : Nat) = i) (hn : i < μ.2.2.1) (hv : st1 i v lv = lv') (ha : isA v = true) (k : PW g l R μ F (pc + 1) lv' st S kc ks) : PW g l R μ F pc lv (v :: st) S kc ks := by
  subst hv
  intro p e s m args below meth c H locs ls C hR hS hl
  cases v with
  | ref x => exact lv_astore_n C.1 C.2.1 hd hi hl hn (st1_ren g i (.ref x) lv) fun ls' hl' => k p e s m args below meth c H locs ls' C hR hS hl'
  | null => exact lv_astore_nN C.1 C.2.1 hd hi hl hn (st1_ren g i .null lv) fun ls' hl' => k p e s m args below meth c H locs ls' C hR hS hl'
  | float x => exact lv_astore_n C.1 C.2.1 hd hi hl hn (st1_ren g i (.float x) lv) fun ls' hl' => k p e s m args below meth c H locs ls' C hR hS hl'
  | int x => cases ha
  | long x => cases ha
  | double x => cases ha
  | retAddr x => cases ha
theorem PW.astore {i : Nat} {v : Value} {lv' : List (Nat × Value)} (hd : decode μ.2.1 pc = .ok (.astore i, 2)) (hn : i < μ.2.2.1) (hv : st1 i v lv = lv') (ha : isA v = true) (k : PW g l R μ F (pc + 2) lv' st S kc ks) : PW g l R μ F pc lv (v :: st) S kc ks := by
  subst hv
  intro p e s m args below meth c H locs ls C hR hS hl
  cases v with
  | ref x => exact lv_astore C.1 C.2.1 hd hl hn (st1_ren g i (.ref x) lv) fun ls' hl' => k p e s m args below meth c H locs ls' C hR hS hl'
  | null => exact lv_astoreN C.1 C.2.1 hd hl hn (st1_ren g i .null lv) fun ls' hl' => k p e s m args below meth c H locs ls' C hR hS hl'
  | float x => exact lv_astore C.1 C.2.1 hd hl hn (st1_ren g i (.float x) lv) fun ls' hl' => k p e s m args below meth c H locs ls' C hR hS hl'
  | int x => cases ha
  | long x => cases ha
  | double x => cases ha
  | retAddr x => cases ha
theorem PW.iinc {i : Nat} {n : Int} {x v : Int32} {lv' : List (Nat × Value)} (j : Nat) (hd : decode μ.2.1 pc = .ok (.iinc i n, 3)) (hk : lv[j]? = some (i, .int x)) (hx : x + Int32.ofInt n = v) (hn : i < μ.2.2.1) (hv : st1 i (.int v) lv = lv') (k : PW g l R μ F (pc + 3) lv' st S kc ks) : PW g l R μ F pc lv st S kc ks := by
  subst hv
  intro p e s m args below meth c H locs ls C hR hS hl
  exact lv_iinc C.1 C.2.1 hd hl (k := j) (by rw [List.getElem?_map, hk]; rfl) hx hn (st1_ren g i (.int v) lv) fun ls' hl' => k p e s m args below meth c H locs ls' C hR hS hl'
theorem PW.iadd {x y : Int32} (hd : decode μ.2.1 pc = .ok (.iadd, 1))  (k : PW g l R μ F (pc + 1) lv (.int (x + y) :: st) S kc ks) : PW g l R μ F pc lv (.int y :: .int x :: st) S kc ks := PW_st k fun _ _ _ _ _ _ _ _ _ _ _ C hl w => lv_iadd C.1 C.2.1 hd w
theorem PW.isub {x y : Int32} (hd : decode μ.2.1 pc = .ok (.isub, 1))  (k : PW g l R μ F (pc + 1) lv (.int (x - y) :: st) S kc ks) : PW g l R μ F pc lv (.int y :: .int x :: st) S kc ks := PW_st k fun _ _ _ _ _ _ _ _ _ _ _ C hl w => lv_isub C.1 C.2.1 hd w
theorem PW.imul {x y : Int32} (hd : decode μ.2.1 pc = .ok (.imul, 1))  (k : PW g l R μ F (pc + 1) lv (.int (x * y) :: st) S kc ks) : PW g l R μ F pc lv (.int y :: .int x :: st) S kc ks := PW_st k fun _ _ _ _ _ _ _ _ _ _ _ C hl w => lv_imul C.1 C.2.1 hd w
theorem PW.iand {x y : Int32} (hd : decode μ.2.1 pc = .ok (.iand, 1))  (k : PW g l R μ F (pc + 1) lv (.int (x &&& y) :: st) S kc ks) : PW g l R μ F pc lv (.int y :: .int x :: st) S kc ks := PW_st k fun _ _ _ _ _ _ _ _ _ _ _ C hl w => lv_iand C.1 C.2.1 hd w
theorem PW.ior {x y : Int32} (hd : decode μ.2.1 pc = .ok (.ior, 1))  (k : PW g l R μ F (pc + 1) lv (.int (x ||| y) :: st) S kc ks) : PW g l R μ F pc lv (.int y :: .int x :: st) S kc ks := PW_st k fun _ _ _ _ _ _ _ _ _ _ _ C hl w => lv_ior C.1 C.2.1 hd w
theorem PW.ishl {x y : Int32} (hd : decode μ.2.1 pc = .ok (.ishl, 1))  (k : PW g l R μ F (pc + 1) lv (.int (x <<< (y &&& 31)) :: st) S kc ks) : PW g l R μ F pc lv (.int y :: .int x :: st) S kc ks := PW_st k fun _ _ _ _ _ _ _ _ _ _ _ C hl w => lv_ishl C.1 C.2.1 hd w
theorem PW.ishr {x y : Int32} (hd : decode μ.2.1 pc = .ok (.ishr, 1))  (k : PW g l R μ F (pc + 1) lv (.int (x >>> (y &&& 31)) :: st) S kc ks) : PW g l R μ F pc lv (.int y :: .int x :: st) S kc ks := PW_st k fun _ _ _ _ _ _ _ _ _ _ _ C hl w => lv_ishr C.1 C.2.1 hd w
theorem PW.iushr {x y v : Int32} (hd : decode μ.2.1 pc = .ok (.iushr, 1)) (hv : (x.toUInt32 >>> (y.toUInt32 &&& Int32.toUInt32 31)).toInt32 = v) (k : PW g l R μ F (pc + 1) lv (.int v :: st) S kc ks) : PW g l R μ F pc lv (.int y :: .int x :: st) S kc ks := PW_st k fun _ _ _ _ _ _ _ _ _ _ _ C hl w => lv_iushr C.1 C.2.1 hd hv w
theorem PW.idiv {x y : Int32} (hd : decode μ.2.1 pc = .ok (.idiv, 1)) (hne : ¬ y = 0) (k : PW g l R μ F (pc + 1) lv (.int (x / y) :: st) S kc ks) : PW g l R μ F pc lv (.int y :: .int x :: st) S kc ks := PW_st k fun _ _ _ _ _ _ _ _ _ _ _ C hl w => lv_idiv C.1 C.2.1 hd hne w
theorem PW.irem {x y : Int32} (hd : decode μ.2.1 pc = .ok (.irem, 1)) (hne : ¬ y = 0) (k : PW g l R μ F (pc + 1) lv (.int (x - x / y * y) :: st) S kc ks) : PW g l R μ F pc lv (.int y :: .int x :: st) S kc ks := PW_st k fun _ _ _ _ _ _ _ _ _ _ _ C hl w => lv_irem C.1 C.2.1 hd hne w
theorem PW.ladd {x y : Int64} (hd : decode μ.2.1 pc = .ok (.ladd, 1))  (k : PW g l R μ F (pc + 1) lv (.long (x + y) :: st) S kc ks) : PW g l R μ F pc lv (.long y :: .long x :: st) S kc ks := PW_st k fun _ _ _ _ _ _ _ _ _ _ _ C hl w => lv_ladd C.1 C.2.1 hd w
theorem PW.lsub {x y : Int64} (hd : decode μ.2.1 pc = .ok (.lsub, 1))  (k : PW g l R μ F (pc + 1) lv (.long (x - y) :: st) S kc ks) : PW g l R μ F pc lv (.long y :: .long x :: st) S kc ks := PW_st k fun _ _ _ _ _ _ _ _ _ _ _ C hl w => lv_lsub C.1 C.2.1 hd w
theorem PW.lmul {x y : Int64} (hd : decode μ.2.1 pc = .ok (.lmul, 1))  (k : PW g l R μ F (pc + 1) lv (.long (x * y) :: st) S kc ks) : PW g l R μ F pc lv (.long y :: .long x :: st) S kc ks := PW_st k fun _ _ _ _ _ _ _ _ _ _ _ C hl w => lv_lmul C.1 C.2.1 hd w
theorem PW.ldiv {x y : Int64} (hd : decode μ.2.1 pc = .ok (.ldiv, 1)) (hne : ¬ y = 0) (k : PW g l R μ F (pc + 1) lv (.long (x / y) :: st) S kc ks) : PW g l R μ F pc lv (.long y :: .long x :: st) S kc ks := PW_st k fun _ _ _ _ _ _ _ _ _ _ _ C hl w => lv_ldiv C.1 C.2.1 hd hne w
theorem PW.lrem {x y : Int64} (hd : decode μ.2.1 pc = .ok (.lrem, 1)) (hne : ¬ y = 0) (k : PW g l R μ F (pc + 1) lv (.long (x - x / y * y) :: st) S kc ks) : PW g l R μ F pc lv (.long y :: .long x :: st) S kc ks := PW_st k fun _ _ _ _ _ _ _ _ _ _ _ C hl w => lv_lrem C.1 C.2.1 hd hne w
theorem PW.i2l {x : Int32} (hd : decode μ.2.1 pc = .ok (.i2l, 1))  (k : PW g l R μ F (pc + 1) lv (.long x.toInt64 :: st) S kc ks) : PW g l R μ F pc lv (.int x :: st) S kc ks := PW_st k fun _ _ _ _ _ _ _ _ _ _ _ C hl w => lv_i2l C.1 C.2.1 hd rfl w
theorem PW.i2b {x : Int32} (hd : decode μ.2.1 pc = .ok (.i2b, 1))  (k : PW g l R μ F (pc + 1) lv (.int x.toInt8.toInt32 :: st) S kc ks) : PW g l R μ F pc lv (.int x :: st) S kc ks := PW_st k fun _ _ _ _ _ _ _ _ _ _ _ C hl w => lv_i2b C.1 C.2.1 hd rfl w
theorem PW.i2c {x : Int32} (hd : decode μ.2.1 pc = .ok (.i2c, 1))  (k : PW g l R μ F (pc + 1) lv (.int (x.toUInt32 % 65536).toInt32 :: st) S kc ks) : PW g l R μ F pc lv (.int x :: st) S kc ks := PW_st k fun _ _ _ _ _ _ _ _ _ _ _ C hl w => lv_i2c C.1 C.2.1 hd rfl w
theorem PW.dup {v : Value} (hd : decode μ.2.1 pc = .ok (.dup, 1)) (hv : v.category = 1) (k : PW g l R μ F (pc + 1) lv (v :: v :: st) S kc ks) : PW g l R μ F pc lv (v :: st) S kc ks := PW_st k fun _ _ _ _ _ _ _ _ _ _ _ C hl w => lv_dup C.1 C.2.1 hd (by rw [ren_cat]; exact hv) w
theorem PW.dup2 {v u : Value} (hd : decode μ.2.1 pc = .ok (.dup2, 1)) (hv : v.category = 1) (hu : u.category = 1) (k : PW g l R μ F (pc + 1) lv (v :: u :: v :: u :: st) S kc ks) : PW g l R μ F pc lv (v :: u :: st) S kc ks := PW_st k fun _ _ _ _ _ _ _ _ _ _ _ C hl w => lv_dup2_11 C.1 C.2.1 hd (by rw [ren_cat]; exact hv) (by rw [ren_cat]; exact hu) w
theorem PW.goto {off : Int} {tgt : Nat} (hd : decode μ.2.1 pc = .ok (.goto off, 3)) (ht : (pc : Int) + off = (tgt : Int)) (k : PW g l R μ F tgt lv st S kc ks) : PW g l R μ F pc lv st S kc ks := PW_st k fun _ _ _ _ _ _ _ _ _ _ _ C hl w => lv_goto C.1 C.2.1 hd ht w
theorem PW.if_eq {x : Int32} {off : Int} {tgt : Nat} (hd : decode μ.2.1 pc = .ok (.ifCond .eq off, 3)) (ht : (pc : Int) + off = (tgt : Int)) (kt : x = 0 → PW g l R μ F tgt lv st S kc ks) (kf : ¬ x = 0 → PW g l R μ F (pc + 3) lv st S kc ks) : PW g l R μ F pc lv (.int x :: st) S kc ks :=
  fun p e s m args below meth c H locs ls C hR hS hl => lv_if_eq C.1 C.2.1 hd ht (fun q => kt q p e s m args below meth c H locs ls C hR hS hl) (fun q => kf q p e s m args below meth c H locs ls C hR hS hl)
theorem PW.icmp_eq {x y : Int32} {off : Int} {tgt : Nat} (hd : decode μ.2.1 pc = .ok (.if_icmp .eq off, 3)) (ht : (pc : Int) + off = (tgt : Int)) (kt : x = y → PW g l R μ F tgt lv st S kc ks) (kf : ¬ x = y → PW g l R μ F (pc + 3) lv st S kc ks) : PW g l R μ F pc lv (.int y :: .int x :: st) S kc ks :=
  fun p e s m args below meth c H locs ls C hR hS hl => lv_icmp_eq C.1 C.2.1 hd ht (fun q => kt q p e s m args below meth c H locs ls C hR hS hl) (fun q => kf q p e s m args below meth c H locs ls C hR hS hl)
theorem PW.if_ne {x : Int32} {off : Int} {tgt : Nat} (hd : decode μ.2.1 pc = .ok (.ifCond .ne off, 3)) (ht : (pc : Int) + off = (tgt : Int)) (kt : ¬ x = 0 → PW g l R μ F tgt lv st S kc ks) (kf : x = 0 → PW g l R μ F (pc + 3) lv st S kc ks) : PW g l R μ F pc lv (.int x :: st) S kc ks :=
  fun p e s m args below meth c H locs ls C hR hS hl => lv_if_ne C.1 C.2.1 hd ht (fun q => kt q p e s m args below meth c H locs ls C hR hS hl) (fun q => kf q p e s m args below meth c H locs ls C hR hS hl)
theorem PW.icmp_ne {x y : Int32} {off : Int} {tgt : Nat} (hd : decode μ.2.1 pc = .ok (.if_icmp .ne off, 3)) (ht : (pc : Int) + off = (tgt : Int)) (kt : ¬ x = y → PW g l R μ F tgt lv st S kc ks) (kf : x = y → PW g l R μ F (pc + 3) lv st S kc ks) : PW g l R μ F pc lv (.int y :: .int x :: st) S kc ks :=
  fun p e s m args below meth c H locs ls C hR hS hl => lv_icmp_ne C.1 C.2.1 hd ht (fun q => kt q p e s m args below meth c H locs ls C hR hS hl) (fun q => kf q p e s m args below meth c H locs ls C hR hS hl)
theorem PW.if_lt {x : Int32} {off : Int} {tgt : Nat} (hd : decode μ.2.1 pc = .ok (.ifCond .lt off, 3)) (ht : (pc : Int) + off = (tgt : Int)) (kt : x < 0 → PW g l R μ F tgt lv st S kc ks) (kf : ¬ x < 0 → PW g l R μ F (pc + 3) lv st S kc ks) : PW g l R μ F pc lv (.int x :: st) S kc ks :=
  fun p e s m args below meth c H locs ls C hR hS hl => lv_if_lt C.1 C.2.1 hd ht (fun q => kt q p e s m args below meth c H locs ls C hR hS hl) (fun q => kf q p e s m args below meth c H locs ls C hR hS hl)
theorem PW.icmp_lt {x y : Int32} {off : Int} {tgt : Nat} (hd : decode μ.2.1 pc = .ok (.if_icmp .lt off, 3)) (ht : (pc : Int) + off = (tgt : Int)) (kt : x < y → PW g l R μ F tgt lv st S kc ks) (kf : ¬ x < y → PW g l R μ F (pc + 3) lv st S kc ks) : PW g l R μ F pc lv (.int y :: .int x :: st) S kc ks :=
  fun p e s m args below meth c H locs ls C hR hS hl => lv_icmp_lt C.1 C.2.1 hd ht (fun q => kt q p e s m args below meth c H locs ls C hR hS hl) (fun q => kf q p e s m args below meth c H locs ls C hR hS hl)
theorem PW.if_ge {x : Int32} {off : Int} {tgt : Nat} (hd : decode μ.2.1 pc = .ok (.ifCond .ge off, 3)) (ht : (pc : Int) + off = (tgt : Int)) (kt : 0 ≤ x → PW g l R μ F tgt lv st S kc ks) (kf : ¬ 0 ≤ x → PW g l R μ F (pc + 3) lv st S kc ks) : PW g l R μ F pc lv (.int x :: st) S kc ks :=
  fun p e s m args below meth c H locs ls C hR hS hl => lv_if_ge C.1 C.2.1 hd ht (fun q => kt q p e s m args below meth c H locs ls C hR hS hl) (fun q => kf q p e s m args below meth c H locs ls C hR hS hl)
theorem PW.icmp_ge {x y : Int32} {off : Int} {tgt : Nat} (hd : decode μ.2.1 pc = .ok (.if_icmp .ge off, 3)) (ht : (pc : Int) + off = (tgt : Int)) (kt : y ≤ x → PW g l R μ F tgt lv st S kc ks) (kf : ¬ y ≤ x → PW g l R μ F (pc + 3) lv st S kc ks) : PW g l R μ F pc lv (.int y :: .int x :: st) S kc ks :=
  fun p e s m args below meth c H locs ls C hR hS hl => lv_icmp_ge C.1 C.2.1 hd ht (fun q => kt q p e s m args below meth c H locs ls C hR hS hl) (fun q => kf q p e s m args below meth c H locs ls C hR hS hl)
theorem PW.if_gt {x : Int32} {off : Int} {tgt : Nat} (hd : decode μ.2.1 pc = .ok (.ifCond .gt off, 3)) (ht : (pc : Int) + off = (tgt : Int)) (kt : 0 < x → PW g l R μ F tgt lv st S kc ks) (kf : ¬ 0 < x → PW g l R μ F (pc + 3) lv st S kc ks) : PW g l R μ F pc lv (.int x :: st) S kc ks :=
  fun p e s m args below meth c H locs ls C hR hS hl => lv_if_gt C.1 C.2.1 hd ht (fun q => kt q p e s m args below meth c H locs ls C hR hS hl) (fun q => kf q p e s m args below meth c H locs ls C hR hS hl)
theorem PW.icmp_gt {x y : Int32} {off : Int} {tgt : Nat} (hd : decode μ.2.1 pc = .ok (.if_icmp .gt off, 3)) (ht : (pc : Int) + off = (tgt : Int)) (kt : y < x → PW g l R μ F tgt lv st S kc ks) (kf : ¬ y < x → PW g l R μ F (pc + 3) lv st S kc ks) : PW g l R μ F pc lv (.int y :: .int x :: st) S kc ks :=
  fun p e s m args below meth c H locs ls C hR hS hl => lv_icmp_gt C.1 C.2.1 hd ht (fun q => kt q p e s m args below meth c H locs ls C hR hS hl) (fun q => kf q p e s m args below meth c H locs ls C hR hS hl)
theorem PW.if_le {x : Int32} {off : Int} {tgt : Nat} (hd : decode μ.2.1 pc = .ok (.ifCond .le off, 3)) (ht : (pc : Int) + off = (tgt : Int)) (kt : x ≤ 0 → PW g l R μ F tgt lv st S kc ks) (kf : ¬ x ≤ 0 → PW g l R μ F (pc + 3) lv st S kc ks) : PW g l R μ F pc lv (.int x :: st) S kc ks :=
  fun p e s m args below meth c H locs ls C hR hS hl => lv_if_le C.1 C.2.1 hd ht (fun q => kt q p e s m args below meth c H locs ls C hR hS hl) (fun q => kf q p e s m args below meth c H locs ls C hR hS hl)
theorem PW.icmp_le {x y : Int32} {off : Int} {tgt : Nat} (hd : decode μ.2.1 pc = .ok (.if_icmp .le off, 3)) (ht : (pc : Int) + off = (tgt : Int)) (kt : x ≤ y → PW g l R μ F tgt lv st S kc ks) (kf : ¬ x ≤ y → PW g l R μ F (pc + 3) lv st S kc ks) : PW g l R μ F pc lv (.int y :: .int x :: st) S kc ks :=
  fun p e s m args below meth c H locs ls C hR hS hl => lv_icmp_le C.1 C.2.1 hd ht (fun q => kt q p e s m args below meth c H locs ls C hR hS hl) (fun q => kf q p e s m args below meth c H locs ls C hR hS hl)
theorem PW.ifnull_ref {off : Int} {x : Nat} (hd : decode μ.2.1 pc = .ok (.ifnull off, 3))  (k : PW g l R μ F (pc + 3) lv st S kc ks) : PW g l R μ F pc lv (.ref x :: st) S kc ks := PW_st k fun _ _ _ _ _ _ _ _ _ _ _ C hl w => lv_ifnull C.1 C.2.1 hd w
theorem PW.ifnonnull_null {off : Int} (hd : decode μ.2.1 pc = .ok (.ifnonnull off, 3))  (k : PW g l R μ F (pc + 3) lv st S kc ks) : PW g l R μ F pc lv (.null :: st) S kc ks := PW_st k fun _ _ _ _ _ _ _ _ _ _ _ C hl w => lv_ifnonnullN C.1 C.2.1 hd w
theorem PW.ifnull_null {off : Int} {tgt : Nat} (hd : decode μ.2.1 pc = .ok (.ifnull off, 3)) (ht : (pc : Int) + off = (tgt : Int)) (k : PW g l R μ F tgt lv st S kc ks) : PW g l R μ F pc lv (.null :: st) S kc ks := PW_st k fun _ _ _ _ _ _ _ _ _ _ _ C hl w => lv_ifnullN C.1 C.2.1 hd ht w
theorem PW.ifnonnull_ref {off : Int} {x tgt : Nat} (hd : decode μ.2.1 pc = .ok (.ifnonnull off, 3)) (ht : (pc : Int) + off = (tgt : Int)) (k : PW g l R μ F tgt lv st S kc ks) : PW g l R μ F pc lv (.ref x :: st) S kc ks := PW_st k fun _ _ _ _ _ _ _ _ _ _ _ C hl w => lv_ifnonnull C.1 C.2.1 hd ht w
theorem PW.lcmp {x y : Int64} (hd : decode μ.2.1 pc = .ok (.lcmp, 1))  (k : PW g l R μ F (pc + 1) lv (.int (lg_cmp x y) :: st) S kc ks) : PW g l R μ F pc lv (.long y :: .long x :: st) S kc ks := PW_st k fun _ _ _ _ _ _ _ _ _ _ _ C hl w => W.lcmp C.1 C.2.1 hd w
end PR
