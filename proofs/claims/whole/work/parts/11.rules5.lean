section PS5
variable {g : pG} {l : Launch} {R : Room} {μ : pM} {F : pF} {pc : Nat} {lv : List (Nat × Value)} {st : List Value} {S S' : pS} {kc ks : Nat}
theorem cats (st : List Value) : ((st.map (ren g)).map fun v => v.category).sum = (st.map fun v => v.category).sum := by
  rw [List.map_map]
  congr 1
  exact List.map_congr_left fun v _ => ren_cat g v
/-- behind a call -/
theorem PW.back {r : Option Value} {As : Array Value} {mc ms : Nat} {rest : List Value} {p : Program} {e : Env} {s : State} {m : MethodId} {args : Array Value} {below : List Frame} {meth : Method} {c : Code} {H : Heap} {locs : List Loc} {ls : Array Slot} {st0 : List Value}
    (C : CX g μ p s m args meth c) (hS : va_S (gF g) s.heap H locs) (hl : lv_has ls μ.2.2.1 (lv.map (rq g)))
    (run : va_Run p l e R s m args below meth c H locs kc ks mc ms (F0 m pc ls st0) (rest.map (ren g)) (pQ g r S' As) (gF g))
    (kk : PW g l R μ F (pc + 3) lv (r.toList ++ rest) S' (kc + mc) (ks + ms)) : W p l e R s m args below meth c H locs kc ks (F below args s) (F0 m pc ls st0) := by
  intro T hT X
  obtain ⟨v, st₀, t, T', L, h0, X', hL, e1, e2, ⟨hv, hRH, hF⟩, st⟩ := run T hT X
  have hv' : v = r.map (ren g) := by injection hv
  subst hv'
  have hS1 : va_S (gF g) s.heap T'.heap (locs ++ L) := by
    refine ⟨Nat.le_trans hS.1 (by rw [e1, ← h0]; exact hF.1), fun q h1 h2 => ?_, fun q hq => ?_⟩
    · rw [e1, hF.2 q (by rw [h0]; exact Nat.lt_of_lt_of_le h1 hS.1) h2, h0]
      exact hS.2.1 q h1 h2
    · rcases List.mem_append.mp hq with h | h
      · exact hS.2.2 q h
      · exact hL q h
  obtain ⟨t2, a1, b1⟩ := kk p e s m args below meth c T'.heap (locs ++ L) ls C (by rw [e1]; exact hRH) hS1 hl T' rfl X'
  refine ⟨t2, st t2 ?_, b1⟩
  have he : (r.toList ++ rest).map (ren g) = (r.map (ren g)).toList ++ rest.map (ren g) := by cases r <;> rfl
  rw [he] at a1
  exact a1
theorem preOf {p : Program} {s : State} {m : MethodId} {args : Array Value} {meth : Method} {c : Code} {H : Heap} {locs : List Loc} (C : CX g μ p s m args meth c) (hR : RH g S H) (hS : va_S (gF g) s.heap H locs) (av : List Value) :
    ∀ U : State, U.heap = H → s.WarmedH U.vm → va_Pc av (pB g S) av.toArray U := fun U hU hW => ⟨rfl, by rw [hU]; exact hR, KP.warm C.2.2.2.2.2.2.2.2.1 hW, by rw [hU]; exact OP.moved C.2.2.2.2.2.2.2.2.2 hW.alike hS⟩
theorem ws_in {μc : pM} (h : wk μc ∈ TB) {hd : List Cond} (hh : ∀ w ∈ hd, w ∈ TB) : GoodIn TB (hd ++ (wk μc :: TB)) := TB_in fun w hw => by
  rcases List.mem_append.mp hw with h1 | h1
  · exact hh w h1
  · rcases List.mem_cons.mp h1 with h2 | h2
    · rw [h2]; exact h
    · exact h2
theorem PW.callV {μc : pM} {n idx d mc ms b ci : Nat} {r : Option Value} {st0 : List Value} (As : List Value) (hd : decode μ.2.1 pc = .ok (.invokevirtual idx, 3)) (h : PM g l d μc (.ref b :: As) S r S' mc ms) (hM : MVI μc n) (hlk : Cond.methodLink μ.1.cls idx μc.1 ∈ TB) (hci : ci < 13) (hcl : kR ci = μc.1.cls) (hb : S.1[b]? = some (.inl ci)) (hst0 : As.reverse ++ .ref b :: st = st0) (hn : As.length = n) (hst : (st.map fun v => v.category).sum ≤ 8)
    (hf : d + 1 ≤ R.frames) (hlo : 64 * (d + 1) ≤ R.locals) (hc : kc + mc ≤ R.cells) (hs : ks + ms ≤ R.slots) (kk : PW g l R μ F (pc + 3) lv (r.toList ++ st) S' (kc + mc) (ks + ms)) : PW g l R μ F pc lv st0 S kc ks := by
  subst hst0
  intro p e s m args below meth c H locs ls C hR hS hl
  obtain ⟨⟨k1, k2, k3, k4⟩, k5, k6⟩ := hM
  have hK := C.2.2.2.2.2.2.2.2.1.1
  obtain ⟨q', h1, cell, g1, g2, g3, -⟩ := hR.2 b _ hb
  refine PW.back C hS hl (As := ((Value.ref b :: As).map (ren g)).toArray) (va_runV (As := As.map (ren g)) (b := gz g + b) ⟨C.1, C.2.1, C.2.2.2.1, C.2.2.2.2.1, C.2.2.2.2.2.1⟩ h
    (cwV n C.2.2.2.2.2.1 (ws_in k1 (by
      intro w hw
      simp only [List.mem_cons, List.not_mem_nil, or_false] at hw
      rcases hw with rfl | rfl | rfl | rfl
      · exact hlk
      · exact k5
      · exact k6
      · exact k2)) rfl rfl rfl ⟨rfl, k4.1, k4.2.1, k4.2.2⟩ ⟨hf, by show 8 + (μc.2.2.1 + 11) + 64 * d ≤ R.locals; omega⟩)
    ⟨blind g _ S, ⟨cell, g1, by rw [g3]; rfl, by rw [g2, ← hcl]; exact (hK.1 ci _ (kl_at hci)).2.1⟩, preOf C hR hS _⟩ rfl (by simpa using hn) hl.1 ?_ (lv_room (by rw [cats]; exact hst)) hd ⟨hc, hs⟩) kk
  show (As.reverse ++ Value.ref b :: st).map (ren g) = _
  rw [List.map_append, List.map_reverse]
  rfl
theorem PW.callS {μc : pM} {n idx d mc ms : Nat} {r : Option Value} {st0 : List Value} (As : List Value) (hd : decode μ.2.1 pc = .ok (.invokestatic idx, 3)) (h : PM g l d μc As S r S' mc ms) (hM : MST μc n) (hlk : Cond.methodLink μ.1.cls idx μc.1 ∈ TB) (hst0 : As.reverse ++ st = st0) (hn : As.length = n) (hst : (st.map fun v => v.category).sum ≤ 8)
    (hf : d + 1 ≤ R.frames) (hlo : 64 * (d + 1) ≤ R.locals) (hc : kc + mc ≤ R.cells) (hs : ks + ms ≤ R.slots) (kk : PW g l R μ F (pc + 3) lv (r.toList ++ st) S' (kc + mc) (ks + ms)) : PW g l R μ F pc lv st0 S kc ks := by
  subst hst0
  intro p e s m args below meth c H locs ls C hR hS hl
  obtain ⟨⟨k1, k2, k3, k4⟩, k5⟩ := hM
  refine PW.back C hS hl (As := (As.map (ren g)).toArray) (va_runS (As := As.map (ren g)) ⟨C.1, C.2.1, C.2.2.2.1, C.2.2.2.2.1, C.2.2.2.2.2.1⟩ h
    (va_cwS n C.2.2.2.2.2.1 (ws_in k1 (by
      intro w hw
      simp only [List.mem_cons, List.not_mem_nil, or_false] at hw
      rcases hw with rfl | rfl | rfl
      · exact hlk
      · exact k5
      · exact k2)) rfl rfl rfl ⟨k4.1, k4.2.1, k4.2.2⟩ ⟨hf, by show 8 + (μc.2.2.1 + 11) + 64 * d ≤ R.locals; omega⟩)
    ⟨blind g _ S, preOf C hR hS _⟩ rfl (by simpa using hn) hl.1 ?_ (lv_room (by rw [cats]; exact hst)) hd ⟨hc, hs⟩) kk
  show (As.reverse ++ st).map (ren g) = _
  rw [List.map_append, List.map_reverse]
theorem PW.callI {μc : pM} {n idx d mc ms b : Nat} {r : Option Value} {st0 : List Value} (As : List Value) (hd : decode μ.2.1 pc = .ok (.invokespecial idx, 3)) (h : PM g l d μc (.ref b :: As) S r S' mc ms) (hM : MIN μc n) (hlk : Cond.methodLink μ.1.cls idx μc.1 ∈ TB) (hst0 : As.reverse ++ .ref b :: st = st0) (hn : As.length = n) (hst : (st.map fun v => v.category).sum ≤ 8)
    (hf : d + 1 ≤ R.frames) (hlo : 64 * (d + 1) ≤ R.locals) (hc : kc + mc ≤ R.cells) (hs : ks + ms ≤ R.slots) (kk : PW g l R μ F (pc + 3) lv (r.toList ++ st) S' (kc + mc) (ks + ms)) : PW g l R μ F pc lv st0 S kc ks := by
  subst hst0
  intro p e s m args below meth c H locs ls C hR hS hl
  obtain ⟨⟨k1, k2, k3, k4⟩, k5, k6, k7⟩ := hM
  have hts := C.2.2.2.2.2.1
  refine PW.back C hS hl (As := ((Value.ref b :: As).map (ren g)).toArray) (va_runI (As := As.map (ren g)) (b := gz g + b) ⟨C.1, C.2.1, C.2.2.2.1, C.2.2.2.2.1, hts⟩ h
    (cwI n hts (ws_in k1 (hd := []) (fun w hw => by cases hw)) (by show wk μc :: TB = _; rw [wk, k7]) rfl rfl (hts _ k2) (hts _ hlk) (hts _ k5) k6 ⟨k4.1, k4.2.1, k4.2.2⟩ ⟨hf, by show 8 + (μc.2.2.1 + 11) + 64 * d ≤ R.locals; omega⟩)
    ⟨blind g _ S, preOf C hR hS _⟩ rfl (by simpa using hn) hl.1 ?_ (lv_room (by rw [cats]; exact hst)) hd ⟨hc, hs⟩) kk
  show (As.reverse ++ Value.ref b :: st).map (ren g) = _
  rw [List.map_append, List.map_reverse]
  rfl
/-- nest mates -/
theorem PW.callSN {μc : pM} {n idx d mc ms : Nat} {host : String} {r : Option Value} {st0 : List Value} (As : List Value) (hd : decode μ.2.1 pc = .ok (.invokestatic idx, 3)) (h : PM g l d μc As S r S' mc ms) (hM : MST μc n) (hlk : (μ.1.cls, idx, μc.1, host) ∈ NWL) (hst0 : As.reverse ++ st = st0) (hn : As.length = n) (hst : (st.map fun v => v.category).sum ≤ 8)
    (hf : d + 1 ≤ R.frames) (hlo : 64 * (d + 1) ≤ R.locals) (hc : kc + mc ≤ R.cells) (hs : ks + ms ≤ R.slots) (kk : PW g l R μ F (pc + 3) lv (r.toList ++ st) S' (kc + mc) (ks + ms)) : PW g l R μ F pc lv st0 S kc ks := by
  subst hst0
  intro p e s m args below meth c H locs ls C hR hS hl
  obtain ⟨⟨k1, k2, k3, k4⟩, k5⟩ := hM
  have hts := C.2.2.2.2.2.1
  refine PW.back C hS hl (As := (As.map (ren g)).toArray) (va_runSN (As := As.map (ren g)) (host := host) ⟨C.1, C.2.1, C.2.2.2.1, C.2.2.2.2.1, hts⟩ h
    ⟨va_cnB n hts (ws_in k1 (hd := []) (fun w hw => by cases hw)) rfl rfl rfl (C.2.2.2.2.2.2.2.2.1.2.1 _ hlk) (hts _ k2) ⟨k4.1, k4.2.1, k4.2.2⟩ ⟨hf, by show 8 + (μc.2.2.1 + 11) + 64 * d ≤ R.locals; omega⟩, hts _ k5, trivial⟩
    ⟨blind g _ S, preOf C hR hS _⟩ rfl (by simpa using hn) hl.1 ?_ (lv_room (by rw [cats]; exact hst)) hd ⟨hc, hs⟩) kk
  show (As.reverse ++ st).map (ren g) = _
  rw [List.map_append, List.map_reverse]
theorem PW.callIN {μc : pM} {n idx d mc ms b : Nat} {host : String} {r : Option Value} {st0 : List Value} (As : List Value) (hd : decode μ.2.1 pc = .ok (.invokespecial idx, 3)) (h : PM g l d μc (.ref b :: As) S r S' mc ms) (hM : MIN μc n) (hlk : (μ.1.cls, idx, μc.1, host) ∈ NWL) (hst0 : As.reverse ++ .ref b :: st = st0) (hn : As.length = n) (hst : (st.map fun v => v.category).sum ≤ 8)
    (hf : d + 1 ≤ R.frames) (hlo : 64 * (d + 1) ≤ R.locals) (hc : kc + mc ≤ R.cells) (hs : ks + ms ≤ R.slots) (kk : PW g l R μ F (pc + 3) lv (r.toList ++ st) S' (kc + mc) (ks + ms)) : PW g l R μ F pc lv st0 S kc ks := by
  subst hst0
  intro p e s m args below meth c H locs ls C hR hS hl
  obtain ⟨⟨k1, k2, k3, k4⟩, k5, k6, k7⟩ := hM
  have hts := C.2.2.2.2.2.1
  have k1' : Cond.code μc.1 μc.2.1 μc.2.2.1 none ∈ TB := by rw [← k7]; exact k1
  refine PW.back C hS hl (As := ((Value.ref b :: As).map (ren g)).toArray) (va_runIN (As := As.map (ren g)) (b := gz g + b) (host := host) ⟨C.1, C.2.1, C.2.2.2.1, C.2.2.2.2.1, hts⟩ h
    ⟨va_cnB n hts (ws_in k1 (hd := []) (fun w hw => by cases hw)) (by show wk μc :: TB = _; rw [wk, k7]) rfl rfl (C.2.2.2.2.2.2.2.2.1.2.1 _ hlk) (hts _ k2) ⟨k4.1, k4.2.1, k4.2.2⟩ ⟨hf, by show 8 + (μc.2.2.1 + 11) + 64 * d ≤ R.locals; omega⟩, k6, hts _ k5⟩
    ⟨blind g _ S, preOf C hR hS _⟩ rfl (by simpa using hn) hl.1 ?_ (lv_room (by rw [cats]; exact hst)) hd ⟨hc, hs⟩) kk
  show (As.reverse ++ Value.ref b :: st).map (ren g) = _
  rw [List.map_append, List.map_reverse]
  rfl
/-- Math -/
theorem PW.mmax {idx : Nat} {x y : Int32} (hd : decode μ.2.1 pc = .ok (.invokestatic idx, 3)) (hlk : Cond.methodLink μ.1.cls idx Lib.Math.max.name ∈ TB) (h1 : Cond.static Lib.Math.max.name ∈ TB) (h2 : Cond.initialized "java/lang/Math" ∈ TB) (h3 : Cond.code Lib.Math.max.name Lib.Math.max.code 2 (some .int) ∈ TB) (hst : (st.map fun v => v.category).sum ≤ 8) (hf : 1 ≤ R.frames) (hlo : 64 ≤ R.locals) (hc : kc ≤ R.cells) (hs : ks ≤ R.slots)
    (kk : PW g l R μ F (pc + 3) lv (.int (if x < y then y else x) :: st) S kc ks) : PW g l R μ F pc lv (.int y :: .int x :: st) S kc ks := by
  intro p e s m args below meth c H locs ls C hR hS hl
  have hts := C.2.2.2.2.2.1
  exact va_mmax C.1 C.2.1 (C.2.2.2.1.trans hl.1.symm) C.2.2.2.2.1 (hts _ hlk) (hts _ h1) (hts _ h2) (hts _ h3) hf (by rw [cats]; omega) hc hs hd (kk p e s m args below meth c H locs ls C hR hS hl)
theorem PW.mmin {idx : Nat} {x y : Int32} (hd : decode μ.2.1 pc = .ok (.invokestatic idx, 3)) (hlk : Cond.methodLink μ.1.cls idx Lib.Math.min.name ∈ TB) (h1 : Cond.static Lib.Math.min.name ∈ TB) (h2 : Cond.initialized "java/lang/Math" ∈ TB) (h3 : Cond.code Lib.Math.min.name Lib.Math.min.code 2 (some .int) ∈ TB) (hst : (st.map fun v => v.category).sum ≤ 8) (hf : 1 ≤ R.frames) (hlo : 64 ≤ R.locals) (hc : kc ≤ R.cells) (hs : ks ≤ R.slots)
    (kk : PW g l R μ F (pc + 3) lv (.int (if y < x then y else x) :: st) S kc ks) : PW g l R μ F pc lv (.int y :: .int x :: st) S kc ks := by
  intro p e s m args below meth c H locs ls C hR hS hl
  have hts := C.2.2.2.2.2.1
  exact va_mmin C.1 C.2.1 (C.2.2.2.1.trans hl.1.symm) C.2.2.2.2.1 (hts _ hlk) (hts _ h1) (hts _ h2) (hts _ h3) hf (by rw [cats]; omega) hc hs hd (kk p e s m args below meth c H locs ls C hR hS hl)
theorem PW.mmaxl {idx : Nat} {x y : Int64} (hd : decode μ.2.1 pc = .ok (.invokestatic idx, 3)) (hlk : Cond.methodLink μ.1.cls idx Lib.MathLoose.max_long.x ∈ TB) (h1 : Cond.static Lib.MathLoose.max_long.x ∈ TB) (h2 : Cond.initialized "java/lang/Math" ∈ TB) (h3 : Cond.code Lib.MathLoose.max_long.x Lib.MathLoose.max_long.code 4 (some .long) ∈ TB) (hst : (st.map fun v => v.category).sum ≤ 8) (hf : 1 ≤ R.frames) (hlo : 64 ≤ R.locals) (hc : kc ≤ R.cells) (hs : ks ≤ R.slots)
    (kk : PW g l R μ F (pc + 3) lv (.long (if y < x then x else y) :: st) S kc ks) : PW g l R μ F pc lv (.long y :: .long x :: st) S kc ks := by
  intro p e s m args below meth c H locs ls C hR hS hl
  have hts := C.2.2.2.2.2.1
  exact va_mmax_long C.1 C.2.1 (C.2.2.2.1.trans hl.1.symm) C.2.2.2.2.1 (hts _ hlk) (hts _ h1) (hts _ h2) (hts _ h3) hf (by rw [cats]; omega) hc hs hd (kk p e s m args below meth c H locs ls C hR hS hl)
/-- the text constant and its bytes: .float 1, .float 2 -/
theorem PW.ldcS (hd : decode μ.2.1 pc = .ok (.ldc 91, 2)) (ho : μ.1.cls = "HullTank$LawReader") (kk : PW g l R μ F (pc + 2) lv (.float 1 :: st) S kc ks) : PW g l R μ F pc lv st S kc ks := by
  intro p e s m args below meth c H locs ls C hR hS hl
  have hown := C.2.2.2.2.1
  rw [ho] at hown
  exact va_ldcS C.1 C.2.1 hown C.2.2.2.2.2.2.2.2.1.2.2.2.2 hd (kk p e s m args below meth c H locs ls C hR hS hl)
theorem PW.strCoder {idx : Nat} (hd : decode μ.2.1 pc = .ok (.getfield idx, 3)) (hf : Cond.fieldLink μ.1.cls idx "java/lang/String" "coder" "B" ∈ TB) (kk : PW g l R μ F (pc + 3) lv (.int 0 :: st) S kc ks) : PW g l R μ F pc lv (.float 1 :: st) S kc ks := by
  intro p e s m args below meth c H locs ls C hR hS hl
  exact vk_getf C.1 C.2.1 (C.2.2.2.2.2.2.2.2.2.2.2.2.1.1 0 (by decide)).2.1 hS C.2.2.2.2.1 (C.2.2.2.2.2.1 _ hf) (fun _ h => h) hd (kk p e s m args below meth c H locs ls C hR hS hl)
theorem PW.strValue {idx : Nat} (hd : decode μ.2.1 pc = .ok (.getfield idx, 3)) (hf : Cond.fieldLink μ.1.cls idx "java/lang/String" "value" "[B" ∈ TB) (kk : PW g l R μ F (pc + 3) lv (.float 2 :: st) S kc ks) : PW g l R μ F pc lv (.float 1 :: st) S kc ks := by
  intro p e s m args below meth c H locs ls C hR hS hl
  exact vk_getf C.1 C.2.1 (C.2.2.2.2.2.2.2.2.2.2.2.2.1.1 0 (by decide)).2.2.1 hS C.2.2.2.2.1 (C.2.2.2.2.2.1 _ hf) (fun _ h => h) hd (kk p e s m args below meth c H locs ls C hR hS hl)
theorem PW.strByte {i v : Int32} (hd : decode μ.2.1 pc = .ok (.baload, 1)) (hin : vp_in i 10) (hv : (strB.getD 0 []).getD i.toNatClampNeg 0 = v) (kk : PW g l R μ F (pc + 1) lv (.int v :: st) S kc ks) : PW g l R μ F pc lv (.int i :: .float 2 :: st) S kc ks := by
  subst hv
  intro p e s m args below meth c H locs ls C hR hS hl
  exact va_tb C.1 C.2.1 (C.2.2.2.2.2.2.2.2.2.2.2.2.1.1 0 (by decide)).2.2.2 hS hin rfl hd (kk p e s m args below meth c H locs ls C hR hS hl)
theorem PW.strLen (hd : decode μ.2.1 pc = .ok (.arraylength, 1)) (kk : PW g l R μ F (pc + 1) lv (.int 10 :: st) S kc ks) : PW g l R μ F pc lv (.float 2 :: st) S kc ks := by
  intro p e s m args below meth c H locs ls C hR hS hl
  exact va_tlen C.1 C.2.1 (C.2.2.2.2.2.2.2.2.2.2.2.2.1.1 0 (by decide)).2.2.2 hS rfl hd (kk p e s m args below meth c H locs ls C hR hS hl)
theorem PW.compact {idx : Nat} (hd : decode μ.2.1 pc = .ok (.getstatic idx, 3)) (hf : Cond.fieldLink μ.1.cls idx "java/lang/String" "COMPACT_STRINGS" "Z" ∈ TB) (kk : PW g l R μ F (pc + 3) lv (.int 1 :: st) S kc ks) : PW g l R μ F pc lv st S kc ks := by
  intro p e s m args below meth c H locs ls C hR hS hl
  exact va_gets C.1 C.2.1 C.2.2.2.2.2.2.2.2.2.2.2.2.2 hS C.2.2.2.2.1 (C.2.2.2.2.2.1 _ hf) (fun _ h => h) hd (kk p e s m args below meth c H locs ls C hR hS hl)
theorem PW.callStr {μc : pM} {n idx d mc ms : Nat} {r : Option Value} {st0 : List Value} (As : List Value) (hd : decode μ.2.1 pc = .ok (.invokevirtual idx, 3)) (h : PM g l d μc (.float 1 :: As) S r S' mc ms) (hM : MVI μc n) (hlk : Cond.methodLink μ.1.cls idx μc.1 ∈ TB) (hcl : μc.1.cls = "java/lang/String") (hst0 : As.reverse ++ .float 1 :: st = st0) (hn : As.length = n) (hst : (st.map fun v => v.category).sum ≤ 8)
    (hf : d + 1 ≤ R.frames) (hlo : 64 * (d + 1) ≤ R.locals) (hc : kc + mc ≤ R.cells) (hs : ks + ms ≤ R.slots) (kk : PW g l R μ F (pc + 3) lv (r.toList ++ st) S' (kc + mc) (ks + ms)) : PW g l R μ F pc lv st0 S kc ks := by
  subst hst0
  intro p e s m args below meth c H locs ls C hR hS hl
  obtain ⟨⟨k1, k2, k3, k4⟩, k5, k6⟩ := hM
  obtain ⟨cell, g1, g2, g3⟩ := vk_recv C.2.2.2.2.2.2.2.2.2.2.2.2.1 (by decide : 0 < 1) hS
  refine PW.back C hS hl (As := ((Value.float 1 :: As).map (ren g)).toArray) (va_runV (As := As.map (ren g)) (b := gs g) ⟨C.1, C.2.1, C.2.2.2.1, C.2.2.2.2.1, C.2.2.2.2.2.1⟩ h
    (cwV n C.2.2.2.2.2.1 (ws_in k1 (by
      intro w hw
      simp only [List.mem_cons, List.not_mem_nil, or_false] at hw
      rcases hw with rfl | rfl | rfl | rfl
      · exact hlk
      · exact k5
      · exact k6
      · exact k2)) rfl rfl rfl ⟨rfl, k4.1, k4.2.1, k4.2.2⟩ ⟨hf, by show 8 + (μc.2.2.1 + 11) + 64 * d ≤ R.locals; omega⟩)
    ⟨blind g _ S, ⟨cell, g1, g2, by rw [hcl]; exact g3⟩, preOf C hR hS _⟩ rfl (by simpa using hn) hl.1 ?_ (lv_room (by rw [cats]; exact hst)) hd ⟨hc, hs⟩) kk
  show (As.reverse ++ Value.float 1 :: st).map (ren g) = _
  rw [List.map_append, List.map_reverse]
  rfl
/-- ends -/
theorem PW.iret {d mc ms : Nat} {v : Int32} {ty : FieldType} (hd : decode μ.2.1 pc = .ok (.ireturn, 1)) (hr : μ.2.2.2 = some ty) (hn : narrow ty (.int v) = .int v) (hc : kc ≤ mc) (hs : ks ≤ ms) : PW g l (pRoom d mc ms) μ (pE g (some (.int v)) S mc ms) pc lv [.int v] S kc ks := by
  intro p e s m args below meth c H locs ls C hR hS hl
  exact W.widen hc hs (W.zret (ty := ty) C.1 C.2.1 (C.2.2.1.trans hr) hn (fun t ht _ => ⟨rfl, by rw [ht]; exact hR, hS.F ht⟩) hS.2.2 hd C.2.2.2.2.2.2.1)
theorem PW.lret {d mc ms : Nat} {v : Int64} (hd : decode μ.2.1 pc = .ok (.lreturn, 1)) (hr : μ.2.2.2 = some .long) (hc : kc ≤ mc) (hs : ks ≤ ms) : PW g l (pRoom d mc ms) μ (pE g (some (.long v)) S mc ms) pc lv [.long v] S kc ks := by
  intro p e s m args below meth c H locs ls C hR hS hl
  exact W.widen hc hs (W.lret C.1 C.2.1 (C.2.2.1.trans hr) (fun t ht _ => ⟨rfl, by rw [ht]; exact hR, hS.F ht⟩) hS.2.2 hd C.2.2.2.2.2.2.1)
theorem PW.vret {d mc ms : Nat} (hd : decode μ.2.1 pc = .ok (.return_, 1)) (hr : μ.2.2.2 = none) (hc : kc ≤ mc) (hs : ks ≤ ms) : PW g l (pRoom d mc ms) μ (pE g none S mc ms) pc lv [] S kc ks := by
  intro p e s m args below meth c H locs ls C hR hS hl
  exact W.widen hc hs (W.vret C.1 C.2.1 (C.2.2.1.trans hr) (fun t ht _ => ⟨rfl, by rw [ht]; exact hR, hS.F ht⟩) hS.2.2 hd C.2.2.2.2.2.2.1)
theorem PW.aret {d mc ms : Nat} {v : Value} {rt : FieldType} (hd : decode μ.2.1 pc = .ok (.areturn, 1)) (hr : μ.2.2.2 = some rt) (hrt : (∃ n, rt = .object n) ∨ ∃ t, rt = .array t) (hv : isA v = true) (hc : kc ≤ mc) (hs : ks ≤ ms) : PW g l (pRoom d mc ms) μ (pE g (some v) S mc ms) pc lv [v] S kc ks := by
  intro p e s m args below meth c H locs ls C hR hS hl
  refine W.widen hc hs (W.aret (v := ren g v) C.1 C.2.1 (C.2.2.1.trans hr) hrt ?_ (fun t ht _ => ⟨rfl, by rw [ht]; exact hR, hS.F ht⟩) hS.2.2 hd C.2.2.2.2.2.2.1)
  cases v with
  | ref x => exact Or.inr ⟨_, rfl⟩
  | float x => exact Or.inr ⟨_, rfl⟩
  | null => exact Or.inl rfl
  | int x => cases hv
  | long x => cases hv
  | double x => cases hv
  | retAddr x => cases hv
/-- switches -/
theorem PW.tswD {dflt lo hi : Int} {offs : Array Int} {len tgt : Nat} {x : Int32} (hd : decode μ.2.1 pc = .ok (.tableswitch dflt lo hi offs, len)) (h : x.toInt < lo ∨ hi < x.toInt) (ht : (pc : Int) + dflt = (tgt : Int)) (kk : PW g l R μ F tgt lv st S kc ks) : PW g l R μ F pc lv (.int x :: st) S kc ks :=
  PW_st kk fun _ _ _ _ _ _ _ _ _ _ _ C hl w => lv_tableOut C.1 C.2.1 hd h ht w
theorem PW.tswI {dflt lo hi off : Int} {offs : Array Int} {len tgt : Nat} {x : Int32} (hd : decode μ.2.1 pc = .ok (.tableswitch dflt lo hi offs, len)) (h1 : ¬ x.toInt < lo) (h2 : ¬ hi < x.toInt) (ho : offs[(x.toInt - lo).toNat]? = some off) (ht : (pc : Int) + off = (tgt : Int)) (kk : PW g l R μ F tgt lv st S kc ks) : PW g l R μ F pc lv (.int x :: st) S kc ks :=
  PW_st kk fun _ _ _ _ _ _ _ _ _ _ _ C hl w => lv_tableIn C.1 C.2.1 hd h1 h2 ho ht w
theorem PW.lsw {dflt off : Int} {ps : Array (Int × Int)} {len tgt : Nat} {x : Int32} (hd : decode μ.2.1 pc = .ok (.lookupswitch dflt ps, len)) (hp : (ps.toList.zip (ps.toList.drop 1)).all (fun (a, next) => a.1 < next.1) = true) (ho : Op.lookupswitch.offset ps.toList dflt x.toInt = off) (ht : (pc : Int) + off = (tgt : Int)) (kk : PW g l R μ F tgt lv st S kc ks) : PW g l R μ F pc lv (.int x :: st) S kc ks :=
  PW_st kk fun _ _ _ _ _ _ _ _ _ _ _ C hl w => lv_lookup C.1 C.2.1 hd hp ho ht w
end PS5
