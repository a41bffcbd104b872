/-! the pure machine: a state of cells by number, and what the machine does with it (PW: from here on the frame comes to its end; PM: a method's contract with one answer) -/
abbrev pK : Type := Nat ⊕ (Nat × Nat)
abbrev pS : Type := List pK × (Nat → Nat → Int32) × (Nat → Nat → Int64) × (Nat → Nat → Option Nat)
abbrev pG : Type := Nat × (Nat × Nat × (Nat → Int32)) × (Nat × Nat) × va_G × (Nat → ClassId)
def gz (g : pG) : Nat := g.1
def gb (g : pG) : Nat := g.2.1.1
def gL (g : pG) : Nat := g.2.1.2.1
def gx (g : pG) : Nat → Int32 := g.2.1.2.2
def gs (g : pG) : Nat := g.2.2.1.1
def gv (g : pG) : Nat := g.2.2.1.2
def gD (g : pG) : va_G := g.2.2.2.1
def gA (g : pG) : Nat → ClassId := g.2.2.2.2
def kR : Nat → String := fun ci => match ci with
  | 0 => RX0 | 1 => RX1 | 2 => RX2 | 3 => RX3 | 4 => RX4 | 5 => RX5 | 6 => RX6 | 7 => RX7 | 8 => RX8 | 9 => RX9 | 10 => RX10 | 11 => RX11 | _ => RX12
def kF : Nat → u_T := fun ci => match ci with
  | 0 => TX0 | 1 => TX1 | 2 => TX2 | 3 => TX3 | 4 => TX4 | 5 => TX5 | 6 => TX6 | 7 => TX7 | 8 => TX8 | 9 => TX9 | 10 => TX10 | 11 => TX11 | _ => TX12
def kT : Nat → Nat → FieldType := fun ci => match ci with
  | 0 => tyX0 | 1 => tyX1 | 2 => tyX2 | 3 => tyX3 | 4 => tyX4 | 5 => tyX5 | 6 => tyX6 | 7 => tyX7 | 8 => tyX8 | 9 => tyX9 | 10 => tyX10 | 11 => tyX11 | _ => tyX12
def kN : Nat → Nat := fun ci => match ci with
  | 0 => 6 | 1 => 11 | 2 => 5 | 3 => 13 | 4 => 2 | 5 => 8 | 6 => 4 | 7 => 9 | 8 => 16 | 9 => 6 | 10 => 6 | 11 => 12 | _ => 77
def kl : List vw_C := (List.range 13).map fun ci => (kR ci, kF ci, kN ci)
theorem kl_at {ci : Nat} (h : ci < 13) : kl[ci]? = some (kR ci, kF ci, kN ci) := by
  unfold kl
  rw [List.getElem?_map, List.getElem?_range h]
  rfl
def aT : Nat → FieldType := fun t => match t with
  | 0 => .int | 1 => .long | 2 => .byte | 3 => .boolean | 4 => .object "HullTank$Strain" | _ => .object "HullTank$Program"
def kty (g : pG) : List (ClassId × FieldType) := (List.range 6).map fun t => (gA g t, aT t)
theorem kty_at (g : pG) {t : Nat} (h : t < 6) : (kty g)[t]? = some (gA g t, aT t) := by
  unfold kty
  rw [List.getElem?_map, List.getElem?_range h]
  rfl
def ren (g : pG) (v : Value) : Value := match v with
  | .ref i => .ref (gz g + i)
  | .float u => .ref (if u = 0 then gb g else if u = 1 then gs g else gv g)
  | v => v
def rq (g : pG) (q : Nat × Value) : Nat × Value := (q.1, ren g q.2)
theorem ren_cat (g : pG) (v : Value) : (ren g v).category = v.category := by cases v <;> rfl
theorem ren_rf (g : pG) (r : Option Nat) : ren g (va_rf r) = va_rf (r.map (gz g + ·)) := by cases r <;> rfl
def fv (S : pS) (i : Nat) (ty : FieldType) (k : Nat) : Value := match ty with
  | .long => .long (S.2.2.1 i k)
  | .object _ => va_rf (S.2.2.2 i k)
  | .array _ => va_rf (S.2.2.2 i k)
  | _ => .int (S.2.1 i k)
def aE (g : pG) (S : pS) (i t : Nat) : (Nat → Int32) ⊕ (Nat → Int64) ⊕ (Nat → UInt32) ⊕ (Nat → UInt64) ⊕ (Nat → Option Nat) := match t with
  | 0 => .inl (S.2.1 i)
  | 1 => .inr (.inl (S.2.2.1 i))
  | 2 => .inl (S.2.1 i)
  | 3 => .inl (S.2.1 i)
  | _ => .inr (.inr (.inr (.inr fun j => (S.2.2.2 i j).map (gz g + ·))))
def cE (g : pG) (S : pS) (i : Nat) (k : pK) : va_E := match k with
  | .inl ci => .inr (ci, (List.range (kN ci)).map fun f => ren g (fv S i (kT ci f) f))
  | .inr (t, n) => .inl (gA g t, n, aE g S i t)
/-- the machine's heap holds the state -/
def RH (g : pG) (S : pS) (H : Heap) : Prop := H.size = gz g + S.1.length ∧ ∀ (i : Nat) (k : pK), S.1[i]? = some k → va_at (gD g) kl (gz g + i, cE g S i k) H
theorem one_P {D : va_G} {cl : List vw_C} {q : Nat × va_E} {H : Heap} (h : va_at D cl q H) : va_P D cl [q] H := by
  intro k x hk
  cases k with
  | zero => cases hk; exact h
  | succ k => simp at hk
def TB : List Cond := lw_tbl.filter goodWord
theorem TB_good {w : Cond} (h : w ∈ TB) : (w.onTables && w.keeps) = true ∨ ∃ ty, w = .arrayClass ty := good_of_word (List.mem_filter.mp h).2
theorem TB_in {ws : List Cond} (h : ∀ w ∈ ws, w ∈ TB) : GoodIn TB ws := fun w hw => ⟨h w hw, TB_good (h w hw)⟩
theorem TB_of {w : Cond} {i : Nat} (h : lw_tbl[i]? = some w) (hg : goodWord w = true) : w ∈ TB := List.mem_filter.mpr ⟨List.mem_of_getElem? h, hg⟩
def KP (g : pG) (U : State) : Prop := va_K (gD g) kl (kty g) U ∧ (∀ q ∈ NWL, va_Nw (.methodLinkNest q.1 q.2.1 q.2.2.1 q.2.2.2) U) ∧ va_AO "HullTank$Strain" U ∧ va_AO "HullTank$Program" U ∧ vk_R "HullTank$LawReader" 91 "prtkcnqhlw" (gs g) U
abbrev gF (g : pG) : Nat → Prop := fun q => gz g ≤ q
abbrev strB : List (List Int32) := [[112, 114, 116, 107, 99, 110, 113, 104, 108, 119]]
def OP (g : pG) (U : State) (H : Heap) : Prop := gz g ≤ H.size ∧ gb g < gz g ∧ va_X (gb g) (gL g) (gx g) U H ∧ vk_S 1 [10] strB (fun _ => gs g) (fun _ => gv g) (gF g) U H ∧ va_Z "java/lang/String" "COMPACT_STRINGS" "Z" (.int 1) (gF g) U H
theorem KP.warm {g : pG} {s U : State} (h : KP g s) (hW : s.WarmedH U.vm) : KP g U :=
  ⟨va_K.moved hW.alike h.1, fun q hq => va_Nw.warmM hW (h.2.1 q hq), va_AO.moved hW.alike h.2.2.1, va_AO.moved hW.alike h.2.2.2.1, vk_R.warm hW h.2.2.2.2⟩
theorem KP.same {g : pG} {s U : State} (h : KP g s) (hv : s.vm = U.vm) : KP g U :=
  have ha : s.vm.Alike U.vm := hv ▸ Vm.Alike.refl s.vm
  ⟨va_K.moved ha h.1, fun q hq => va_Nw.same rfl hv (h.2.1 q hq), va_AO.moved ha h.2.2.1, va_AO.moved ha h.2.2.2.1, vk_R.same hv.symm h.2.2.2.2⟩
theorem OP.moved {g : pG} {s U : State} {H H1 : Heap} {locs : List Loc} (h : OP g s H) (ha : s.vm.Alike U.vm) (hS : va_S (gF g) H H1 locs) : OP g U H1 :=
  have hb : gb g < H.size := Nat.lt_of_lt_of_le h.2.1 h.1
  ⟨Nat.le_trans h.1 hS.1, h.2.1, va_X.moved ha (h.2.2.1.kept (hS.2.1 _ hb (Nat.not_le.mpr h.2.1))), vk_S.moved ha (h.2.2.2.1.kept hS.2.1), va_Z.moved ha (h.2.2.2.2.kept hS.2.1)⟩
abbrev pM : Type := MethodName × ByteArray × Nat × Option FieldType
def wk (μ : pM) : Cond := .code μ.1 μ.2.1 μ.2.2.1 μ.2.2.2
def CX (g : pG) (μ : pM) (p : Program) (s : State) (m : MethodId) (args : Array Value) (meth : Method) (c : Code) : Prop :=
  p.tables.exec = Jvm.exec ∧ c.code = μ.2.1 ∧ meth.sig.returnType = μ.2.2.2 ∧ c.maxLocals = μ.2.2.1 ∧ s.vm.findClass μ.1.cls = some m.cls ∧ (∀ w ∈ TB, w.before args s = true) ∧ meth.locks = false ∧ meth.name = μ.1.name ∧ KP g s ∧ OP g s s.heap
abbrev pF : Type := List Frame → Array Value → State → State → Prop
def PW (g : pG) (l : Launch) (R : Room) (μ : pM) (F : pF) (pc : Nat) (lv : List (Nat × Value)) (st : List Value) (S : pS) (kc ks : Nat) : Prop :=
  ∀ (p : Program) (e : Env) (s : State) (m : MethodId) (args : Array Value) (below : List Frame) (meth : Method) (c : Code) (H : Heap) (locs : List Loc) (ls : Array Slot), CX g μ p s m args meth c → RH g S H → va_S (gF g) s.heap H locs → lv_has ls μ.2.2.1 (lv.map (rq g)) → W p l e R s m args below meth c H locs kc ks (F below args s) (F0 m pc ls (st.map (ren g)))
def pQ (g : pG) (r : Option Value) (S' : pS) : Array Value → State → Outcome → State → Prop := fun _ st oc t => oc = .returned (r.map (ren g)) ∧ RH g S' t.heap ∧ va_F (gF g) st t
def pB (g : pG) (S : pS) : State → Prop := fun U => RH g S U.heap ∧ KP g U ∧ OP g U U.heap
abbrev pRoom (d mc ms : Nat) : Room := { frames := d, cells := mc, slots := ms, locals := 64 * d }
/-- the method's contract: from the state S with these arguments, that answer, the state S' -/
def PM (g : pG) (l : Launch) (d : Nat) (μ : pM) (vs : List Value) (S : pS) (r : Option Value) (S' : pS) (mc ms : Nat) : Prop :=
  Met l μ.1 (wk μ :: TB) (pRoom d mc ms) (va_Pc (vs.map (ren g)) (pB g S)) (pQ g r S') mc ms (gF g)
def pE (g : pG) (r : Option Value) (S' : pS) (mc ms : Nat) : pF := fun below args s => MQ below (pQ g r S') args s mc ms (gF g)
theorem lv_args_ren (g : pG) : ∀ (vs : List Value) (i : Nat), lv_args i (vs.map (ren g)) = (lv_args i vs).map (rq g)
  | [], _ => rfl
  | v :: vs, i => by
    show (i, ren g v) :: lv_args (if (ren g v).category = 2 then i + 2 else i + 1) (vs.map (ren g)) = (i, ren g v) :: (lv_args (if v.category = 2 then i + 2 else i + 1) vs).map (rq g)
    rw [ren_cat, lv_args_ren g vs]
theorem lg_sl_ren (g : pG) (vs : List Value) : (lg_sl (vs.map (ren g))).length = (lg_sl vs).length := by
  induction vs with
  | nil => rfl
  | cons v vs ih =>
    simp only [lg_sl, List.map_cons, List.flatMap_cons, List.length_append] at ih ⊢
    rw [ren_cat]
    split <;> simp [ih]
theorem blind (g : pG) (av : List Value) (S : pS) : FrameBlind (va_Pc av (pB g S)) := fun a U f mk h => by
  obtain ⟨h1, h2, h3, h4⟩ := h
  exact ⟨h1, h2, KP.same (U := U.calling f mk a) h3 rfl, OP.moved (U := U.calling f mk a) (locs := []) h4 (Vm.Alike.refl U.vm) va_S.rf⟩
theorem PM.of {g : pG} {l : Launch} {d : Nat} {μ : pM} {vs : List Value} {S S' : pS} {r : Option Value} {mc ms : Nat} (hy : plainName μ.1.cls = true) (hlen : (lg_sl vs).length ≤ μ.2.2.1)
    (body : PW g l (pRoom d mc ms) μ (pE g r S' mc ms) 0 (lv_args 0 vs) [] S 0 0) : PM g l d μ vs S r S' mc ms := by
  refine Met.ofW (cc := μ.2.1) (maxL := μ.2.2.1) (ret := μ.2.2.2) hy rfl ?_
  intro p e s m args below meth c s₁ B hml hv
  obtain ⟨rfl, hRH, hK, hO⟩ := hv
  have hts := atoms_spec (ws := wk μ :: TB) B.pre
  have hown : s.vm.findClass μ.1.cls = some m.cls := findClass_of_methodNamed B.named
  have hl := lv_entry (vs.map (ren g)) (n := μ.2.2.1) (by rw [lg_sl_ren]; exact hlen)
  rw [lv_args_ren] at hl
  rw [lg_entry_eq]
  exact body p e s m _ below meth c s.heap [] _ ⟨B.exec, B.bytes, B.returns, hml, hown, fun w hw => hts w (List.mem_cons_of_mem _ hw), B.notSynchronized, (name_of_methodNamed B.named B.method).1, hK, hO⟩ hRH va_S.rf hl
/-- what the tables say of a method, of a field's link -/
def MB (μ : pM) (n : Nat) : Prop := wk μ ∈ TB ∧ Cond.initialized μ.1.cls ∈ TB ∧ μ.2.2.1 ≤ 45 ∧ (μ.1.cls ≠ "java/lang/invoke/MethodHandle" ∧ μ.1.cls ≠ "java/lang/invoke/VarHandle" ∧ (parseMethodDescriptor μ.1.desc).map (fun d => d.parameters.length) = some n)
def MVI (μ : pM) (n : Nat) : Prop := MB μ n ∧ Cond.instanceMethod μ.1 ∈ TB ∧ Cond.selects μ.1.cls μ.1 μ.1 ∈ TB
def MST (μ : pM) (n : Nat) : Prop := MB μ n ∧ Cond.static μ.1 ∈ TB
def MIN (μ : pM) (n : Nat) : Prop := MB μ n ∧ Cond.instanceMethod μ.1 ∈ TB ∧ μ.1.name = "<init>" ∧ μ.2.2.2 = none
def FLD (own : String) (idx ci k : Nat) : Prop := ci < 13 ∧ k < kN ci ∧ Cond.fieldLink own idx (kF ci k).1 (kF ci k).2.1 (kF ci k).2.2.1 ∈ TB
theorem TB_places {ws : List Cond} (ps : List Nat) (hp : ws = ps.filterMap (fun i => lw_tbl[i]?)) (hg : ws.all goodWord = true) : ∀ w ∈ ws, w ∈ TB := by
  intro w hw
  have h1 := List.all_eq_true.mp hg w hw
  rw [hp] at hw
  obtain ⟨i, -, hi⟩ := List.mem_filterMap.mp hw
  exact TB_of hi h1
