section PS4
variable {g : pG} {l : Launch} {R : Room} {μ : pM} {F : pF} {pc : Nat} {lv : List (Nat × Value)} {st : List Value} {S S' : pS} {kc ks : Nat}
def zr {α : Type} (f : Nat → Nat → α) (o : Nat) (v : α) : Nat → Nat → α := fun a j => if a = o then v else f a j
theorem zr_ne {α : Type} {f : Nat → Nat → α} {o : Nat} {v : α} {a : Nat} (h : a ≠ o) : zr f o v a = f a := by
  funext j
  unfold zr
  rw [if_neg h]
theorem zr_eq {α : Type} {f : Nat → Nat → α} {o : Nat} {v : α} : zr f o v o = fun _ => v := by
  funext j
  unfold zr
  rw [if_pos rfl]
/-- a new cell -/
def sN (S : pS) (k : pK) : pS := (S.1 ++ [k], zr S.2.1 S.1.length 0, zr S.2.2.1 S.1.length 0, zr S.2.2.2 S.1.length none)
theorem RH.push {H H1 : Heap} {k : pK} (h : RH g S H) (z : H1.size = H.size + 1) (oq : ∀ q, q < H.size → H1[q]? = H[q]?) (e : va_at (gD g) kl (gz g + S.1.length, cE g (sN S k) S.1.length k) H1) : RH g (sN S k) H1 := by
  refine ⟨by rw [z, h.1]; simp [sN, Nat.add_assoc], fun i x hi => ?_⟩
  by_cases hl : i < S.1.length
  · have hi' : S.1[i]? = some x := by
      have : (S.1 ++ [k])[i]? = some x := hi
      rwa [List.getElem?_append_left hl] at this
    have hne : i ≠ S.1.length := Nat.ne_of_lt hl
    rw [cE_congr (S := S) (S' := sN S k) (zr_ne hne) (zr_ne hne) (zr_ne hne)]
    exact (h.2 i x hi').kept (oq _ (h.lt hi'))
  · have hi' : (S.1 ++ [k])[i]? = some x := hi
    rw [List.getElem?_append_right (by omega)] at hi'
    have hz : i - S.1.length < 1 := (List.getElem?_eq_some_iff.mp hi').1
    have hie : i = S.1.length := by omega
    subst hie
    rw [Nat.sub_self] at hi'
    cases hi'
    exact e
theorem va_S.push {A : Nat → Prop} {H0 H H1 : Heap} {locs : List Loc} (h : va_S A H0 H locs) (z : H1.size = H.size + 1) (oq : ∀ q, q < H.size → H1[q]? = H[q]?) : va_S A H0 H1 locs :=
  ⟨Nat.le_trans h.1 (by omega), fun x h1 h2 => (oq x (Nat.lt_of_lt_of_le h1 h.1)).trans (h.2.1 x h1 h2), h.2.2⟩
theorem fv_new {k : pK} {ty : FieldType} {f : Nat} (h : ty = .int ∨ ty = .boolean ∨ ty = .long ∨ (∃ n, ty = .object n) ∨ ∃ t, ty = .array t) : ren g (fv (sN S k) S.1.length ty f) = defaultValue ty := by
  rcases h with rfl | rfl | rfl | ⟨n, rfl⟩ | ⟨t, rfl⟩
  · show Value.int (zr S.2.1 S.1.length 0 S.1.length f) = .int 0
    rw [zr_eq]
  · show Value.int (zr S.2.1 S.1.length 0 S.1.length f) = .int 0
    rw [zr_eq]
  · show Value.long (zr S.2.2.1 S.1.length 0 S.1.length f) = .long 0
    rw [zr_eq]
  · show ren g (va_rf (zr S.2.2.2 S.1.length none S.1.length f)) = .null
    rw [zr_eq]
    rfl
  · show ren g (va_rf (zr S.2.2.2 S.1.length none S.1.length f)) = .null
    rw [zr_eq]
    rfl
theorem PW.newo {idx ci : Nat} (hd : decode μ.2.1 pc = .ok (.new idx, 3)) (hci : ci < 13) (hcl : Cond.classLink μ.1.cls idx (kR ci) ∈ TB) (hin : Cond.instantiable (kR ci) (kN ci) ∈ TB ∧ Cond.initialized (kR ci) ∈ TB) (hty : ∀ k, k < kN ci → (kT ci k = .int ∨ kT ci k = .boolean ∨ kT ci k = .long ∨ (∃ n, kT ci k = .object n) ∨ ∃ t, kT ci k = .array t)) (hc : kc + 1 ≤ R.cells) (hs : ks + kN ci ≤ R.slots)
    (kk : PW g l R μ F (pc + 3) lv (.ref S.1.length :: st) (sN S (.inl ci)) (kc + 1) (ks + kN ci)) : PW g l R μ F pc lv st S kc ks := by
  intro p e s m args below meth c H locs ls C hR hS hl
  have hts := C.2.2.2.2.2.1
  have hK := C.2.2.2.2.2.2.2.2.1.1
  have hKn := hK.1 ci _ (kl_at hci)
  refine W.newcK C.1 C.2.1 C.2.2.2.2.1 (hts _ hcl) (hts _ hin.1) (hts _ hin.2) rfl hd hc hs hKn.2.1 rfl fun H1 kC hkC e1 z1 o1 => ?_
  have hb := u_born (kT ci) hts (kI ci hci) hKn hkC e1 (kTy ci hci)
  have h := kk p e s m args below meth c H1 locs ls C (hR.push z1 o1 ⟨_, kl_at hci, ?_⟩) (hS.push z1 o1) hl
  · have hz : gz g + S.1.length = H.size := hR.1.symm
    rw [show ((Value.ref S.1.length :: st).map (ren g)) = Value.ref (gz g + S.1.length) :: st.map (ren g) from rfl, hz] at h
    exact h
  · rw [← hR.1]
    refine hb.to fun j hj => ?_
    show _ = ((List.range (kN ci)).map fun f => ren g (fv (sN S (.inl ci)) S.1.length (kT ci f) f)).getD j .null
    rw [List.getD_eq_getElem?_getD, fs_at hj, fv_new (hty j hj)]
    rfl
def aty : Nat → ArrayType := fun t => match t with
  | 0 => .int
  | 1 => .long
  | 2 => .byte
  | _ => .boolean
theorem PW.newa {t n : Nat} {x : Int32} (hd : decode μ.2.1 pc = .ok (.newarray (aty t), 2)) (ht : t < 4) (hcl : Cond.arrayClass (aT t) ∈ TB) (hx : ¬ x < 0) (hn : x.toNatClampNeg = n) (hb : n ≤ 100000) (hc : kc + 1 ≤ R.cells) (hs : ks + n ≤ R.slots)
    (kk : PW g l R μ F (pc + 2) lv (.ref S.1.length :: st) (sN S (.inr (t, n))) (kc + 1) (ks + n)) : PW g l R μ F pc lv (.int x :: st) S kc ks := by
  intro p e s m args below meth c H locs ls C hR hS hl
  have hts := C.2.2.2.2.2.1
  have hK := C.2.2.2.2.2.2.2.2.1.1
  have hat : newarray.typeOf (aty t) = aT t := by
    rcases t with _ | _ | _ | _ | t
    · rfl
    · rfl
    · rfl
    · rfl
    · omega
  refine va_newaK C.1 C.2.1 (by rw [hat]; exact hts _ hcl) rfl hd rfl hx hn ?_ hc hs rfl fun H1 cA e1 z1 o1 hAr hNm => ?_
  · rw [hat]
    rcases t with _ | _ | _ | _ | t
    · show n * 4 ≤ _; omega
    · show n * 8 ≤ _; omega
    · show n * 1 ≤ _; omega
    · show n * 1 ≤ _; omega
    · omega
  · have hra := (hK.2 t _ (kty_at g (by omega))).2
    have hcA : cA = gA g t := by
      rw [hat] at hNm
      rcases t with _ | _ | _ | _ | t
      · exact Option.some.inj (hNm.symm.trans hra)
      · exact Option.some.inj (hNm.symm.trans hra)
      · exact Option.some.inj (hNm.symm.trans hra)
      · exact Option.some.inj (hNm.symm.trans hra)
      · omega
    subst hcA
    have h := kk p e s m args below meth c H1 locs ls C (hR.push z1 o1 ?_) (hS.push z1 o1) hl
    · have hz : gz g + S.1.length = H.size := hR.1.symm
      rw [show ((Value.ref S.1.length :: st).map (ren g)) = Value.ref (gz g + S.1.length) :: st.map (ren g) from rfl, hz] at h
      exact h
    · rw [← hR.1]
      show H1[H.size]? = some (vp_cell (gA g t) (n, aE g (sN S (.inr (t, n))) S.1.length t))
      rw [e1, hat]
      rcases t with _ | _ | _ | _ | t
      · show _ = some (arrV _ n (fun j => .int (zr S.2.1 S.1.length 0 S.1.length j)))
        rw [zr_eq]
        rfl
      · show _ = some (arrV _ n (fun j => .long (zr S.2.2.1 S.1.length 0 S.1.length j)))
        rw [zr_eq]
        rfl
      · show _ = some (arrV _ n (fun j => .int (zr S.2.1 S.1.length 0 S.1.length j)))
        rw [zr_eq]
        rfl
      · show _ = some (arrV _ n (fun j => .int (zr S.2.1 S.1.length 0 S.1.length j)))
        rw [zr_eq]
        rfl
      · omega
theorem PW.anewa {idx t n : Nat} {C0 : String} {x : Int32} (hd : decode μ.2.1 pc = .ok (.anewarray idx, 3)) (ht : (t = 4 ∧ C0 = "HullTank$Strain") ∨ (t = 5 ∧ C0 = "HullTank$Program")) (hcl : Cond.classLink μ.1.cls idx C0 ∈ TB) (hx : ¬ x < 0) (hn : x.toNatClampNeg = n) (hb : n ≤ 100000) (hc : kc + 1 ≤ R.cells) (hs : ks + n ≤ R.slots)
    (kk : PW g l R μ F (pc + 3) lv (.ref S.1.length :: st) (sN S (.inr (t, n))) (kc + 1) (ks + n)) : PW g l R μ F pc lv (.int x :: st) S kc ks := by
  subst hn
  intro p e s m args below meth c H locs ls C hR hS hl
  have hts := C.2.2.2.2.2.1
  have hKP := C.2.2.2.2.2.2.2.2.1
  have htt : t < 6 := by rcases ht with ⟨rfl, -⟩ | ⟨rfl, -⟩ <;> decide
  have hnm : aT t = .object C0 := by rcases ht with ⟨rfl, rfl⟩ | ⟨rfl, rfl⟩ <;> rfl
  have hae : ∀ T : pS, ∀ a, aE g T a t = .inr (.inr (.inr (.inr fun j => (T.2.2.2 a j).map (gz g + ·)))) := by
    intro T a
    rcases ht with ⟨rfl, -⟩ | ⟨rfl, -⟩ <;> rfl
  have hao : va_AO C0 s := by
    rcases ht with ⟨-, rfl⟩ | ⟨-, rfl⟩
    · exact hKP.2.2.1
    · exact hKP.2.2.2.1
  refine W.anew C.1 C.2.1 C.2.2.2.2.1 (hts _ hcl) (va_AO.use hao) rfl hd rfl hx (by omega) hc hs fun cA kA comp f1 f2 f3 f4 => ?_
  have hra := (hKP.1.2 t _ (kty_at g htt)).2
  rw [hnm] at hra
  obtain ⟨kA', comp', r1, r2, r3, r4⟩ := hra
  have hcA : cA = gA g t := Option.some.inj (f1.symm.trans r4)
  subst hcA
  generalize hH1 : H.push ({ cls := gA g t, slots := Array.replicate x.toNatClampNeg .null, vm := .none } : Cell) = H1
  have z1 : H1.size = H.size + 1 := by rw [← hH1, Array.size_push]
  have e1 : H1[H.size]? = some (arrV (gA g t) x.toNatClampNeg (fun _ => .null)) := by rw [← hH1, Array.getElem?_push_size, ← arrV_new]
  have o1 : ∀ q, q < H.size → H1[q]? = H[q]? := by
    intro q hq
    rw [← hH1, Array.getElem?_push, if_neg (Nat.ne_of_lt hq)]
  have h := kk p e s m args below meth c H1 locs ls C (hR.push z1 o1 ?_) (hS.push z1 o1) hl
  · have hz : gz g + S.1.length = H.size := hR.1.symm
    rw [show ((Value.ref S.1.length :: st).map (ren g)) = Value.ref (gz g + S.1.length) :: st.map (ren g) from rfl, hz] at h
    exact h
  · rw [← hR.1]
    show H1[H.size]? = some (vp_cell (gA g t) (x.toNatClampNeg, aE g (sN S (.inr (t, x.toNatClampNeg))) S.1.length t))
    rw [hae, e1, vp_cell_q]
    show some (arrV (gA g t) x.toNatClampNeg (fun _ => .null)) = some (arrV _ _ (fun j => va_rf ((zr S.2.2.2 S.1.length none S.1.length j).map (gz g + ·))))
    rw [zr_eq]
    rfl
theorem PW.objInit {idx i : Nat} (hd : decode μ.2.1 pc = .ok (.invokespecial idx, 3)) (hl : Cond.methodLink μ.1.cls idx Lib.objectInit ∈ TB) (h1 : Cond.instanceMethod Lib.objectInit ∈ TB) (h2 : Cond.code Lib.objectInit ⟨#[0xb1]⟩ 1 none ∈ TB) (hst : (st.map fun v => v.category).sum ≤ 8) (hf : 1 ≤ R.frames) (hlo : 64 ≤ R.locals)
    (kk : PW g l R μ F (pc + 3) lv st S kc ks) : PW g l R μ F pc lv (.ref i :: st) S kc ks := by
  intro p e s m args below meth c H locs ls C hR hS hls
  have hts := C.2.2.2.2.2.1
  refine W.objInit C.1 C.2.1 C.2.2.2.2.1 (hts _ hl) (hts _ h1) (hts _ h2) rfl (hls.1.trans C.2.2.2.1.symm) rfl hd hf ?_ (kk p e s m args below meth c H locs ls C hR hS hls)
  have hsum : ((st.map (ren g)).map fun v => v.category).sum = (st.map fun v => v.category).sum := by
    rw [List.map_map]
    congr 1
    exact List.map_congr_left fun v _ => ren_cat g v
  show 2 * 0 + ((st.map (ren g)).map fun v => v.category).sum + 12 ≤ R.locals
  rw [hsum]
  omega
end PS4
