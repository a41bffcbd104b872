section PS2
variable {g : pG} {l : Launch} {R : Room} {μ : pM} {F : pF} {pc : Nat} {lv : List (Nat × Value)} {st : List Value} {S S' : pS} {kc ks : Nat}
theorem kI (ci : Nat) (h : ci < 13) : ∀ w ∈ u_ws (kR ci) (kF ci) (kN ci), w ∈ TB := by
  rcases ci with _ | _ | _ | _ | _ | _ | _ | _ | _ | _ | _ | _ | _ | ci
  · exact kI_0
  · exact kI_1
  · exact kI_2
  · exact kI_3
  · exact kI_4
  · exact kI_5
  · exact kI_6
  · exact kI_7
  · exact kI_8
  · exact kI_9
  · exact kI_10
  · exact kI_11
  · exact kI_12
  · omega
theorem kTy (ci : Nat) (h : ci < 13) : ∀ k, k < kN ci → parseFieldDescriptor (kF ci k).2.2.1 = some (kT ci k) := by
  rcases ci with _ | _ | _ | _ | _ | _ | _ | _ | _ | _ | _ | _ | _ | ci
  · exact tyX0_ok
  · exact tyX1_ok
  · exact tyX2_ok
  · exact tyX3_ok
  · exact tyX4_ok
  · exact tyX5_ok
  · exact tyX6_ok
  · exact tyX7_ok
  · exact tyX8_ok
  · exact tyX9_ok
  · exact tyX10_ok
  · exact tyX11_ok
  · exact tyX12_ok
  · omega
theorem kNm (ci : Nat) (h : ci < 13) : ∀ a, a < kN ci → ∀ b, b < kN ci → a ≠ b → (kF ci a).2.1 ≠ (kF ci b).2.1 := by
  rcases ci with _ | _ | _ | _ | _ | _ | _ | _ | _ | _ | _ | _ | _ | ci
  · exact nmX0
  · exact nmX1
  · exact nmX2
  · exact nmX3
  · exact nmX4
  · exact nmX5
  · exact nmX6
  · exact nmX7
  · exact nmX8
  · exact nmX9
  · exact nmX10
  · exact nmX11
  · exact nmX12
  · omega
theorem fs_at {ci k : Nat} (hk : k < kN ci) (i : Nat) : ((List.range (kN ci)).map fun f => ren g (fv S i (kT ci f) f))[k]? = some (ren g (fv S i (kT ci k) k)) := by
  rw [List.getElem?_map, List.getElem?_range hk]
  rfl
theorem PW.getf {idx ci k i : Nat} {v : Value} (hd : decode μ.2.1 pc = .ok (.getfield idx, 3)) (hf : FLD μ.1.cls idx ci k) (ho : S.1[i]? = some (.inl ci)) (hv : fv S i (kT ci k) k = v) (kk : PW g l R μ F (pc + 3) lv (v :: st) S kc ks) : PW g l R μ F pc lv (.ref i :: st) S kc ks := by
  subst hv
  intro p e s m args below meth c H locs ls C hR hS hl
  exact va_get (D := gD g) (cl := kl) (ws := [(gz g + i, cE g S i (.inl ci))]) C.1 C.2.1 C.2.2.2.2.2.1 (kI ci hf.1) C.2.2.2.2.1 C.2.2.2.2.2.2.2.2.1.1 (one_P (hR.2 i _ ho)) 0 rfl (kl_at hf.1) k hf.2.1 (C.2.2.2.2.2.1 _ hf.2.2) (fun _ h => h) (fs_at hf.2.1 i) hd (kk p e s m args below meth c H locs ls C hR hS hl)
theorem cE_congr {i : Nat} (h1 : S'.2.1 i = S.2.1 i) (h2 : S'.2.2.1 i = S.2.2.1 i) (h3 : S'.2.2.2 i = S.2.2.2 i) (k : pK) : cE g S' i k = cE g S i k := by
  have hf : ∀ (ty : FieldType) (f : Nat), fv S' i ty f = fv S i ty f := by
    intro ty f
    unfold fv
    rw [h1, h2, h3]
  cases k with
  | inl ci =>
    show Sum.inr (ci, _) = Sum.inr (ci, _)
    congr 2
    exact List.map_congr_left fun f _ => by rw [hf]
  | inr q =>
    obtain ⟨t, n⟩ := q
    show Sum.inl (gA g t, n, aE g S' i t) = Sum.inl (gA g t, n, aE g S i t)
    have : aE g S' i t = aE g S i t := by
      unfold aE
      rw [h1, h2, h3]
    rw [this]
theorem RH.set {H H' : Heap} {i : Nat} {k : pK} (h : RH g S H) (ho : S.1[i]? = some k) (hl : S'.1 = S.1) (ho2 : ∀ j, j ≠ i → S'.2.1 j = S.2.1 j ∧ S'.2.2.1 j = S.2.2.1 j ∧ S'.2.2.2 j = S.2.2.2 j)
    (e : va_at (gD g) kl (gz g + i, cE g S' i k) H') (z : H'.size = H.size) (oq : ∀ q, q ≠ gz g + i → H'[q]? = H[q]?) : RH g S' H' := by
  refine ⟨by rw [z, hl]; exact h.1, fun j x hj => ?_⟩
  rw [hl] at hj
  by_cases hji : j = i
  · subst hji
    cases ho.symm.trans hj
    exact e
  · obtain ⟨h1, h2, h3⟩ := ho2 j hji
    rw [cE_congr h1 h2 h3]
    exact (h.2 j x hj).kept (oq _ (by show gz g + j ≠ gz g + i; omega))
theorem RH.lt {H : Heap} {i : Nat} {k : pK} (h : RH g S H) (ho : S.1[i]? = some k) : gz g + i < H.size := (h.2 i k ho).lt
theorem map_set {α : Type} (f f' : Nat → α) (n k : Nat) (x : α) (hk : f' k = x) (ho : ∀ j, j ≠ k → f' j = f j) : (List.range n).map f' = ((List.range n).map f).set k x := by
  apply List.ext_getElem?
  intro j
  by_cases hj : j < n
  · by_cases hjk : j = k
    · subst hjk
      rw [List.getElem?_set_self (by simpa using hj), List.getElem?_map, List.getElem?_range hj]
      show some (f' j) = some x
      rw [hk]
    · rw [List.getElem?_set_ne (Ne.symm hjk), List.getElem?_map, List.getElem?_map, List.getElem?_range hj]
      show some (f' j) = some (f j)
      rw [ho j hjk]
  · rw [List.getElem?_eq_none (by simpa using hj), List.getElem?_eq_none (by simpa using hj)]
theorem PW.putG {idx ci k i : Nat} {v : Value} (hd : decode μ.2.1 pc = .ok (.putfield idx, 3)) (hf : FLD μ.1.cls idx ci k) (hfin : (kF ci k).2.2.2 = false ∨ (μ.1.name = "<init>" ∧ (kF ci k).1 = μ.1.cls)) (ho : S.1[i]? = some (.inl ci))
    (hn : narrow (kT ci k) (ren g v) = ren g v) (hfit : fits (kT ci k) (ren g v) = true) (hl : S'.1 = S.1) (ho2 : ∀ j, j ≠ i → S'.2.1 j = S.2.1 j ∧ S'.2.2.1 j = S.2.2.1 j ∧ S'.2.2.2 j = S.2.2.2 j)
    (hk : fv S' i (kT ci k) k = v) (hk2 : ∀ f, f ≠ k → fv S' i (kT ci f) f = fv S i (kT ci f) f) (kk : PW g l R μ F (pc + 3) lv st S' kc ks) : PW g l R μ F pc lv (v :: .ref i :: st) S kc ks := by
  intro p e s m args below meth c H locs ls C hR hS hls
  have hts := C.2.2.2.2.2.1
  have hown := C.2.2.2.2.1
  have hK := C.2.2.2.2.2.2.2.2.1.1
  have hin := kI ci hf.1
  have hc := kl_at hf.1
  have hap := va_apart (own := μ.1.cls) (D := gD g) hts hin (kT ci) (kTy ci hf.1) (kNm ci hf.1) hK hc
  have hlt := hR.lt ho
  obtain ⟨r, h1, cell, q1, q2, q3, q4⟩ := hR.2 i _ ho
  cases h1.symm.trans hc
  obtain ⟨hSl, hfc, kC, hkC, hkind⟩ := hK.1 ci _ hc
  obtain ⟨cf, kf, fi, f, hi, hsl⟩ := hSl k hf.2.1
  have hst := (u_facts hfc hkC (u_lays hts hin hf.2.1) hi).1
  have hlen : k < ((List.range (kN ci)).map fun f => ren g (fv S i (kT ci f) f)).length := by simpa using hf.2.1
  have fin : ∀ H' : Heap, H'[gz g + i]? = some (cell.setSlot f.slot (ren g v)) → H'.size = H.size → (∀ q, q ≠ gz g + i → H'[q]? = H[q]?) → W p l e R s m args below meth c H' (locs ++ [⟨gz g + i, f.slot⟩]) kc ks (F below args s) (F0 m (pc + 3) ls (st.map (ren g))) := by
    intro H' e1 e2 e3
    rw [hsl] at e1
    refine kk p e s m args below meth c H' _ ls C (hR.set ho hl ho2 ⟨_, hc, ?_⟩ e2 e3) (hS.put e2 e3 (Nat.le_add_right _ _)) hls
    show t_OB (gz g + i) _ _ _ H' (vp_V ((List.range (kN ci)).map fun f => ren g (fv S' i (kT ci f) f)))
    rw [map_set (fun f => ren g (fv S i (kT ci f) f)) (fun f => ren g (fv S' i (kT ci f) f)) (kN ci) k (ren g v) (by rw [hk]) (fun j hj => by rw [hk2 j hj])]
    exact t_OB.to (V := updV (vp_V ((List.range (kN ci)).map fun f => ren g (fv S i (kT ci f) f))) k (ren g v)) ⟨_, e1, q2, q3, t_set q4 hap hf.2.1 (ren g v)⟩ (fun j _ => vp_updV_set hlen (ren g v) j)
  by_cases hff : (kF ci k).2.2.2 = false
  · have hlay := hts _ (hin _ (u_in_lay hf.2.1))
    unfold u_lay at hlay
    rw [if_neg (by rw [hff]; decide)] at hlay
    have h6 := u_store hfc hkC hkind hlay hi (kTy ci hf.1 k hf.2.1) hn hfit
    exact W.putK C.1 C.2.1 (f := f) ⟨hown, hts _ hf.2.2, ⟨_, _, _, hi⟩, hst⟩ (by rw [q2]; exact h6) q1 q3 (by rw [hsl]; exact k2_hasslot (q4 k hf.2.1)) rfl rfl hd fin
  · have hft : (kF ci k).2.2.2 = true := by simpa using hff
    obtain ⟨hin2, hdecl⟩ := hfin.resolve_left hff
    have hlay := hts _ (hin _ (u_in_lay hf.2.1))
    unfold u_lay at hlay
    rw [if_pos hft] at hlay
    have hcf : m.cls = cf := by
      obtain ⟨_, _, c', _, _, _, -, -, hf', -, -, -, hown2, -⟩ := Cond.laysFinal_spec hlay
      have e1 : c' = cf := by have := hi.symm.trans hf'; simp at this; exact this.1.symm
      rw [hdecl] at hown2
      rw [← e1]; exact Option.some.inj (hown.symm.trans hown2)
    have h6 := u_fits hfc hkC hkind (Or.inr hlay) hi (kTy ci hf.1 k hf.2.1) hn hfit
    exact W.putFinK C.1 C.2.1 hown (hts _ hf.2.2) hi hst hcf (C.2.2.2.2.2.2.2.1.trans hin2) (by rw [q2]; exact h6) q1 q3 (by rw [hsl]; exact k2_hasslot (q4 k hf.2.1)) rfl rfl hd fin
def upd2 {α : Type} (f : Nat → Nat → α) (o k : Nat) (v : α) : Nat → Nat → α := fun a j => if a = o then (if j = k then v else f a j) else f a j
theorem upd2_ne {α : Type} {f : Nat → Nat → α} {o k : Nat} {v : α} {a : Nat} (h : a ≠ o) : upd2 f o k v a = f a := by
  funext j
  unfold upd2
  rw [if_neg h]
theorem upd2_nk {α : Type} {f : Nat → Nat → α} {o k : Nat} {v : α} {j : Nat} (h : j ≠ k) : upd2 f o k v o j = f o j := by
  unfold upd2
  rw [if_pos rfl, if_neg h]
theorem upd2_eq {α : Type} {f : Nat → Nat → α} {o k : Nat} {v : α} : upd2 f o k v o k = v := by
  unfold upd2
  rw [if_pos rfl, if_pos rfl]
def sI (S : pS) (o k : Nat) (v : Int32) : pS := (S.1, upd2 S.2.1 o k v, S.2.2)
def sJ (S : pS) (o k : Nat) (v : Int64) : pS := (S.1, S.2.1, upd2 S.2.2.1 o k v, S.2.2.2)
def sR (S : pS) (o k : Nat) (v : Option Nat) : pS := (S.1, S.2.1, S.2.2.1, upd2 S.2.2.2 o k v)
theorem fv_sI {o k i f : Nat} {x : Int32} {ty : FieldType} (h : f ≠ k) : fv (sI S o k x) i ty f = fv S i ty f := by
  unfold fv sI
  by_cases hi : i = o
  · subst hi
    simp only [upd2_nk h]
  · simp only [upd2_ne hi]
theorem fv_sR {o k i f : Nat} {x : Option Nat} {ty : FieldType} (h : f ≠ k) : fv (sR S o k x) i ty f = fv S i ty f := by
  unfold fv sR
  by_cases hi : i = o
  · subst hi
    simp only [upd2_nk h]
  · simp only [upd2_ne hi]
/-- an int field, a boolean one -/
theorem PW.putI {idx ci k i : Nat} {x : Int32} (hd : decode μ.2.1 pc = .ok (.putfield idx, 3)) (hf : FLD μ.1.cls idx ci k) (hfin : (kF ci k).2.2.2 = false) (ho : S.1[i]? = some (.inl ci)) (hty : kT ci k = .int)
    (kk : PW g l R μ F (pc + 3) lv st (sI S i k x) kc ks) : PW g l R μ F pc lv (.int x :: .ref i :: st) S kc ks :=
  PW.putG (S' := sI S i k x) (v := .int x) hd hf (Or.inl hfin) ho (by rw [hty]; rfl) (by rw [hty]; rfl) rfl (fun j hj => ⟨upd2_ne hj, rfl, rfl⟩) (by rw [hty]; show Value.int (upd2 S.2.1 i k x i k) = _; rw [upd2_eq]) (fun f hf => fv_sI hf) kk
theorem PW.putZ {idx ci k i : Nat} {x : Int32} (hd : decode μ.2.1 pc = .ok (.putfield idx, 3)) (hf : FLD μ.1.cls idx ci k) (hfin : (kF ci k).2.2.2 = false) (ho : S.1[i]? = some (.inl ci)) (hty : kT ci k = .boolean) (hx : x = 0 ∨ x = 1)
    (kk : PW g l R μ F (pc + 3) lv st (sI S i k x) kc ks) : PW g l R μ F pc lv (.int x :: .ref i :: st) S kc ks :=
  PW.putG (S' := sI S i k x) (v := .int x) hd hf (Or.inl hfin) ho (by rw [hty]; rcases hx with rfl | rfl <;> rfl) (by rw [hty]; rcases hx with rfl | rfl <;> rfl) rfl (fun j hj => ⟨upd2_ne hj, rfl, rfl⟩) (by rw [hty]; show Value.int (upd2 S.2.1 i k x i k) = _; rw [upd2_eq]) (fun f hf => fv_sI hf) kk
theorem PW.putR {idx ci k i : Nat} {r : Option Nat} {v : Value} (hd : decode μ.2.1 pc = .ok (.putfield idx, 3)) (hf : FLD μ.1.cls idx ci k) (hfin : (kF ci k).2.2.2 = false ∨ (μ.1.name = "<init>" ∧ (kF ci k).1 = μ.1.cls)) (ho : S.1[i]? = some (.inl ci)) (hty : (∃ n, kT ci k = .object n) ∨ ∃ t, kT ci k = .array t) (hv : va_rf r = v)
    (kk : PW g l R μ F (pc + 3) lv st (sR S i k r) kc ks) : PW g l R μ F pc lv (v :: .ref i :: st) S kc ks := by
  subst hv
  refine PW.putG (S' := sR S i k r) hd hf hfin ho ?_ ?_ rfl (fun j hj => ⟨rfl, rfl, upd2_ne hj⟩) ?_ (fun f hf => fv_sR hf) kk
  · rcases hty with ⟨n, hn⟩ | ⟨n, hn⟩ <;> rw [hn] <;> cases r <;> rfl
  · rcases hty with ⟨n, hn⟩ | ⟨n, hn⟩ <;> rw [hn] <;> cases r <;> rfl
  · rcases hty with ⟨n, hn⟩ | ⟨n, hn⟩ <;> rw [hn] <;> show va_rf (upd2 S.2.2.2 i k r i k) = _ <;> rw [upd2_eq]
end PS2
