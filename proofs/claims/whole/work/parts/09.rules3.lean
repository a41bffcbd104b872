section PS3
variable {g : pG} {l : Launch} {R : Room} {μ : pM} {F : pF} {pc : Nat} {lv : List (Nat × Value)} {st : List Value} {S S' : pS} {kc ks : Nat}
/-- arrays: reads -/
theorem PW.iaload {a n : Nat} {i : Int32} (hd : decode μ.2.1 pc = .ok (.iaload, 1)) (ha : S.1[a]? = some (.inr (0, n))) (hin : vp_in i n) (kk : PW g l R μ F (pc + 1) lv (.int (S.2.1 a i.toNatClampNeg) :: st) S kc ks) : PW g l R μ F pc lv (.int i :: .ref a :: st) S kc ks := by
  intro p e s m args below meth c H locs ls C hR hS hl
  exact va_iald (D := gD g) (cl := kl) (ws := [(gz g + a, cE g S a (.inr (0, n)))]) C.1 C.2.1 C.2.2.2.2.2.2.2.2.1.1 (one_P (hR.2 a _ ha)) 0 0 rfl (kty_at g (by decide)) hin hd (kk p e s m args below meth c H locs ls C hR hS hl)
theorem PW.laload {a n : Nat} {i : Int32} (hd : decode μ.2.1 pc = .ok (.laload, 1)) (ha : S.1[a]? = some (.inr (1, n))) (hin : vp_in i n) (kk : PW g l R μ F (pc + 1) lv (.long (S.2.2.1 a i.toNatClampNeg) :: st) S kc ks) : PW g l R μ F pc lv (.int i :: .ref a :: st) S kc ks := by
  intro p e s m args below meth c H locs ls C hR hS hl
  exact va_lald (D := gD g) (cl := kl) (ws := [(gz g + a, cE g S a (.inr (1, n)))]) C.1 C.2.1 C.2.2.2.2.2.2.2.2.1.1 (one_P (hR.2 a _ ha)) 0 1 rfl (kty_at g (by decide)) hin hd (kk p e s m args below meth c H locs ls C hR hS hl)
theorem PW.baload {a n : Nat} {i : Int32} (hd : decode μ.2.1 pc = .ok (.baload, 1)) (ha : S.1[a]? = some (.inr (2, n))) (hin : vp_in i n) (kk : PW g l R μ F (pc + 1) lv (.int (S.2.1 a i.toNatClampNeg) :: st) S kc ks) : PW g l R μ F pc lv (.int i :: .ref a :: st) S kc ks := by
  intro p e s m args below meth c H locs ls C hR hS hl
  exact va_bald (D := gD g) (cl := kl) (ws := [(gz g + a, cE g S a (.inr (2, n)))]) C.1 C.2.1 C.2.2.2.2.2.2.2.2.1.1 (one_P (hR.2 a _ ha)) 0 2 rfl (kty_at g (by decide)) hin hd (kk p e s m args below meth c H locs ls C hR hS hl)
theorem PW.zaload {a n : Nat} {i : Int32} (hd : decode μ.2.1 pc = .ok (.baload, 1)) (ha : S.1[a]? = some (.inr (3, n))) (hin : vp_in i n) (kk : PW g l R μ F (pc + 1) lv (.int (S.2.1 a i.toNatClampNeg) :: st) S kc ks) : PW g l R μ F pc lv (.int i :: .ref a :: st) S kc ks := by
  intro p e s m args below meth c H locs ls C hR hS hl
  exact va_zald (D := gD g) (cl := kl) (ws := [(gz g + a, cE g S a (.inr (3, n)))]) C.1 C.2.1 C.2.2.2.2.2.2.2.2.1.1 (one_P (hR.2 a _ ha)) 0 3 rfl (kty_at g (by decide)) hin hd (kk p e s m args below meth c H locs ls C hR hS hl)
theorem PW.aaload4 {a n : Nat} {i : Int32} {v : Value} (hd : decode μ.2.1 pc = .ok (.aaload, 1)) (ha : S.1[a]? = some (.inr (4, n))) (hin : vp_in i n) (hv : va_rf (S.2.2.2 a i.toNatClampNeg) = v) (kk : PW g l R μ F (pc + 1) lv (v :: st) S kc ks) : PW g l R μ F pc lv (.int i :: .ref a :: st) S kc ks := by
  subst hv
  intro p e s m args below meth c H locs ls C hR hS hl
  refine va_aldq (D := gD g) (cl := kl) (ws := [(gz g + a, cE g S a (.inr (4, n)))]) C.1 C.2.1 C.2.2.2.2.2.2.2.2.1.1 (one_P (hR.2 a _ ha)) 0 4 rfl (kty_at g (by decide)) hin hd ?_
  have h := kk p e s m args below meth c H locs ls C hR hS hl
  rw [List.map_cons, ren_rf] at h
  exact h
theorem PW.aaload5 {a n : Nat} {i : Int32} {v : Value} (hd : decode μ.2.1 pc = .ok (.aaload, 1)) (ha : S.1[a]? = some (.inr (5, n))) (hin : vp_in i n) (hv : va_rf (S.2.2.2 a i.toNatClampNeg) = v) (kk : PW g l R μ F (pc + 1) lv (v :: st) S kc ks) : PW g l R μ F pc lv (.int i :: .ref a :: st) S kc ks := by
  subst hv
  intro p e s m args below meth c H locs ls C hR hS hl
  refine va_aldq (D := gD g) (cl := kl) (ws := [(gz g + a, cE g S a (.inr (5, n)))]) C.1 C.2.1 C.2.2.2.2.2.2.2.2.1.1 (one_P (hR.2 a _ ha)) 0 5 rfl (kty_at g (by decide)) hin hd ?_
  have h := kk p e s m args below meth c H locs ls C hR hS hl
  rw [List.map_cons, ren_rf] at h
  exact h
theorem PW.alen {a t n : Nat} {v : Int32} (hd : decode μ.2.1 pc = .ok (.arraylength, 1)) (ha : S.1[a]? = some (.inr (t, n))) (ht : t < 6) (hv : Int32.ofNat n = v) (kk : PW g l R μ F (pc + 1) lv (.int v :: st) S kc ks) : PW g l R μ F pc lv (.ref a :: st) S kc ks := by
  intro p e s m args below meth c H locs ls C hR hS hl
  exact va_alen (D := gD g) (cl := kl) (ws := [(gz g + a, cE g S a (.inr (t, n)))]) C.1 C.2.1 C.2.2.2.2.2.2.2.2.1.1 (one_P (hR.2 a _ ha)) 0 t rfl (kty_at g ht) hv hd (kk p e s m args below meth c H locs ls C hR hS hl)
/-- the script -/
theorem PW.sload {i : Int32} {v : Int32} (hd : decode μ.2.1 pc = .ok (.iaload, 1)) (hin : vp_in i (gL g)) (hv : gx g i.toNatClampNeg = v) (kk : PW g l R μ F (pc + 1) lv (.int v :: st) S kc ks) : PW g l R μ F pc lv (.int i :: .float 0 :: st) S kc ks := by
  subst hv
  intro p e s m args below meth c H locs ls C hR hS hl
  have O := C.2.2.2.2.2.2.2.2.2
  exact va_sld C.1 C.2.1 O.2.2.1 (Nat.lt_of_lt_of_le O.2.1 O.1) (Nat.not_le.mpr O.2.1) hS hin hd (kk p e s m args below meth c H locs ls C hR hS hl)
theorem PW.slen (hd : decode μ.2.1 pc = .ok (.arraylength, 1)) (kk : PW g l R μ F (pc + 1) lv (.int (Int32.ofNat (gL g)) :: st) S kc ks) : PW g l R μ F pc lv (.float 0 :: st) S kc ks := by
  intro p e s m args below meth c H locs ls C hR hS hl
  have O := C.2.2.2.2.2.2.2.2.2
  exact va_slen C.1 C.2.1 O.2.2.1 (Nat.lt_of_lt_of_le O.2.1 O.1) (Nat.not_le.mpr O.2.1) hS hd (kk p e s m args below meth c H locs ls C hR hS hl)
/-- arrays: writes -/
theorem arr_put {H H' : Heap} {a t n j : Nat} {v : Value} (hR : RH g S H) (ha : S.1[a]? = some (.inr (t, n))) (hl : S'.1 = S.1) (ho2 : ∀ j, j ≠ a → S'.2.1 j = S.2.1 j ∧ S'.2.2.1 j = S.2.2.1 j ∧ S'.2.2.2 j = S.2.2.2 j)
    (e : H'[gz g + a]? = some ((vp_cell (gA g t) (n, aE g S a t)).setSlot j v)) (h : vp_cell (gA g t) (n, aE g S' a t) = (vp_cell (gA g t) (n, aE g S a t)).setSlot j v) (z : H'.size = H.size) (oq : ∀ q, q ≠ gz g + a → H'[q]? = H[q]?) : RH g S' H' :=
  hR.set ha hl ho2 (by show H'[gz g + a]? = some (vp_cell (gA g t) (n, aE g S' a t)); rw [h]; exact e) z oq
theorem PW.iastore {a n : Nat} {i x : Int32} (hd : decode μ.2.1 pc = .ok (.iastore, 1)) (ha : S.1[a]? = some (.inr (0, n))) (hin : vp_in i n) (kk : PW g l R μ F (pc + 1) lv st (sI S a i.toNatClampNeg x) kc ks) : PW g l R μ F pc lv (.int x :: .int i :: .ref a :: st) S kc ks := by
  intro p e s m args below meth c H locs ls C hR hS hl
  refine W.iast C.1 C.2.1 (hR.2 a _ ha) (((C.2.2.2.2.2.2.2.2.1.1).2 0 _ (kty_at g (by decide))).1 n (fun j => .int (S.2.1 a j))) (fun q => by cases q) (by show ¬ (i < 0 ∨ (arrV _ _ _).slots.size ≤ _); rw [arrV_size]; exact hin) rfl rfl hd fun H1 e1 z oq => ?_
  refine kk p e s m args below meth c H1 _ ls C (arr_put hR ha rfl (fun j hj => ⟨upd2_ne hj, rfl, rfl⟩) e1 ?_ z oq) (hS.put z oq (Nat.le_add_right _ _)) hl
  show arrV _ n (fun q => .int (upd2 S.2.1 a i.toNatClampNeg x a q)) = (arrV _ n (fun q => .int (S.2.1 a q))).setSlot _ _
  rw [arrV_store]
  congr 1
  funext q
  by_cases hq : q = i.toNatClampNeg
  · subst hq
    simp [updV, upd2]
  · simp [updV, upd2, hq]
theorem PW.lastore {a n : Nat} {i : Int32} {x : Int64} (hd : decode μ.2.1 pc = .ok (.lastore, 1)) (ha : S.1[a]? = some (.inr (1, n))) (hin : vp_in i n) (kk : PW g l R μ F (pc + 1) lv st (sJ S a i.toNatClampNeg x) kc ks) : PW g l R μ F pc lv (.long x :: .int i :: .ref a :: st) S kc ks := by
  intro p e s m args below meth c H locs ls C hR hS hl
  refine W.last C.1 C.2.1 (hR.2 a _ ha) (((C.2.2.2.2.2.2.2.2.1.1).2 1 _ (kty_at g (by decide))).1 n (fun j => .long (S.2.2.1 a j))) (fun q => by cases q) (by show ¬ (i < 0 ∨ (arrV _ _ _).slots.size ≤ _); rw [arrV_size]; exact hin) rfl rfl hd fun H1 e1 z oq => ?_
  refine kk p e s m args below meth c H1 _ ls C (arr_put hR ha rfl (fun j hj => ⟨rfl, upd2_ne hj, rfl⟩) e1 ?_ z oq) (hS.put z oq (Nat.le_add_right _ _)) hl
  show arrV _ n (fun q => .long (upd2 S.2.2.1 a i.toNatClampNeg x a q)) = (arrV _ n (fun q => .long (S.2.2.1 a q))).setSlot _ _
  rw [arrV_store]
  congr 1
  funext q
  by_cases hq : q = i.toNatClampNeg
  · subst hq
    simp [updV, upd2]
  · simp [updV, upd2, hq]
theorem PW.bastore {a n : Nat} {i x : Int32} (hd : decode μ.2.1 pc = .ok (.bastore, 1)) (ha : S.1[a]? = some (.inr (2, n))) (hin : vp_in i n) (kk : PW g l R μ F (pc + 1) lv st (sI S a i.toNatClampNeg x.toInt8.toInt32) kc ks) : PW g l R μ F pc lv (.int x :: .int i :: .ref a :: st) S kc ks := by
  intro p e s m args below meth c H locs ls C hR hS hl
  refine W.bast C.1 C.2.1 (hR.2 a _ ha) (((C.2.2.2.2.2.2.2.2.1.1).2 2 _ (kty_at g (by decide))).1 n (fun j => .int (S.2.1 a j))) (fun q => by cases q) (by show ¬ (i < 0 ∨ (arrV _ _ _).slots.size ≤ _); rw [arrV_size]; exact hin) rfl rfl hd fun H1 e1 z oq => ?_
  refine kk p e s m args below meth c H1 _ ls C (arr_put hR ha rfl (fun j hj => ⟨upd2_ne hj, rfl, rfl⟩) e1 ?_ z oq) (hS.put z oq (Nat.le_add_right _ _)) hl
  show arrV _ n (fun q => .int (upd2 S.2.1 a i.toNatClampNeg x.toInt8.toInt32 a q)) = (arrV _ n (fun q => .int (S.2.1 a q))).setSlot _ (narrow .byte (.int x))
  rw [arrV_store]
  congr 1
  funext q
  by_cases hq : q = i.toNatClampNeg
  · subst hq
    simp [updV, upd2, narrow]
  · simp [updV, upd2, hq]
theorem PW.zastore {a n : Nat} {i x : Int32} (hd : decode μ.2.1 pc = .ok (.bastore, 1)) (ha : S.1[a]? = some (.inr (3, n))) (hin : vp_in i n) (hx : x = 0 ∨ x = 1) (kk : PW g l R μ F (pc + 1) lv st (sI S a i.toNatClampNeg x) kc ks) : PW g l R μ F pc lv (.int x :: .int i :: .ref a :: st) S kc ks := by
  intro p e s m args below meth c H locs ls C hR hS hl
  refine W.zast C.1 C.2.1 (hR.2 a _ ha) (((C.2.2.2.2.2.2.2.2.1.1).2 3 _ (kty_at g (by decide))).1 n (fun j => .int (S.2.1 a j))) (fun q => by cases q) (by show ¬ (i < 0 ∨ (arrV _ _ _).slots.size ≤ _); rw [arrV_size]; exact hin) rfl rfl hd fun H1 e1 z oq => ?_
  refine kk p e s m args below meth c H1 _ ls C (arr_put hR ha rfl (fun j hj => ⟨upd2_ne hj, rfl, rfl⟩) e1 ?_ z oq) (hS.put z oq (Nat.le_add_right _ _)) hl
  show arrV _ n (fun q => .int (upd2 S.2.1 a i.toNatClampNeg x a q)) = (arrV _ n (fun q => .int (S.2.1 a q))).setSlot _ (narrow .boolean (.int x))
  have hnx : narrow .boolean (.int x) = .int x := by rcases hx with rfl | rfl <;> rfl
  rw [hnx, arrV_store]
  congr 1
  funext q
  by_cases hq : q = i.toNatClampNeg
  · subst hq
    simp [updV, upd2]
  · simp [updV, upd2, hq]
theorem PW.aastore {a n ci v t : Nat} {i : Int32} (hd : decode μ.2.1 pc = .ok (.aastore, 1)) (ha : S.1[a]? = some (.inr (t, n))) (ht : (t = 4 ∧ ci = 8) ∨ (t = 5 ∧ ci = 6)) (hv : S.1[v]? = some (.inl ci)) (hin : vp_in i n) (kk : PW g l R μ F (pc + 1) lv st (sR S a i.toNatClampNeg (some v)) kc ks) : PW g l R μ F pc lv (.ref v :: .int i :: .ref a :: st) S kc ks := by
  intro p e s m args below meth c H locs ls C hR hS hl
  have hK := C.2.2.2.2.2.2.2.2.1.1
  have hci : ci < 13 := by rcases ht with ⟨-, rfl⟩ | ⟨-, rfl⟩ <;> decide
  have htt : t < 6 := by rcases ht with ⟨rfl, -⟩ | ⟨rfl, -⟩ <;> decide
  have hnm : aT t = .object (kR ci) := by rcases ht with ⟨rfl, rfl⟩ | ⟨rfl, rfl⟩ <;> rfl
  have hae : ∀ T : pS, aE g T a t = .inr (.inr (.inr (.inr fun j => (T.2.2.2 a j).map (gz g + ·)))) := by
    intro T
    rcases ht with ⟨rfl, -⟩ | ⟨rfl, -⟩ <;> rfl
  obtain ⟨r', hr', cellV, g1, g2, g3, -⟩ := hR.2 v _ hv
  have hcls := (hK.1 ci _ (kl_at hci)).2
  have hra := (hK.2 t _ (kty_at g htt)).2
  rw [hnm] at hra
  obtain ⟨kA, comp, k1, k2, k3, -⟩ := hra
  have hcomp : comp = (gD g).1 ci := Option.some.inj (k3.symm.trans hcls.1)
  subst hcomp
  obtain ⟨kC, hkC, -⟩ := hcls.2
  have hca : va_at (gD g) kl (gz g + a, cE g S a (.inr (t, n))) H := hR.2 a _ ha
  have hcc : H[gz g + a]? = some (vp_cell (gA g t) (n, aE g S a t)) := hca
  rw [hae] at hcc
  refine W.aast C.1 C.2.1 hcc (fun q h => by cases h) (fun h => by cases h) k1 k2 rfl hkC ⟨fun q => hin (Or.inl q), by show _ < (arrV _ _ _).slots.size; rw [arrV_size]; exact Nat.not_le.mp fun q => hin (Or.inr q)⟩ g1 (fun q h => by rw [g3] at h; cases h) (by rw [g2]; exact hkC) (by rw [g2]; exact va_assign hcls) rfl rfl hd fun H1 e1 z oq => ?_
  refine kk p e s m args below meth c H1 _ ls C (hR.set ha rfl (fun j hj => ⟨rfl, rfl, upd2_ne hj⟩) ?_ z oq) (hS.put z oq (Nat.le_add_right _ _)) hl
  show H1[gz g + a]? = some (vp_cell (gA g t) (n, aE g (sR S a i.toNatClampNeg (some v)) a t))
  rw [e1, hae, vp_cell_q, vp_cell_q, arrV_store]
  congr 2
  funext q
  by_cases hq : q = i.toNatClampNeg
  · subst hq
    simp [updV, upd2, sR, va_rf]
  · simp [updV, upd2, sR, hq]
end PS3
