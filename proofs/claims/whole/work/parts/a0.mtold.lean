/-! the reference works its codes, and what its law tells -/
abbrev wB2 (to : Nat) (_ : Nat) (v : (Int32 × Int32) × cS) : Option (((Int32 × Int32) × cS) ⊕ (Unit × cS)) := b_X12_works_5 (nI to) v.1.1 v.1.2 v.2
theorem works_lp {V : Nat → Int32} {to : Nat} (hto : to ≤ 160) : ∀ (R : Cd) (i : Nat) (S : List (Option Int32)) (s : cS) (m : Nat), (∀ j x, R[j]? = some x → iG s 206 (i + j) = nI x.1 ∧ iG s 207 (i + j) = nI x.2) → (∀ x ∈ R, x.1 = 1 → x.2 ∈ lets) → VM V s → stO S s → hts R S.length = some m → S.length + R.length ≤ 200 → i + R.length = to → ∃ s', EL (wB2 to) ((nI S.length, nI i), s) ((), s') ∧ stO (evV V R S) s' ∧ Fw mR s s'
  | [], i, S, s, m, hc, hl, hv, hS, hh, hn, hi => by
    have hi' : i + 0 = to := hi
    refine ⟨s, EL.en (Ev.of fun _ => ?_), hS, Fw.rf⟩
    show b_X12_works_5 (nI to) (nI S.length) (nI i) s = _
    unfold b_X12_works_5
    rw [if_pos (nI_le (by omega) (by omega))]
    rfl
  | x :: R, i, S, s, m, hc, hl, hv, hS, hh, hn, hi => by
    have hi' : i + (R.length + 1) = to := hi
    have hn' : S.length + (R.length + 1) ≤ 200 := hn
    obtain ⟨g1, g2⟩ := hc 0 x rfl
    rw [Nat.add_zero] at g1 g2
    have hrest : ∀ (S' : List (Option Int32)) (s1 : cS), Fw mR s s1 → stO S' s1 → S'.length ≤ S.length + 1 → hts R S'.length = some m → b_X12_works_5 (nI to) (nI S.length) (nI i) s = some (.inl ((nI S'.length, nI (i + 1)), s1)) → S' = opV V x S → ∃ s', EL (wB2 to) ((nI S.length, nI i), s) ((), s') ∧ stO (evV V (x :: R) S) s' ∧ Fw mR s s' := by
      intro S' s1 hF h1 h2 h3 h4 h5
      obtain ⟨s', e1, e2, e3⟩ := works_lp hto R (i + 1) S' s1 m (fun j y hy => by
        obtain ⟨q1, q2⟩ := hc (j + 1) y hy
        rw [hF.int (by unfold mR; omega), hF.int (by unfold mR; omega)]
        rw [show i + 1 + j = i + (j + 1) by omega]
        exact ⟨q1, q2⟩) (fun y hy => hl y (List.mem_cons_of_mem _ hy)) (hv.fw hF) h1 h3 (by omega) (by omega)
      refine ⟨s', EL.st (Ev.of fun _ => h4) e1, ?_, hF.tr e3⟩
      have : evV V (x :: R) S = evV V R (opV V x S) := rfl
      rw [this, ← h5]
      exact e2
    have hx256 : x.1 < 256 := by
      unfold hts at hh
      split at hh
      · omega
      · split at hh
        · omega
        · split at hh
          · rename_i z; exact z.2
          · cases hh
    have hle2 : nI x.1 ≤ 2 ↔ x.1 ≤ 2 := nI_leI (b := 2) (by omega) (by decide)
    have heq2 : nI x.1 = 2 ↔ x.1 = 2 := nI_eq (b := 2) (by omega) (by decide)
    have heq0 : nI x.1 = 0 ↔ x.1 = 0 := nI_eq (b := 0) (by omega) (by decide)
    have hin : inb (nI i) 160 := (inb_n (by omega)).mpr (by omega)
    have hci : (nI i).toNatClampNeg = i := nI_clamp (by omega)
    by_cases c1 : x.1 ≤ 1
    · have hh' : hts R (S.length + 1) = some m := by
        unfold hts at hh
        rw [if_pos c1] at hh
        exact hh
      have hinS : inb (nI S.length) 200 := (inb_n (by omega)).mpr (by omega)
      have hcS : (nI S.length).toNatClampNeg = S.length := nI_clamp (by omega)
      have hF1 : ∀ v, Fw mR s (iS (iS s 216 S.length 0) 215 S.length v) := fun v => (Fw.rf.st (Or.inr rfl)).st (Or.inl rfl)
      have hS1 : ∀ v, stO (some v :: S) (iS (iS s 216 S.length 0) 215 S.length v) := fun v => ⟨⟨by rw [iG_ne (by decide), iG_eq], iG_eq⟩, stO_fr hS fun o' j ho' hj => by
        rcases ho' with rfl | rfl
        · rw [iG_nk (by omega), iG_ne (by decide)]
        · rw [iG_ne (by decide), iG_nk (by omega)]⟩
      have hv6 : VM V (iS s 216 S.length 0) := hv.fw (Fw.rf.st (Or.inr rfl))
      have e206 : iG (iS s 216 S.length 0) 206 i = iG s 206 i := by rw [iG_ne (by decide)]
      have e207 : iG (iS s 216 S.length 0) 207 i = iG s 207 i := by rw [iG_ne (by decide)]
      by_cases c0 : x.1 = 0
      · refine hrest (some (nI x.2) :: S) _ (hF1 (nI x.2)) (hS1 _) (by simp) hh' ?_ ?_
        · unfold b_X12_works_5 j_X12_works_117 j_X12_works_121
          rw [if_neg (nI_ge (by omega) (by omega)), if_pos hin, hci, g1, if_pos (hle2.mpr (by omega)), if_neg (fun z => by have := heq2.mp z; omega)]
          simp only [if_pos hinS, hcS, sb_mk, e206, e207, g1, g2, if_pos (heq0.mpr c0), nI_1]
          rfl
        · unfold opV
          rw [if_pos c0]
      · have c1' : x.1 = 1 := by omega
        have hlet := hl x List.mem_cons_self c1'
        refine hrest (some (V x.2) :: S) _ (hF1 (V x.2)) (hS1 _) (by simp) hh' ?_ ?_
        · unfold b_X12_works_5 j_X12_works_117 j_X12_works_121
          rw [if_neg (nI_ge (by omega) (by omega)), if_pos hin, hci, g1, if_pos (hle2.mpr (by omega)), if_neg (fun z => by have := heq2.mp z; omega)]
          simp only [if_pos hinS, hcS, sb_mk, e206, e207, g1, g2, if_neg (fun z => c0 (heq0.mp z)), ob_some (hv6 x.2 hlet), nI_1]
          rfl
        · unfold opV
          rw [if_neg c0, if_pos c1']
    · by_cases c2 : x.1 = 2
      · obtain ⟨a, r, rfl⟩ : ∃ a r, S = a :: r := by
          cases S with
          | nil =>
            unfold hts at hh
            rw [if_neg c1, if_pos c2, if_neg (by simp)] at hh
            cases hh
          | cons a r => exact ⟨a, r, rfl⟩
        have hh' : hts R (r.length + 1) = some m := by
          unfold hts at hh
          rw [if_neg c1, if_pos c2, if_pos (by simp)] at hh
          exact hh
        have hl1 : (a :: r).length = r.length + 1 := rfl
        have hF1 : Fw mR s (iS s 215 r.length (1 - iG s 215 r.length)) := Fw.rf.st (Or.inl rfl)
        obtain ⟨ha, hr⟩ := hS
        refine hrest (a.map (fun v => 1 - v) :: r) _ hF1 ⟨?_, stO_fr hr fun o' j ho' hj => ?_⟩ (by simp) hh' ?_ ?_
        · cases a with
          | none =>
            have ha' : iG s 216 r.length = 1 := ha
            show iG (iS s 215 r.length (1 - iG s 215 r.length)) 216 r.length = 1
            rw [iG_ne (by decide)]; exact ha'
          | some v =>
            obtain ⟨ha1, ha2⟩ := ha
            show iG (iS s 215 r.length (1 - iG s 215 r.length)) 216 r.length = 0 ∧ iG (iS s 215 r.length (1 - iG s 215 r.length)) 215 r.length = 1 - v
            rw [iG_ne (by decide), iG_eq, ha2]
            exact ⟨ha1, rfl⟩
        · rcases ho' with rfl | rfl
          · rw [iG_nk (by omega)]
          · rw [iG_ne (by decide)]
        · unfold b_X12_works_5 j_X12_works_121
          have t1 : nI (r.length + 1) - 1 = nI r.length := nI_pred _
          rw [if_neg (nI_ge (by omega) (by omega)), if_pos hin, hci, g1, if_pos (hle2.mpr (by omega)), if_pos (heq2.mpr c2), hl1, t1, if_pos ((inb_n (by omega)).mpr (by omega)), nI_clamp (by omega), sb_mk, nI_1]
          rfl
        · unfold opV
          rw [if_neg (by omega), if_neg (by omega), if_pos c2]
      · obtain ⟨b, a, r, rfl⟩ : ∃ b a r, S = b :: a :: r := by
          rcases S with _ | ⟨b, _ | ⟨a, r⟩⟩
          · unfold hts at hh
            rw [if_neg c1, if_neg c2, if_neg (by simp)] at hh
            cases hh
          · unfold hts at hh
            rw [if_neg c1, if_neg c2, if_neg (by simp)] at hh
            cases hh
          · exact ⟨b, a, r, rfl⟩
        have hl1 : (b :: a :: r).length = r.length + 1 + 1 := rfl
        have hh' : hts R (r.length + 1) = some m := by
          unfold hts at hh
          rw [if_neg c1, if_neg c2, if_pos ⟨by simp, hx256⟩] at hh
          exact hh
        obtain ⟨s1, d1, d2, d3⟩ := does_ok (c := x.1) (by omega) hx256 hS (by omega)
        refine hrest (biO x.1 a b :: r) s1 d3 d2 (by simp) hh' ?_ ?_
        · unfold b_X12_works_5 j_X12_works_121
          have t0 : nI (r.length + 1 + 1) + (-1) = nI (r.length + 1) := pk_m1 _
          have t1 : nI (r.length + 1) - 1 = nI r.length := nI_pred _
          rw [if_neg (nI_ge (by omega) (by omega)), if_pos hin, hci, g1, if_neg (fun z => by have := hle2.mp z; omega), hl1, t0, t1, ob_some d1, nI_1]
          rfl
        · unfold opV
          rw [if_neg (by omega), if_neg (by omega), if_neg c2]
theorem m_works {V : Nat → Int32} {L : Cd} (hL : Wf L) {fr : Nat} {s : cS} (hc : ∀ j x, L[j]? = some x → iG s 206 (fr + j) = nI x.1 ∧ iG s 207 (fr + j) = nI x.2) (hl : ∀ x ∈ L, x.1 = 1 → x.2 ∈ lets) (hv : VM V s) (hto : fr + L.length ≤ 160) : ∃ s', Ev (fun N => f_X12_works N (nI fr) (nI (fr + L.length)) s) ((), s') ∧ stO [val V L] s' ∧ Fw mR s s' := by
  obtain ⟨s', e1, e2, e3⟩ := works_lp (V := V) hto L fr [] s 1 hc hl hv trivial (hL.2 0) (by simp; omega) rfl
  refine ⟨s', Ev.cg e1.ev (fun N => rfl), ?_, e3⟩
  rw [hL.1 V []] at e2
  exact e2
theorem cds_seg {K : List Cl} {i : Nat} {c : Cl} (h : K[i]? = some c) {j : Nat} {x : Nat × Nat} (hx : (c.2.1 ++ c.2.2)[j]? = some x) : (cds K)[cst K i + j]? = some x := by
  have e1 : K.take (i + 1) = K.take i ++ [c] := by rw [List.take_succ, h]; rfl
  have e2 : cds K = cds (K.take i) ++ ((c.2.1 ++ c.2.2) ++ cds (K.drop (i + 1))) := by
    have : cds K = cds (K.take (i + 1)) ++ cds (K.drop (i + 1)) := by
      unfold cds
      rw [← List.flatMap_append, List.take_append_drop]
    rw [this, e1, cds_app, List.append_assoc]
  have hj := (List.getElem?_eq_some_iff.mp hx).1
  rw [e2]
  unfold cst
  rw [List.getElem?_append_right (by omega), show (cds (K.take i)).length + j - (cds (K.take i)).length = j by omega, List.getElem?_append_left hj, hx]
/-- what both laws' texts are made of -/
def LwF (K : List Cl) : Prop := (∀ (i : Nat) (c : Cl), K[i]? = some c → Wf c.2.1 ∧ Wf c.2.2) ∧ ∀ x ∈ cds K, x.1 = 1 → x.2 ∈ lets
theorem LwX.f {K : List Cl} {T : Nat} {s : cS} (h : LwX K T s) : LwF K := by
  obtain ⟨W, u, -, -, -, -, h5, -, -, h8, -⟩ := h
  refine ⟨fun i c hi => ⟨(h8 i c hi).1.1, (h8 i c hi).2.1⟩, fun x hx h1 => ?_⟩
  obtain ⟨j, hj, h2, -⟩ := h5 x hx h1
  rw [← h2]
  have : ∀ j, j < 10 → lets.getD j 0 ∈ lets := by decide
  exact this j hj
abbrev tB (l most : Int32) (N : Nat) (v : Int32 × cS) : Option ((Int32 × cS) ⊕ (Int32 × cS)) := b_X12_toldBy_2 N l most v.1 v.2
theorem m_amount {V : Nat → Int32} {K : List Cl} (hf : LwF K) {l most : Int32} (hm : 0 ≤ most) : ∀ (rest pre : List Cl) (s : cS), K = pre ++ rest → LwM K s → VM V s → ∃ s', EL (tB l most) (nI pre.length, s) (told V l most rest, s') ∧ Fw mR s s'
  | [], pre, s, hK, hL, hv => by
    obtain ⟨h1, h2, h3, h4, h5⟩ := hL
    have hlen : K.length = pre.length := by rw [hK]; simp
    refine ⟨s, EL.en (Ev.of fun N => ?_), Fw.rf⟩
    show b_X12_toldBy_2 N l most (nI pre.length) s = _
    unfold b_X12_toldBy_2
    rw [h2, if_pos (nI_le (by omega) (by omega))]
    rfl
  | c :: rest, pre, s, hK, hL, hv => by
    have hL0 := hL
    obtain ⟨h1, h2, h3, h4, h5⟩ := hL
    have hlen : K.length = pre.length + (rest.length + 1) := by rw [hK]; simp
    have hi : K[pre.length]? = some c := by rw [hK]; simp
    obtain ⟨a1, a2, a3, a4⟩ := h3 _ _ hi
    obtain ⟨q1, q2⟩ := hf.1 _ _ hi
    have hle := cst_le hi
    have hp : (pre ++ [c]).length = pre.length + 1 := by simp
    have hrec : ∀ {s1 : cS}, Fw mR s s1 → ∃ s', EL (tB l most) (nI (pre.length + 1), s1) (told V l most rest, s') ∧ Fw mR s1 s' := by
      intro s1 hF
      have := m_amount hf (l := l) hm rest (pre ++ [c]) s1 (by rw [hK]; simp) (LwM.rd.fw hF hL0 fun o k z => by unfold lmQ at z; unfold mR; omega) (hv.fw hF)
      rw [hp] at this
      exact this
    have hmem : ∀ {x : Nat × Nat}, x ∈ c.2.1 ++ c.2.2 → x ∈ cds K := by
      intro x hx
      rw [hK]
      unfold cds
      exact List.mem_flatMap.mpr ⟨c, by simp, hx⟩
    have hhead : ∀ N, nI c.1 = l → tB l most N (nI pre.length, s) = ob (f_X12_works N (nI (cst K pre.length + c.2.1.length)) (nI (cst K pre.length + c.2.1.length + c.2.2.length)) s) fun _ s5 => if (iG s5 216 0) = 0 then if (iG s5 215 0) = (1 : Int32) then oR (ob (f_X12_works N (iG s5 203 pre.length) (iG s5 204 pre.length) s5) fun _ s10 => if (iG s10 216 0) = 0 then j_X12_toldBy_96 most (iG s10 215 0) s10 else j_X12_toldBy_96 most (0 : Int32) s10) else j_X12_toldBy_120 l most (nI pre.length) s5 else j_X12_toldBy_120 l most (nI pre.length) s5 := by
      intro N hcl
      show b_X12_toldBy_2 N l most (nI pre.length) s = _
      unfold b_X12_toldBy_2
      rw [h2, if_neg (nI_ge (by omega) (by omega)), if_pos ((inb_n (by omega)).mpr (by omega)), nI_clamp (by omega), a1, if_pos hcl, a3, a4]
    by_cases cl1 : nI c.1 = l
    · obtain ⟨s1, k1, k2, k3⟩ := m_works (V := V) q2 (fr := cst K pre.length + c.2.1.length) (s := s) (fun j x hx => by
        rw [Nat.add_assoc]
        exact h5 _ _ (cds_seg hi (by rw [List.getElem?_append_right (by omega), show c.2.1.length + j - c.2.1.length = j by omega, hx]))) (fun x hx => hf.2 x (hmem (List.mem_append_right _ hx))) hv (by omega)
      have hskip : val V c.2.2 ≠ some 1 → ((iG s1 216 0 = 0 → ¬ iG s1 215 0 = 1)) → ∃ s', EL (tB l most) (nI pre.length, s) (told V l most (c :: rest), s') ∧ Fw mR s s' := by
        intro hn hz
        obtain ⟨s', e1, e2⟩ := hrec k3
        refine ⟨s', EL.st (v' := (nI (pre.length + 1), s1)) (Ev.cg (Ev.bnd k1 (k := fun N _ s5 => if (iG s5 216 0) = 0 then if (iG s5 215 0) = (1 : Int32) then oR (ob (f_X12_works N (iG s5 203 pre.length) (iG s5 204 pre.length) s5) fun _ s10 => if (iG s10 216 0) = 0 then j_X12_toldBy_96 most (iG s10 215 0) s10 else j_X12_toldBy_96 most (0 : Int32) s10) else j_X12_toldBy_120 l most (nI pre.length) s5 else j_X12_toldBy_120 l most (nI pre.length) s5) (Ev.of fun N => ?_)) (fun N => hhead N cl1)) ?_, k3.tr e2⟩
        · unfold j_X12_toldBy_120
          rw [nI_1]
          by_cases z : iG s1 216 0 = 0
          · rw [if_pos z, if_neg (hz z)]
          · rw [if_neg z]
        · unfold told
          rw [if_neg (fun z => hn z.2)]
          exact e1
      cases hvv : val V c.2.2 with
      | none =>
        rw [hvv] at k2
        have z1 : iG s1 216 0 = 1 := k2.1
        exact hskip (by rw [hvv]; simp) (fun z => by rw [z1] at z; exact absurd z (by decide))
      | some v =>
        rw [hvv] at k2
        obtain ⟨⟨z0, z1⟩, -⟩ := k2
        have z0' : iG s1 216 0 = 0 := z0
        have z1' : iG s1 215 0 = v := z1
        by_cases hv1 : v = 1
        · subst hv1
          obtain ⟨s2, m1, m2, m3⟩ := m_works (V := V) q1 (fr := cst K pre.length) (s := s1) (fun j x hx => by
            rw [k3.int (by unfold mR; omega), k3.int (by unfold mR; omega)]
            have hj := (List.getElem?_eq_some_iff.mp hx).1
            exact h5 _ _ (cds_seg hi (by rw [List.getElem?_append_left hj, hx]))) (fun x hx => hf.2 x (hmem (List.mem_append_left _ hx))) (hv.fw k3) (by omega)
          have b2 : iG s1 203 pre.length = nI (cst K pre.length) := by rw [k3.int (by unfold mR; omega)]; exact a2
          have b3 : iG s1 204 pre.length = nI (cst K pre.length + c.2.1.length) := by rw [k3.int (by unfold mR; omega)]; exact a3
          have ht : told V l most (c :: rest) = (match val V c.2.1 with | some y => cl most y | none => 0) := by
            unfold told
            rw [if_pos ⟨cl1, hvv⟩]
            cases val V c.2.1 <;> rfl
          have hend : ∀ y, (if (iG s2 216 0) = 0 then j_X12_toldBy_96 most (iG s2 215 0) s2 else j_X12_toldBy_96 most (0 : Int32) s2) = some (y, s2) → EL (tB l most) (nI pre.length, s) (y, s2) := by
            intro y hy
            refine EL.en (Ev.cg (Ev.bnd k1 (k := fun N _ s5 => if (iG s5 216 0) = 0 then if (iG s5 215 0) = (1 : Int32) then oR (ob (f_X12_works N (iG s5 203 pre.length) (iG s5 204 pre.length) s5) fun _ s10 => if (iG s10 216 0) = 0 then j_X12_toldBy_96 most (iG s10 215 0) s10 else j_X12_toldBy_96 most (0 : Int32) s10) else j_X12_toldBy_120 l most (nI pre.length) s5 else j_X12_toldBy_120 l most (nI pre.length) s5) (Ev.cg (Ev.ret (Ev.bnd m1 (k := fun _ _ s10 => if (iG s10 216 0) = 0 then j_X12_toldBy_96 most (iG s10 215 0) s10 else j_X12_toldBy_96 most (0 : Int32) s10) (Ev.of fun N => hy))) (fun N => ?_))) (fun N => hhead N cl1))
            rw [z0', if_pos rfl, z1', if_pos rfl, b2, b3]
          have h96 : ∀ y, j_X12_toldBy_96 most y s2 = some (cl most y, s2) := by
            intro y
            unfold j_X12_toldBy_96
            rw [← cl_m]
            by_cases z1 : 0 ≤ y
            · rw [if_pos z1, if_pos z1]
              by_cases z2 : y ≤ most
              · rw [if_pos z2, if_pos z2]
              · rw [if_neg z2, if_neg z2]
            · rw [if_neg z1, if_neg z1]
          rw [ht]
          cases hvs : val V c.2.1 with
          | none =>
            rw [hvs] at m2
            have w1 : iG s2 216 0 = 1 := m2.1
            refine ⟨s2, hend 0 ?_, k3.tr m3⟩
            rw [w1, if_neg (by decide)]
            unfold j_X12_toldBy_96
            rw [if_pos (by decide), if_pos hm]
          | some y =>
            rw [hvs] at m2
            obtain ⟨⟨w0, w1⟩, -⟩ := m2
            have w0' : iG s2 216 0 = 0 := w0
            have w1' : iG s2 215 0 = y := w1
            refine ⟨s2, hend (cl most y) ?_, k3.tr m3⟩
            rw [w0', if_pos rfl, w1', h96]
        · exact hskip (by rw [hvv]; simpa using hv1) (fun _ => by rw [z1']; exact hv1)
    · obtain ⟨s', e1, e2⟩ := hrec (s1 := s) Fw.rf
      refine ⟨s', EL.st (v' := (nI (pre.length + 1), s)) (Ev.of fun N => ?_) ?_, e2⟩
      · show b_X12_toldBy_2 N l most (nI pre.length) s = _
        unfold b_X12_toldBy_2 j_X12_toldBy_120
        rw [h2, if_neg (nI_ge (by omega) (by omega)), if_pos ((inb_n (by omega)).mpr (by omega)), nI_clamp (by omega), a1, if_neg cl1, nI_1]
      · unfold told
        rw [if_neg (fun z => cl1 z.1)]
        exact e1
theorem m_told {V : Nat → Int32} {K : List Cl} (hf : LwF K) {l most : Int32} (hm : 0 ≤ most) {s : cS} (hL : LwM K s) (hv : VM V s) : ∃ s', Ev (fun N => f_X12_toldBy N l most s) (told V l most K, s') ∧ Fw mR s s' := by
  obtain ⟨s', e1, e2⟩ := m_amount hf (l := l) hm K [] s rfl hL hv
  exact ⟨s', e1.ev, e2⟩
