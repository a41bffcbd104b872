/-! the machine's start gives all that the pure machine asks -/
theorem NWL_in : ∀ q ∈ NWL, Cond.methodLinkNest q.1 q.2.1 q.2.2.1 q.2.2.2 ∈ lw_tbl := by decide +kernel
theorem instK : ∀ ci, ci < 13 → Cond.instantiable (kR ci) (kN ci) ∈ TB := by
  intro ci h
  rcases ci with _ | _ | _ | _ | _ | _ | _ | _ | _ | _ | _ | _ | _ | ci
  · exact iN_0.1
  · exact iN_1.1
  · exact iN_2.1
  · exact iN_3.1
  · exact iN_4.1
  · exact iN_5.1
  · exact iN_6.1
  · exact iN_7.1
  · exact iN_8.1
  · exact iN_9.1
  · exact iN_10.1
  · exact iN_11.1
  · exact iN_12.1
  · omega
theorem TB_lw {w : Cond} (h : w ∈ TB) : w ∈ lw_tbl := (List.mem_filter.mp h).1
theorem open_K {s : State} {args : Array Value} (hts : ∀ w ∈ lw_tbl, w.before args s = true) : ∃ (D : va_G) (cA : Nat → ClassId), va_K D kl ((List.range 6).map fun t => (cA t, aT t)) s := by
  have h1 : ∀ ci, ∃ q : ClassId × (Nat → Nat), ci < 13 → u_Kn s (kR ci) (kF ci) (kN ci) q.1 q.2 := by
    intro ci
    by_cases h : ci < 13
    · obtain ⟨c, iS, hk⟩ := u_known (n := kN ci) hts (fun w hw => TB_lw (kI ci h w hw)) (hts _ (TB_lw (instK ci h)))
      exact ⟨(c, iS), fun _ => hk⟩
    · exact ⟨(0, fun _ => 0), fun q => absurd q h⟩
  have h2 : ∀ t, ∃ cA : ClassId, t < 6 → ArrOfT s cA (aT t) ∧ va_RA s cA (aT t) := by
    intro t
    have prim : ∀ ty : FieldType, (∀ C, ty ≠ .object C) → Cond.arrayClass ty ∈ TB → ∃ cA : ClassId, ArrOfT s cA ty ∧ va_RA s cA ty := by
      intro ty hne hw
      obtain ⟨c, k, comp, q1, q2, q3⟩ := Cond.arrayClass_spec (hts _ (TB_lw hw))
      refine ⟨c, fun n z => ⟨fun k h => (by cases h), k, q2, comp, q3⟩, ?_⟩
      cases ty with
      | object C => exact absurd rfl (hne C)
      | _ => exact q1
    have obj : ∀ C : String, Cond.arrayOver (.object C) ∈ lw_tbl → ∃ cA : ClassId, ArrOfT s cA (.object C) ∧ va_RA s cA (.object C) := by
      intro C hw
      obtain ⟨comp, c, k, q1, -, q3, q4, q5⟩ := Cond.arrayOver_spec (hts _ hw)
      exact ⟨c, fun n z => ⟨fun k h => (by cases h), k, q3, comp, q4⟩, k, comp, q3, q4, q1, q5⟩
    rcases t with _ | _ | _ | _ | _ | _ | t
    · obtain ⟨c, h⟩ := prim .int (fun _ h => by cases h) aC_int; exact ⟨c, fun _ => h⟩
    · obtain ⟨c, h⟩ := prim .long (fun _ h => by cases h) aC_long; exact ⟨c, fun _ => h⟩
    · obtain ⟨c, h⟩ := prim .byte (fun _ h => by cases h) aC_byte; exact ⟨c, fun _ => h⟩
    · obtain ⟨c, h⟩ := prim .boolean (fun _ h => by cases h) aC_boolean; exact ⟨c, fun _ => h⟩
    · obtain ⟨c, h⟩ := obj "HullTank$Strain" (by decide +kernel); exact ⟨c, fun _ => h⟩
    · obtain ⟨c, h⟩ := obj "HullTank$Program" (by decide +kernel); exact ⟨c, fun _ => h⟩
    · exact ⟨0, fun h => by omega⟩
  obtain ⟨f, hf⟩ := Classical.axiomOfChoice h1
  obtain ⟨cA, hA⟩ := Classical.axiomOfChoice h2
  refine ⟨(fun ci => (f ci).1, fun ci => (f ci).2), cA, fun c q hq => ?_, fun k q hq => ?_⟩
  · unfold kl at hq
    rw [List.getElem?_map] at hq
    by_cases h : c < 13
    · rw [List.getElem?_range h] at hq
      cases hq
      exact hf c h
    · rw [List.getElem?_eq_none (by simpa using h)] at hq
      cases hq
  · rw [List.getElem?_map] at hq
    by_cases h : k < 6
    · rw [List.getElem?_range h] at hq
      cases hq
      exact hA k h
    · rw [List.getElem?_eq_none (by simpa using h)] at hq
      cases hq
theorem open_S {s : State} {args : Array Value} {A : Nat → Prop} (hgv : (Jvm.Cond.and given_1 narrow_1).before args s = true) (hts : ∀ w ∈ lw_tbl, w.before args s = true) (hA : ∀ a : Nat, a < s.heap.size → ¬ A a) :
    ∃ sa va : Nat, vk_S 1 [10] strB (fun _ => sa) (fun _ => va) A s s.heap ∧ vk_R "HullTank$LawReader" 91 "prtkcnqhlw" sa s := by
  have hs := flat_of_before _ hgv
  obtain ⟨adK, adV, h1, h2⟩ := vk_Sof (args := args) (s := s) (N := 1) (tm := fun _ => Term.string "HullTank$LawReader" 91) (len := [10]) (byt := strB) (A := A)
    (fun i hi => by obtain rfl : i = 0 := by omega
                    decide)
    (fun i hi => by obtain rfl : i = 0 := by omega
                    exact hs _ (by decide +kernel))
    (fun i hi => by obtain rfl : i = 0 := by omega
                    exact hs _ (by decide +kernel))
    (fun i hi => by obtain rfl : i = 0 := by omega
                    exact hs _ (by decide +kernel))
    (fun i hi => by obtain rfl : i = 0 := by omega
                    exact hs _ (by decide +kernel))
    (fun i hi j hj => by
      obtain rfl : i = 0 := by omega
      have hj' : j < 10 := hj
      rcases j with _ | _ | _ | _ | _ | _ | _ | _ | _ | _ | j
      · exact hs _ (by decide +kernel)
      · exact hs _ (by decide +kernel)
      · exact hs _ (by decide +kernel)
      · exact hs _ (by decide +kernel)
      · exact hs _ (by decide +kernel)
      · exact hs _ (by decide +kernel)
      · exact hs _ (by decide +kernel)
      · exact hs _ (by decide +kernel)
      · exact hs _ (by decide +kernel)
      · exact hs _ (by decide +kernel)
      · omega)
    (fun i j hi hj hij => by omega) hA
  refine ⟨adK 0, adV 0, ⟨fun i hi => by obtain rfl : i = 0 := by omega
                                        exact h1.1 0 hi, fun i j hi hj _ => by omega⟩, ?_⟩
  have hw : Cond.stringRef "HullTank$LawReader" 91 "prtkcnqhlw" ∈ lw_tbl := by decide +kernel
  have hb : (Cond.stringRef "HullTank$LawReader" 91 "prtkcnqhlw").before #[] s = true := by
    have h1 := hts _ hw
    simp only [Cond.before, Cond.holds, Cond.value] at h1 ⊢
    exact h1
  refine ⟨hb, ?_⟩
  have he := h2 0 (by decide)
  exact (Term.string_eval_of_vm rfl).trans he
/-- the claim's walk, out of the steps of the calls -/
theorem open_start {Inv : Nat → cS → Prop} (H : Steps Inv) (hUp : ∀ k s, Inv k s → Inv (k + 1) s) (h0 : Inv 0 s0) {p : Program} {e : Env} {s : State} {m : MethodId} {below : List Frame} {meth : Method} {c : Code} (l : Launch) {b L : Nat} {xs : Nat → Int32} (hL : L ≤ 3072) (C0 : lw_At p s m meth c b L xs) : W p l e room_1 s m #[Value.ref b] below meth c s.heap [] 0 0 (lw_Z below #[Value.ref b] s) (entryFrame m ([Value.ref b] : List Value).toArray 4) := by
  obtain ⟨hx, hb, hr, hml, hown, hts, hX, hbl, hlocks, hgv⟩ := C0
  have hA : ∀ a : Nat, a < s.heap.size → ¬ s.heap.size ≤ a := fun a h => Nat.not_le.mpr h
  obtain ⟨D, cA, hK⟩ := open_K hts
  obtain ⟨sa, va, hSt, hRf⟩ := open_S (A := fun q => s.heap.size ≤ q) hgv hts hA
  obtain ⟨g, hg⟩ : ∃ g : pG, g = (s.heap.size, (b, L, xs), (sa, va), D, cA) := ⟨_, rfl⟩
  have hKP : KP g s := by
    subst hg
    refine ⟨hK, fun q hq => va_Nw.of rfl (hts _ (NWL_in q hq)), va_AO.of (A := #[]) ?_, va_AO.of (A := #[]) ?_, hRf⟩
    · have := hts (.arrayOver (.object "HullTank$Strain")) (by decide +kernel)
      exact this
    · have := hts (.arrayOver (.object "HullTank$Program")) (by decide +kernel)
      exact this
  have hOP : OP g s s.heap := by
    subst hg
    exact ⟨Nat.le_refl _, hbl, hX, hSt, va_Zof (hts _ (by decide +kernel)) (hts _ (by decide +kernel)) (va_eqi (flat_of_before _ hgv _ (by decide +kernel))) hA⟩
  have hCX : CX g (M_L_law meth.name) p s m #[Value.ref b] meth c := ⟨hx, hb, hr, hml, hown, fun w hw => hts w (TB_lw hw), hlocks, rfl, hKP, hOP⟩
  have hRH : RH g z_0 s.heap := ⟨by subst hg; rfl, fun i k h => by cases h⟩
  have hl := lv_entry ([.ref b]) (n := 4) (Nat.le_of_ble_eq_true rfl)
  rw [lg_entry_eq]
  have hl' : lv_has ((lg_sl ([.ref b]) ++ List.replicate (4 - (lg_sl ([.ref b])).length) Slot.unset).toArray) 4 (List.map (rq g) [(0, .float 0)]) := by
    subst hg
    exact hl
  have hgl : gL g ≤ 3072 := by subst hg; exact hL
  have w := law_start (nm := meth.name) (g := g) (l := l) (law_loop H hUp hgl 513 0 s0 (by omega) (by omega) h0) p e s m #[Value.ref b] below meth c s.heap [] _ hCX hRH va_S.rf hl'
  intro T hT X
  obtain ⟨t, h1, h2⟩ := w T hT X
  exact ⟨t, h1, h2 (by subst hg; rfl) (by subst hg; rfl)⟩
