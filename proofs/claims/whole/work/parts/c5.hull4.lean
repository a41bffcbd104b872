/-! hull: the operation -/
theorem fit_lt {m : Nat → Nat} {A n : Nat} (h : A < 2 ^ (2 * n)) : ∀ (d c : Nat), c + d = 8 → n ≤ c → fitS m A 8 = fitS m A c := by
  intro d
  induction d with
  | zero => intro c hc _; rw [show c = 8 by omega]
  | succ d ih =>
    intro c hc hn
    rw [ih (c + 1) (by omega) (by omega)]
    show (fitS m A c && decide (dg4 A c = 0 ∨ dg4 A c < m c)) = fitS m A c
    have : dg4 A c = 0 := by
      unfold dg4
      have h1 : 2 ^ (2 * n) ≤ 2 ^ (2 * c) := Nat.pow_le_pow_right (by decide) (by omega)
      rw [Nat.div_eq_of_lt (by omega)]
    rw [decide_eq_true (Or.inl this), Bool.and_true]
theorem fit_at {m : Nat → Nat} {A : Nat} : ∀ {n : Nat}, fitS m A n = true → ∀ c, c < n → dg4 A c = 0 ∨ dg4 A c < m c
  | 0, _, c, hc => by omega
  | n + 1, h, c, hc => by
    have h' : (fitS m A n && decide (dg4 A n = 0 ∨ dg4 A n < m n)) = true := h
    rw [Bool.and_eq_true] at h'
    by_cases z : c = n
    · subst z
      exact of_decide_eq_true h'.2
    · exact fit_at h'.1 c (by omega)
theorem fit_ge {m : Nat → Nat} {A n : Nat} (hn : n ≤ 8) (h : 2 ^ (2 * n) ≤ A) (hA : A < 65536) (hm : ∀ c, n ≤ c → m c = 0) : fitS m A 8 = false := by
  cases hf : fitS m A 8 with
  | false => rfl
  | true =>
    exfalso
    have hd : ∀ c, n ≤ c → c < 8 → A / 2 ^ (2 * c) % 4 = 0 := by
      intro c h1 h2
      have := fit_at hf c h2
      rw [hm c h1] at this
      unfold dg4 at this
      omega
    have hz : ∀ d, d ≤ 8 - n → A / 2 ^ (2 * (8 - d)) = 0 := by
      intro d
      induction d with
      | zero => intro _; exact Nat.div_eq_of_lt hA
      | succ d ih =>
        intro hd'
        have h1 := ih (by omega)
        have h2 := hd (8 - (d + 1)) (by omega) (by omega)
        have h3 : A / 2 ^ (2 * (8 - d)) = A / 2 ^ (2 * (8 - (d + 1))) / 4 := by
          rw [Nat.div_div_eq_div_mul]
          congr 1
          rw [show 2 * (8 - d) = 2 * (8 - (d + 1)) + 2 by omega, Nat.pow_add]
        omega
    have := hz (8 - n) (Nat.le_refl _)
    rw [show 8 - (8 - n) = n by omega] at this
    have h0 : 0 < A / 2 ^ (2 * n) := Nat.div_pos h (Nat.pow_pos (by decide))
    omega
def hlnP (o k : Nat) : Prop := o = 34 ∨ o = 35 ∨ (36 ≤ o ∧ o ≤ 115 ∧ 1 ≤ k ∧ k ≤ 9) ∨ (o = 32 ∧ k = 4) ∨ (228 ≤ o ∧ o ≤ 233) ∨ (o = 193 ∧ k = 3)
theorem m_hull {n nh : Nat} {m : Nat → Nat} {s : cS} (hC : CorN n m s) (hH : HulI n nh s) (a0 : Int32) : ∃ r s1 s2, r_X11_hull a0 s r s1 ∧ r_X12_hull a0 s1 r s2 ∧ (∃ nh', HulI n nh' s2) ∧ Fw hlnP s s2 := by
  have hH0 := hH
  obtain ⟨i1, i2, i3, i4⟩ := hH
  have hn8 := hC.1
  have hnone : Ev (fun N => f_X11_hull N a0 s) (-1, s) → f_X12_hull 0 a0 s = some (-1, s) → ∃ r s1 s2, r_X11_hull a0 s r s1 ∧ r_X12_hull a0 s1 r s2 ∧ (∃ nh', HulI n nh' s2) ∧ Fw hlnP s s2 := fun h1 h2 => ⟨-1, s, s, h1.ex, ⟨0, h2⟩, ⟨nh, hH0⟩, Fw.rf⟩
  -- what the class says to a choice that does not fit
  have hno : Ev (fun N => f_X1_fits N a0 s) (0, s) → Ev (fun N => f_X11_hull N a0 s) (-1, s) := by
    intro h
    refine Ev.cg (Ev.bnd h (k := fun N r1 s2 => if r1 = 0 then some ((-1 : Int32), s2) else if (10 : Int32) ≤ (f_X2_size s2) then some ((-1 : Int32), s2) else if (f_X1_size s2) = 0 then some ((-1 : Int32), s2) else ob (f_X2_add N a0 s2) fun r9 s10 => some ((r9, s10))) (Ev.of fun N => ?_)) (fun N => rfl)
    rw [if_pos rfl]
  have hbound : ((1 : Int32) <<< (((2 : Int32) * nI n) &&& 31)) - (1 : Int32) = nI (2 ^ (2 * n) - 1) := by
    have : ∀ n, n ≤ 8 → ((1 : Int32) <<< (((2 : Int32) * nI n) &&& 31)) - (1 : Int32) = nI (2 ^ (2 * n) - 1) := by decide +kernel
    exact this n hn8
  have hp : 2 ^ (2 * n) ≤ 65536 ∧ 1 ≤ 2 ^ (2 * n) := by
    have : ∀ n, n ≤ 8 → 2 ^ (2 * n) ≤ 65536 ∧ 1 ≤ 2 ^ (2 * n) := by decide +kernel
    exact this n hn8
  have e10 : nI nh = (10 : Int32) ↔ nh = 10 := nI_eq (b := 10) (by omega) (by decide)
  have e0 : nI n = (0 : Int32) ↔ n = 0 := nI_eq (b := 0) (by omega) (by decide)
  have hlin : lIn a0.toInt64 (0 : Int64) ((((1 : Int32) <<< (((2 : Int32) * (iG s 193 2)) &&& 31)) - (1 : Int32)).toInt64) = wB a0 0 (nI (2 ^ (2 * n) - 1)) := by
    rw [hC.2.2.1, hbound]
    exact lIn_w (a' := 0) (b' := nI (2 ^ (2 * n) - 1)) rfl l_i
  -- what the reference says to a choice out of its bound
  have hout : wB a0 0 (nI (2 ^ (2 * n) - 1)) = 0 → f_X12_hull 0 a0 s = some (-1, s) := by
    intro h
    unfold f_X12_hull
    rw [hlin, if_pos h]
    split
    · rfl
    · split <;> rfl
  by_cases c0 : a0 < 0
  · refine hnone (hno (Ev.of fun N => ?_)) (hout (wB_0.mpr fun z => Int32.not_le.mpr c0 z.1))
    unfold f_X1_fits
    rw [if_pos c0]
  · obtain ⟨A, hA, rfl⟩ := nI_of c0
    have hsh : nI A >>> ((16 : Int32) &&& 31) = nI (A / 65536) := pk_shrN hA _ 16 (by decide)
    have hle : A / 65536 ≤ A := Nat.div_le_self _ _
    have hfit : ∀ (b : Bool), (if A < 65536 then fitS m A 8 else false) = b → Ev (fun N => f_X1_fits N (nI A) s) (if b = true then 1 else 0, s) := by
      intro b hb
      by_cases c1 : A < 65536
      · rw [if_pos c1] at hb
        have h1 := x_fits_lp (s := s) (m := m) hA (fun c hc => ⟨(hC.2.2.2.1 c hc).2.2.2.2.1, (hC.2.2.2.1 c hc).2.2.2.2.2.2⟩) 8 0 rfl rfl
        rw [hb] at h1
        refine Ev.cg h1.ev (fun N => ?_)
        unfold f_X1_fits
        rw [if_neg c0, hsh, if_pos (c := nI (A / 65536) = (0 : Int32)) ((nI_eq (b := 0) (by omega) (by decide)).mpr (by omega))]
        rfl
      · rw [if_neg c1] at hb
        subst hb
        refine Ev.of fun N => ?_
        unfold f_X1_fits
        rw [if_neg c0, hsh, if_neg (c := nI (A / 65536) = (0 : Int32)) (fun z => by have := (nI_eq (a := A / 65536) (b := 0) (by omega) (by decide)).mp z; omega)]
        rfl
    by_cases c2 : A < 2 ^ (2 * n)
    · have hf8 : (if A < 65536 then fitS m A 8 else false) = fitS m A n := by
        rw [if_pos (by omega)]
        exact fit_lt c2 (8 - n) n (by omega) (Nat.le_refl _)
      have hin : ¬ wB (nI A) 0 (nI (2 ^ (2 * n) - 1)) = 0 := by
        rw [show wB (nI A) 0 (nI (2 ^ (2 * n) - 1)) = 1 from wB_in (m := 0) (by omega) (by omega) (by omega)]
        decide
      have hgoX : ∀ {q : Int32 × cS}, Ev (fun N => if (10 : Int32) ≤ nI nh then some ((-1 : Int32), s) else if nI n = 0 then some ((-1 : Int32), s) else ob (f_X2_add N (nI A) s) fun r9 s10 => some ((r9, s10))) q → fitS m A n = true → Ev (fun N => f_X11_hull N (nI A) s) q := by
        intro q kq hf
        have h1 := hfit true (by rw [hf8, hf])
        rw [if_pos rfl] at h1
        refine Ev.cg (Ev.bnd h1 (k := fun N r1 s2 => if r1 = 0 then some ((-1 : Int32), s2) else if (10 : Int32) ≤ (f_X2_size s2) then some ((-1 : Int32), s2) else if (f_X1_size s2) = 0 then some ((-1 : Int32), s2) else ob (f_X2_add N (nI A) s2) fun r9 s10 => some ((r9, s10))) (Ev.cg kq fun N => ?_)) (fun N => rfl)
        unfold f_X2_size f_X1_size
        rw [if_neg (by decide), i2, hC.2.1]
      have hno2 : fitS m A n = false → Ev (fun N => f_X11_hull N (nI A) s) (-1, s) := fun hf => by
        have h1 := hfit false (by rw [hf8, hf])
        exact hno h1
      by_cases c3 : nh = 10
      · refine hnone ?_ ?_
        · cases hf : fitS m A n with
          | false => exact hno2 hf
          | true =>
            refine hgoX (Ev.of fun N => ?_) hf
            rw [if_pos (c := (10 : Int32) ≤ nI nh) (nI_le (a := 10) (by omega) (by omega))]
        · unfold f_X12_hull
          rw [i3, if_pos (e10.mpr c3)]
      · by_cases c4 : n = 0
        · refine hnone ?_ ?_
          · cases hf : fitS m A n with
            | false => exact hno2 hf
            | true =>
              refine hgoX (Ev.of fun N => ?_) hf
              rw [if_neg (c := (10 : Int32) ≤ nI nh) (nI_ge (b := 10) (by omega) (by omega)), if_pos (e0.mpr c4)]
          · unfold f_X12_hull
            rw [i3, if_neg (fun z => c3 (e10.mp z)), hC.2.2.1, if_pos (e0.mpr c4)]
        · have hgoM : ∀ {t : cS} {q : Int32 × cS}, iG t 193 2 = nI n → iG t 193 3 = nI nh → EL (fun _ (v : Int32 × cS) => b_X12_hull_40 (nI A) v.1 v.2) (nI 0, t) q → Ev (fun N => f_X12_hull N (nI A) t) q := by
            intro t q h2 h3 kq
            refine Ev.cg kq.ev (fun N => ?_)
            have hl2 : lIn (nI A).toInt64 (0 : Int64) ((((1 : Int32) <<< (((2 : Int32) * (nI n)) &&& 31)) - (1 : Int32)).toInt64) = wB (nI A) 0 (nI (2 ^ (2 * n) - 1)) := by
              rw [← hlin, hC.2.2.1]
            unfold f_X12_hull
            rw [h3, if_neg (fun z => c3 (e10.mp z)), h2, if_neg (fun z => c4 (e0.mp z)), hl2, if_neg hin]
            rfl
          cases hf : fitS m A n with
          | false =>
            obtain ⟨t2, k1, -, k3⟩ := m_hul_lp (nh := nh) (A := A) hC (by omega) hA n 0 s (by omega) Fw.rf i3 rfl (fun c' a => by omega)
            rw [hf, if_neg (by decide)] at k1
            have hF := k3 hf
            refine ⟨-1, s, t2, (hno2 hf).ex, (hgoM hC.2.2.1 i3 k1).ex, ⟨nh, i1, (hF.int (by unfold mHo; omega)).trans i2, (hF.int (by unfold mHo; omega)).trans i3, fun h hh => HulH.rd.fw hF (i4 h hh) fun o k z => by unfold hulHQ at z; unfold mHo; omega⟩, hF.mo fun o k z => by unfold mHo at z; unfold hlnP; omega⟩
          | true =>
            obtain ⟨t1, k1, k2, k3, k4, k5, k6⟩ := x_add_lp (nh := nh) (A := A) hC (by omega) hA n 0 s (by omega) Fw.rf i2 (fun c' a => by omega)
            have hX : Ev (fun N => f_X11_hull N (nI A) s) (nI nh, t1) := by
              refine hgoX (Ev.cg (Ev.bnd (f := fun N => f_X2_add N (nI A) s) (Ev.cg k1.ev fun N => rfl) (k := fun _ r9 s10 => some ((r9, s10))) (Ev.of fun N => rfl)) fun N => ?_) hf
              rw [if_neg (c := (10 : Int32) ≤ nI nh) (nI_ge (b := 10) (by omega) (by omega)), if_neg (fun z => c4 (e0.mp z))]
            have hC1 : CorN n m t1 := hC.fw k6 fun o k z => by unfold corQ at z; unfold xHn; omega
            have hlf : ∀ c, c < n → lfS m A t1 c = lfS m A s c := by
              intro c hc
              unfold lfS
              rw [k6.int (by unfold xHn; omega)]
            have g193 : ∀ k, iG t1 193 k = iG s 193 k := fun k => k6.int (by unfold xHn; omega)
            obtain ⟨t2, l1, l2, -⟩ := m_hul_lp (nh := nh) (A := A) hC1 (by omega) hA n 0 t1 (by omega) Fw.rf ((g193 3).trans i3) rfl (fun c' a => by omega)
            rw [hf, if_pos rfl] at l1
            obtain ⟨l3, l4, l5, l6, l7⟩ := l2 hf
            have hF : Fw (fun o k => xHn nh o k ∨ mHn nh o k) s t2 := (k6.mo fun _ _ z => Or.inl z).tr (l7.mo fun _ _ z => Or.inr z)
            refine ⟨nI nh, t1, t2, hX.ex, (hgoM ((g193 2).trans hC.2.2.1) ((g193 3).trans i3) l1).ex, ⟨nh + 1, by omega, (l7.int (by unfold mHn; omega)).trans k5, l6, fun h hh => ?_⟩, hF.mo fun o k z => ?_⟩
            · by_cases z : h = nh
              · subst z
                have d1 : ∀ c, c < n → ∀ k, iG t2 (sT h c) k = iG t1 (sT h c) k := fun c hc k => l7.int (by unfold mHn sT; omega)
                refine ⟨hn8, 0, lfS m A s, fun _ => (0, 0, 0), by omega, (l7.int (by unfold mHn; omega)).trans k3, l4, ((l7.int (by unfold mHn; omega)).trans k4).trans l5.symm, fun c hc => ?_, fun _ => ⟨fun c hc => ?_, fun c hc => ⟨?_, fun _ => ?_⟩⟩⟩
                · obtain ⟨a1, a2, a3, a4, a5⟩ := k2 c hc
                  obtain ⟨b1, b2, b3, b4⟩ := l3 c hc
                  refine ⟨(d1 c hc 1).trans a1, (d1 c hc 2).trans a2, ?_, b1.trans (hlf c hc), b2, b3, b4⟩
                  rw [← a3]
                  unfold x3
                  rw [d1 c hc, d1 c hc, d1 c hc]
                · obtain ⟨a1, a2, a3, a4, a5⟩ := k2 c hc
                  exact ⟨(d1 c hc 8).trans a4, fun v => (d1 c hc 6).trans (a5 v)⟩
                · show SB ((0 : Int32), (0 : Int32), (0 : Int32))
                  unfold SB
                  decide
                · show (0 : Int32) < iG t2 7 c
                  have h7 : iG t2 7 c = iG s 7 c := hF.int (by unfold xHn mHn; omega)
                  rw [h7, lti]
                  have := (hC.2.2.2.2.2.1 c hc).1
                  have h0 : (0 : Int32).toInt = 0 := rfl
                  omega
              · refine HulH.rd.fw hF (i4 h (by omega)) fun o k w => ?_
                unfold hulHQ at w
                unfold xHn mHn
                omega
            · unfold xHn mHn at z
              unfold hlnP
              omega
    · refine hnone (hno (hfit false ?_)) (hout (wB_0.mpr fun z => c2 ?_))
      · by_cases c1 : A < 65536
        · rw [if_pos c1]
          exact fit_ge hn8 (by omega) c1 hC.2.2.2.2.1
        · rw [if_neg c1]
      · have := (nI_leI hA (by omega)).mp z.2
        omega
