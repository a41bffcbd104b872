/-! a new hull: the reference -/
def mHn (h o k : Nat) : Prop := (230 ≤ o ∧ o ≤ 233 ∧ 8 * h ≤ k ∧ k < 8 * h + 8) ∨ ((o = 228 ∨ o = 229) ∧ k = h) ∨ (o = 193 ∧ k = 3)
def mHo (h o k : Nat) : Prop := 230 ≤ o ∧ o ≤ 233 ∧ 8 * h ≤ k ∧ k < 8 * h + 8
theorem fit_mono {m : Nat → Nat} {A : Nat} : ∀ (d c n : Nat), c + d = n → fitS m A c = false → fitS m A n = false := by
  intro d
  induction d with
  | zero => intro c n hc h; rw [show n = c by omega]; exact h
  | succ d ih =>
    intro c n hc h
    refine ih (c + 1) n (by omega) ?_
    show (fitS m A c && _) = false
    rw [h]; rfl
theorem m_hul_lp {n nh A : Nat} {m : Nat → Nat} {s : cS} (hC : CorN n m s) (hnh : nh < 10) (hA : A < 2 ^ 31) : ∀ (d c : Nat) (t : cS), c + d = n → Fw (mHo nh) s t → iG s 193 3 = nI nh → fitS m A c = true → (∀ c', c' < c → HMc (lfS m A s) (fun _ => (0, 0, 0)) nh c' t) → ∃ t', EL (fun _ (v : Int32 × cS) => b_X12_hull_40 (nI A) v.1 v.2) (nI c, t) (if fitS m A n = true then nI nh else -1, t') ∧ (fitS m A n = true → (∀ c', c' < n → HMc (lfS m A s) (fun _ => (0, 0, 0)) nh c' t') ∧ iG t' 228 nh = 0 ∧ iG t' 229 nh = -1 ∧ iG t' 193 3 = nI (nh + 1) ∧ Fw (mHn nh) s t') ∧ (fitS m A n = false → Fw (mHo nh) s t') := by
  have hn8 := hC.1
  have hin10 : inb (nI nh) 10 := (inb_n (by omega)).mpr hnh
  have hcl10 : (nI nh).toNatClampNeg = nh := nI_clamp (by omega)
  intro d
  induction d with
  | zero =>
    intro c t hd hF h3 hf h2
    have hcn : c = n := by omega
    subst hcn
    have h32 : iG t 193 2 = nI c := (hF.int (by unfold mHo; omega)).trans hC.2.2.1
    have h33 : iG t 193 3 = nI nh := (hF.int (by unfold mHo; omega)).trans h3
    refine ⟨iS (iS (iS t 228 nh 0) 229 nh (-1)) 193 3 (nI (nh + 1)), EL.en (Ev.of fun N => ?_), fun _ => ⟨fun c' hc' => h2 c' hc', ?_, ?_, by rw [iG_eq], (((hF.mo fun o k z => Or.inl z).st (by omega)).st (by omega)).st (by omega)⟩, fun w => by rw [hf] at w; cases w⟩
    · show b_X12_hull_40 (nI A) (nI c) t = _
      have e1 : iG (iS t 228 nh 0) 193 3 = nI nh := h33
      have e2 : iG (iS (iS t 228 nh 0) 229 nh (-1)) 193 3 = nI nh := h33
      unfold b_X12_hull_40
      rw [h32, if_pos (nI_le (Nat.le_refl _) (by omega)), if_pos hf]
      simp only [h33, if_pos hin10, hcl10, sb_mk, e1, e2, nI_1, iG_eq]
      rw [show nI (nh + 1) - (1 : Int32) = nI nh from pk_sub (b := 1) (by omega)]
      rfl
    · rw [iG_ne (by decide), iG_ne (by decide), iG_eq]
    · rw [iG_ne (by decide), iG_eq]
  | succ d ih =>
    intro c t hd hF h3 hf h2
    have h32 : iG t 193 2 = nI n := (hF.int (by unfold mHo; omega)).trans hC.2.2.1
    have h33 : iG t 193 3 = nI nh := (hF.int (by unfold mHo; omega)).trans h3
    have hcl : (nI c).toNatClampNeg = c := nI_clamp (by omega)
    have hin : inb (nI c) 8 := (inb_n (by omega)).mpr (by omega)
    have hd4 := dg4_lt (A := A) (c := c)
    obtain ⟨-, -, -, -, -, q6, q7⟩ := hC.2.2.2.1 c (by omega)
    have h199 : iG t 199 c = nI (m c) := (hF.int (by unfold mHo; omega)).trans q6
    have hi : (8 : Int32) * nI nh + nI c = nI (8 * nh + c) := by
      show nI 8 * nI nh + nI c = _
      rw [pk_mul, nI_add]
    have hi80 : inb (nI (8 * nh + c)) 80 := (inb_n (by omega)).mpr (by omega)
    have hc80 : (nI (8 * nh + c)).toNatClampNeg = 8 * nh + c := nI_clamp (by omega)
    have e0 : nI (dg4 A c) ≤ (0 : Int32) ↔ dg4 A c = 0 := by
      have : nI (dg4 A c) ≤ (0 : Int32) ↔ dg4 A c ≤ 0 := nI_leI (b := 0) (by omega) (by decide)
      rw [this]; omega
    have e1 : nI (dg4 A c) < nI (m c) ↔ dg4 A c < m c := nI_ltI (by omega) (by omega)
    have ez : nI (m c) = (0 : Int32) ↔ m c = 0 := nI_eq (b := 0) (by omega) (by decide)
    by_cases z : dg4 A c = 0 ∨ dg4 A c < m c
    · have hf' : fitS m A (c + 1) = true := by
        show (fitS m A c && decide _) = true
        rw [hf, decide_eq_true z]; rfl
      generalize ht1 : iS (iS (iS (iS t 230 (8 * nh + c) (lfS m A s c)) 231 (8 * nh + c) 0) 232 (8 * nh + c) 0) 233 (8 * nh + c) 0 = t1
      have hF1 : Fw (fun o k => 230 ≤ o ∧ o ≤ 233 ∧ k = 8 * nh + c) t t1 := by
        rw [← ht1]
        exact (((Fw.rf.st (by omega)).st (by omega)).st (by omega)).st (by omega)
      have hnew : HMc (lfS m A s) (fun _ => (0, 0, 0)) nh c t1 := by
        rw [← ht1]
        refine ⟨?_, ?_, ?_, ?_⟩
        · rw [iG_ne (by decide), iG_ne (by decide), iG_ne (by decide), iG_eq]
        · rw [iG_ne (by decide), iG_ne (by decide), iG_eq]
        · rw [iG_ne (by decide), iG_eq]
        · rw [iG_eq]
      obtain ⟨t', k1, k2, k3⟩ := ih (c + 1) t1 (by omega) (hF.tr (hF1.mo fun o k w => by unfold mHo; omega)) h3 hf' (fun c' a => by
        by_cases w : c' = c
        · subst w; exact hnew
        · exact (h2 c' (by omega)).fw hF1 fun o _ _ => by omega)
      refine ⟨t', EL.st (v' := (nI (c + 1), t1)) (Ev.of fun N => ?_) k1, k2, k3⟩
      have h108 : j_X12_hull_108 (nI A) (nI c) (nI (8 * nh + c)) (lfS m A s c) t = some (.inl (nI (c + 1), t1)) := by
        have r1 : iG (iS t 230 (8 * nh + c) (lfS m A s c)) 193 3 = nI nh := h33
        have r2 : iG (iS (iS t 230 (8 * nh + c) (lfS m A s c)) 231 (8 * nh + c) 0) 193 3 = nI nh := h33
        have r3 : iG (iS (iS (iS t 230 (8 * nh + c) (lfS m A s c)) 231 (8 * nh + c) 0) 232 (8 * nh + c) 0) 193 3 = nI nh := h33
        unfold j_X12_hull_108
        simp only [if_pos hi80, hc80, sb_mk, r1, r2, r3, hi, nI_1, ht1]
      have h72 : j_X12_hull_72 (nI A) (nI c) (nI (dg4 A c)) t = some (.inl (nI (c + 1), t1)) := by
        have hi4 : (4 : Int32) * nI c + nI (dg4 A c) = nI (4 * c + dg4 A c) := by
          show nI 4 * nI c + nI (dg4 A c) = _
          rw [pk_mul, nI_add]
        have hi32 : inb (nI (4 * c + dg4 A c)) 32 := (inb_n (by omega)).mpr (by omega)
        have hc32 : (nI (4 * c + dg4 A c)).toNatClampNeg = 4 * c + dg4 A c := nI_clamp (by omega)
        unfold j_X12_hull_72
        simp only [if_pos hin, hcl, h199, h33, hi]
        by_cases w : m c = 0
        · rw [if_pos (ez.mpr w)]
          have : lfS m A s c = 0 := by unfold lfS; rw [if_neg (by omega)]
          rw [this] at h108
          exact h108
        · rw [if_neg (fun v => w (ez.mp v))]
          have : lfS m A s c = iG t 200 (4 * c + dg4 A c) := by
            unfold lfS
            rw [if_pos (by omega), hF.int (by unfold mHo; omega)]
            exact (hC.2.2.2.2.2.2 c (dg4 A c) (by omega) (by omega)).1
          rw [this] at h108
          simp only [hi4, if_pos hi32, hc32]
          exact h108
      show b_X12_hull_40 (nI A) (nI c) t = _
      unfold b_X12_hull_40
      rw [h32, if_neg (nI_ge (by omega) (by omega)), h_dig hA (by omega)]
      simp only [if_pos hin, hcl, h199]
      by_cases w : dg4 A c < m c
      · rw [if_pos (e1.mpr w), h72]
      · rw [if_neg (fun v => w (e1.mp v)), if_pos (e0.mpr (z.resolve_right w)), h72]
    · have hf' : fitS m A (c + 1) = false := by
        show (fitS m A c && decide _) = false
        rw [hf, decide_eq_false z]; rfl
      have hfn := fit_mono d (c + 1) n (by omega) hf'
      refine ⟨t, EL.en (Ev.of fun N => ?_), (fun w => by rw [hfn] at w; cases w), fun _ => hF⟩
      show b_X12_hull_40 (nI A) (nI c) t = _
      unfold b_X12_hull_40
      rw [h32, if_neg (nI_ge (by omega) (by omega)), h_dig hA (by omega), hfn, if_neg (c := false = true) (by decide)]
      simp only [if_pos hin, hcl, h199]
      rw [if_neg (fun v => z (Or.inr (e1.mp v))), if_neg (fun v => z (Or.inl (e0.mp v)))]
      rfl
