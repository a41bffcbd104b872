/-! what holds between calls -/
def Inv (k : Nat) (s : cS) : Prop := ∃ K n m P nt q nh st, st ≤ k ∧ AllI K n m P nt st s ∧ TriI P nt q s ∧ HulI n nh s ∧ TapI s ∧ BedI s ∧ StoI s
theorem inv_up : ∀ k s, Inv k s → Inv (k + 1) s := fun k s ⟨K, n, m, P, nt, q, nh, st, h, h'⟩ => ⟨K, n, m, P, nt, q, nh, st, by omega, h'⟩
theorem zz (o k : Nat) : iG s0 o k = fillw 236 (-1) 10 (fillw 235 5 60 (upd2 (upd2 (fillw 157 (-1) 10 (fillw 156 5 60 w_0)) 162 3 1) 193 69 1)) o k := rfl
theorem z_o {o k : Nat} (h : o < 156 ∨ (157 < o ∧ o < 162) ∨ (162 < o ∧ o < 193) ∨ (193 < o ∧ o < 235) ∨ 236 < o) : iG s0 o k = 0 := by
  rw [zz, fillw_ne (by omega), fillw_ne (by omega), upd2_ne (by omega), upd2_ne (by omega), fillw_ne (by omega), fillw_ne (by omega)]
  rfl
theorem zz_193 {k : Nat} : iG s0 193 k = if k = 69 then 1 else 0 := by
  rw [zz, fillw_ne (by omega), fillw_ne (by omega)]
  by_cases h : k = 69
  · subst h
    rw [upd2_eq, if_pos rfl]
  · rw [upd2_nk h, upd2_ne (by omega), fillw_ne (by omega), fillw_ne (by omega), if_neg h]
    rfl
theorem zz_162 {k : Nat} : iG s0 162 k = if k = 3 then 1 else 0 := by
  rw [zz, fillw_ne (by omega), fillw_ne (by omega), upd2_ne (by omega)]
  by_cases h : k = 3
  · subst h
    rw [upd2_eq, if_pos rfl]
  · rw [upd2_nk h, fillw_ne (by omega), fillw_ne (by omega), if_neg h]
    rfl
theorem zz_156 {k : Nat} (h : k < 60) : iG s0 156 k = 5 ∧ iG s0 235 k = 5 := by
  constructor
  · rw [zz, fillw_ne (by omega), fillw_ne (by omega), upd2_ne (by omega), upd2_ne (by omega), fillw_ne (by omega), fillw_eq h]
  · rw [zz, fillw_ne (by omega), fillw_eq h]
theorem zz_157 {k : Nat} (h : k < 10) : iG s0 157 k = -1 ∧ iG s0 236 k = -1 := by
  constructor
  · rw [zz, fillw_ne (by omega), fillw_ne (by omega), upd2_ne (by omega), upd2_ne (by omega), fillw_eq h]
  · rw [zz, fillw_eq h]
theorem inv_0 : Inv 0 s0 := by
  have z1 : ∀ k, k ≠ 69 → iG s0 193 k = 0 := fun k hk => by rw [zz_193, if_neg hk]
  refine ⟨[], 0, fun _ => 0, fun _ => [], 0, fun _ => (0, 0, 0, 0), 0, 0, Nat.le_refl _, ⟨?_, ?_, ?_, ?_⟩, ?_, ?_, ?_, ?_, ?_⟩
  · refine ⟨by omega, z_o (by omega), z1 2 (by decide), fun c hc => ?_, fun _ _ => rfl, fun c hc => by omega, fun c i hc hi => ?_⟩
    · rw [z_o (o := 4) (by omega), z_o (o := 5) (by omega), z_o (o := 6) (by omega), z_o (o := 7) (by omega), z_o (o := 8) (by omega), z_o (o := 195) (by omega), z_o (o := 196) (by omega), z_o (o := 197) (by omega), z_o (o := 198) (by omega), z_o (o := 199) (by omega)]
      exact ⟨rfl, rfl, rfl, rfl, rfl, rfl, Nat.zero_le _⟩
    · exact absurd hi (Nat.not_lt_zero _)
  · refine ⟨Or.inl ⟨rfl, rfl⟩, ⟨fun _ => (0, 0), 0, fun i hi => absurd hi (Nat.not_lt_zero _), z_o (show 11 < 156 ∨ _ from Or.inl (by decide)), by decide, fun i c hi => ?_, fun x hx => ?_, z_o (show 11 < 156 ∨ _ from Or.inl (by decide)), by decide, fun i c hi => ?_, by decide⟩, by decide, z1 15 (by decide), fun i c hi => ?_, by decide, fun i x hi => ?_⟩
    · simp at hi
    · cases hx
    · simp at hi
    · simp at hi
    · simp [cds] at hi
  · refine ⟨fun j hj => ⟨⟨Nat.zero_le _, z_o ?_, z_o ?_, Nat.zero_le _, fun x y hy => by simp at hy⟩, ⟨Nat.zero_le _, z_o (by omega), z_o (by omega), Nat.zero_le _, fun x y hy => by simp at hy⟩⟩, ⟨by decide, z_o (by omega), z_o (by omega), by decide, fun x y hy => by simp at hy⟩⟩
    all_goals (unfold prT; split <;> omega)
  · exact ⟨z_o (by omega), by decide, by decide, fun c hc => ⟨0, Nat.le_refl _, z_o (by omega)⟩, fun c hc => absurd hc (Nat.not_lt_zero _)⟩
  · exact ⟨by decide, z_o (by omega), z1 4 (by decide), fun i hi => absurd hi (Nat.not_lt_zero _)⟩
  · exact ⟨by decide, z_o (by omega), z1 3 (by decide), fun i hi => absurd hi (Nat.not_lt_zero _)⟩
  · refine ⟨0, fun _ => 0, by decide, z_o (by omega), z1 1 (by decide), fun _ => (by decide : 0 < 256), fun i hi => ⟨z_o (by omega), ?_⟩⟩
    rw [z_o (by omega)]
    show (0 : Int32) &&& 255 = nI 0
    decide
  · refine ⟨0, by decide, ?_, z1 7 (by decide), ?_, ?_, ?_, ?_, ?_, ?_, fun i hi => ?_⟩
    · rw [zz_162]; rfl
    · rw [zz_162, zz_193]; rfl
    · rw [zz_193]; decide
    · rw [zz_162, zz_193]; rfl
    · rw [zz_162, zz_193]; rfl
    · rw [zz_193]; decide
    · rw [zz_193]; decide
    · rw [z_o (by omega), z_o (by omega), z_o (by omega), z_o (by omega)]
      exact ⟨rfl, rfl⟩
  · refine ⟨0, 0, by decide, by decide, z_o (by omega), z1 5 (by decide), z_o (by omega), z1 6 (by decide), fun i hi => ⟨0, by decide, z_o (by omega), z_o (by omega)⟩, fun i hi => ⟨5, by decide, (zz_156 hi).1, (zz_156 hi).2⟩, fun i hi => ?_, fun i hi => ⟨0, by decide, z_o (by omega), z_o (by omega)⟩, rfl⟩
    rw [(zz_157 hi).1, (zz_157 hi).2]
theorem OddI.new {K K' : List Cl} {n n' nt st : Nat} {m m' : Nat → Nat} {P P' : Nat → List (Nat × Nat)} {s t : cS} (h : OddI K n m P nt st s) (e1 : iG t 3 8 = iG s 3 8 + 1) (hst : st < 999) (e2 : ∀ c, iG t 119 c = iG s 119 c) (hn : n' ≤ 8) : OddI K' n' m' P' nt (st + 1) t := by
  obtain ⟨o1, o2, o3, o4, o5⟩ := h
  have e3 : iG t 3 8 = nI (st + 1) := by rw [e1, o1, nI_1]
  refine ⟨e3, by omega, o3, fun c hc => ?_, fun c hc z => ?_⟩
  · obtain ⟨a, a1, a2⟩ := o4 c hc
    exact ⟨a, by omega, (e2 c).trans a2⟩
  · exfalso
    obtain ⟨a, a1, a2⟩ := o4 c (by omega)
    rw [e2 c, a2, e3] at z
    have := (nI_eq (by omega) (by omega)).mp z
    omega
theorem TriI.pr {P P' : Nat → List (Nat × Nat)} {nt : Nat} {q : Nat → TrQ} {s t : cS} (h : TriI P nt q t) (hP : PrgI P s) (hP' : PrgI P' t) (hF : ∀ i, i < 8 → iG t (130 + 3 * i) 3 = iG s (130 + 3 * i) 3) : TriI P' nt q t := by
  obtain ⟨h1, h2, h3, h4⟩ := h
  refine ⟨h1, h2, h3, fun i hi => ?_⟩
  have e1 := (hP.1 (8 + i) (by omega)).1
  have e2 := (hP'.1 (8 + i) (by omega)).1
  have ep : prT (8 + i) = 130 + 3 * i := by
    unfold prT
    rw [if_neg (by omega)]
    omega
  rw [ep] at e1 e2
  have e3 := hF i (by omega)
  rw [e1.2.2.1, e2.2.2.1] at e3
  have h5 := e1.2.2.2.1
  have h6 := e2.2.2.2.1
  have e4 : pls (P' (8 + i)) = pls (P (8 + i)) := (nI_eq (by omega) (by omega)).mp e3
  rw [e4]
  exact h4 i hi
theorem sp_corner : Sp_corner Inv := by
  intro k s a0 a1 a2 a3 hk ⟨K, n, m, P, nt, q, nh, st, hst, hA, hT, hH, hTp, hB, hS⟩
  have hA0 := hA
  obtain ⟨hC, hL, hP, hO⟩ := hA
  obtain ⟨r, s1, s2, h1, h2, hF, h3⟩ := m_corner hC hH.2.1 hH.2.2.1 hH.1 a0 a1 a2 a3
  refine ⟨r, s1, s2, h1, h2, ?_⟩
  rcases h3 with rfl | ⟨h4, h5, h6⟩
  · exact ⟨K, n, m, P, nt, q, nh, st, by omega, hA0, hT, hH, hTp, hB, hS⟩
  · subst h4
    exact ⟨K, n + 1, m, P, nt, q, 0, st + 1, by omega, ⟨h6, hL.fx (by rw [hF.1]) (by rw [hF.1]) hF.x (fun o k z => by unfold lawQ lmQ at z; unfold corP corQ; omega), PrgI.rd.fw hF hP (fun o k z => by unfold prgQ at z; unfold corP corQ; omega), hO.new h5 (by omega) (fun c => hF.int (by unfold corP corQ; omega)) h6.1⟩, TriI.rd.fw hF hT (fun o k z => by unfold triQ at z; unfold corP corQ; omega), ⟨by decide, (hF.int (by unfold corP corQ; omega)).trans hH.2.1, (hF.int (by unfold corP corQ; omega)).trans hH.2.2.1, fun h hh => absurd hh (Nat.not_lt_zero _)⟩, TapI.rd.fw hF hTp (fun o k z => by unfold tapQ at z; unfold corP corQ; omega), BedI.rd.fw hF hB (fun o k z => by unfold bedQ at z; unfold corP corQ; omega), StoI.rd.fw hF hS (fun o k z => by unfold stoQ at z; unfold corP corQ; omega)⟩
theorem sp_life : Sp_life Inv := by
  intro k s a0 a1 a2 hk ⟨K, n, m, P, nt, q, nh, st, hst, hA, hT, hH, hTp, hB, hS⟩
  have hA0 := hA
  obtain ⟨hC, hL, hP, hO⟩ := hA
  obtain ⟨r, s1, s2, h1, h2, hF, h3⟩ := m_life hC hH.2.1 hH.2.2.1 hH.1 a0 a1 a2
  refine ⟨r, s1, s2, h1, h2, ?_⟩
  rcases h3 with rfl | ⟨h4, h5, m', h6⟩
  · exact ⟨K, n, m, P, nt, q, nh, st, by omega, hA0, hT, hH, hTp, hB, hS⟩
  · subst h4
    exact ⟨K, n, m', P, nt, q, 0, st + 1, by omega, ⟨h6, hL.fx (by rw [hF.1]) (by rw [hF.1]) hF.x (fun o k z => by unfold lawQ lmQ at z; unfold corP corQ; omega), PrgI.rd.fw hF hP (fun o k z => by unfold prgQ at z; unfold corP corQ; omega), hO.new h5 (by omega) (fun c => hF.int (by unfold corP corQ; omega)) h6.1⟩, TriI.rd.fw hF hT (fun o k z => by unfold triQ at z; unfold corP corQ; omega), ⟨by decide, (hF.int (by unfold corP corQ; omega)).trans hH.2.1, (hF.int (by unfold corP corQ; omega)).trans hH.2.2.1, fun h hh => absurd hh (Nat.not_lt_zero _)⟩, TapI.rd.fw hF hTp (fun o k z => by unfold tapQ at z; unfold corP corQ; omega), BedI.rd.fw hF hB (fun o k z => by unfold bedQ at z; unfold corP corQ; omega), StoI.rd.fw hF hS (fun o k z => by unfold stoQ at z; unfold corP corQ; omega)⟩
theorem sp_feed : Sp_feed Inv := by
  intro k s a0 a1 a2 a3 a4 hk ⟨K, n, m, P, nt, q, nh, st, hst, hA, hT, hH, hTp, hB, hS⟩
  have hA0 := hA
  obtain ⟨hC, hL, hP, hO⟩ := hA
  obtain ⟨r, s1, s2, h1, h2, h3, hF⟩ := m_feed hTp a0 a1 a2 a3 a4
  exact ⟨r, s1, s2, h1, h2, K, n, m, P, nt, q, nh, st, by omega, ⟨hC.fw hF (fun o k z => by unfold corQ at z; unfold tapP; omega), hL.fx (by rw [hF.1]) (by rw [hF.1]) hF.x (fun o k z => by unfold lawQ lmQ at z; unfold tapP; omega), PrgI.rd.fw hF hP (fun o k z => by unfold prgQ at z; unfold tapP; omega), hO.fw hF (fun o k z => by unfold oddQ at z; unfold tapP; omega)⟩, TriI.rd.fw hF hT (fun o k z => by unfold triQ at z; unfold tapP; omega), HulI.rd.fw hF hH (fun o k z => by unfold hulQ at z; unfold tapP; omega), h3, BedI.rd.fw hF hB (fun o k z => by unfold bedQ at z; unfold tapP; omega), StoI.rd.fw hF hS (fun o k z => by unfold stoQ at z; unfold tapP; omega)⟩
theorem sp_law : Sp_law Inv := by
  intro k s a0 hk ⟨K, n, m, P, nt, q, nh, st, hst, hA, hT, hH, hTp, hB, hS⟩
  have hA0 := hA
  obtain ⟨hC, hL, hP, hO⟩ := hA
  obtain ⟨r, s1, s2, h1, h2, h3, h4, h5, hF⟩ := m_law hTp ⟨K, hL⟩ a0
  refine ⟨r, s1, s2, h1, h2, ?_⟩
  rcases h5 with ⟨h6, h7⟩ | h6
  · exact ⟨K, n, m, P, nt, q, nh, st, by omega, ⟨CorN.rd.fx hF hC (fun o k z => by unfold corQ at z; unfold lawP; omega), h7 K hL, PrgI.rd.fx hF hP (fun o k z => by unfold prgQ at z; unfold lawP; omega), hO.cg fun o k z => if h : o = 3 ∧ k = 8 then (by obtain ⟨rfl, rfl⟩ := h; exact h6) else hF.1 o k (by unfold oddQ at z; unfold lawP; omega)⟩, TriI.rd.fx hF hT (fun o k z => by unfold triQ at z; unfold lawP; omega), HulI.rd.fx hF hH (fun o k z => by unfold hulQ at z; unfold lawP; omega), h3, BedI.rd.fx hF hB (fun o k z => by unfold bedQ at z; unfold lawP; omega), StoI.rd.fx hF hS (fun o k z => by unfold stoQ at z; unfold lawP; omega)⟩
  · obtain ⟨K', h7⟩ := h4
    exact ⟨K', n, m, P, nt, q, nh, st + 1, by omega, ⟨CorN.rd.fx hF hC (fun o k z => by unfold corQ at z; unfold lawP; omega), h7, PrgI.rd.fx hF hP (fun o k z => by unfold prgQ at z; unfold lawP; omega), hO.new h6 (by omega) (fun c => hF.1 119 c (by unfold lawP; omega)) hC.1⟩, TriI.rd.fx hF hT (fun o k z => by unfold triQ at z; unfold lawP; omega), HulI.rd.fx hF hH (fun o k z => by unfold hulQ at z; unfold lawP; omega), h3, BedI.rd.fx hF hB (fun o k z => by unfold bedQ at z; unfold lawP; omega), StoI.rd.fx hF hS (fun o k z => by unfold stoQ at z; unfold lawP; omega)⟩
theorem sp_program : Sp_program Inv := by
  intro k s a0 a1 hk ⟨K, n, m, P, nt, q, nh, st, hst, hA, hT, hH, hTp, hB, hS⟩
  have hA0 := hA
  obtain ⟨hC, hL, hP, hO⟩ := hA
  obtain ⟨r, s1, s2, h1, h2, h3, hF, h4⟩ := m_program hTp hP a0 a1
  have hT2 : TriI P nt q s2 := TriI.rd.fw hF hT (fun o k z => by unfold triQ at z; unfold prgP; omega)
  refine ⟨r, s1, s2, h1, h2, ?_⟩
  rcases h4 with ⟨h5, h6⟩ | ⟨h5, P', h6⟩
  · exact ⟨K, n, m, P, nt, q, nh, st, by omega, ⟨hC.fw hF (fun o k z => by unfold corQ at z; unfold prgP; omega), hL.fx (by rw [hF.1]) (by rw [hF.1]) hF.x (fun o k z => by unfold lawQ lmQ at z; unfold prgP; omega), h6, hO.cg fun o k z => if h : o = 3 ∧ k = 8 then (by obtain ⟨rfl, rfl⟩ := h; exact h5) else hF.int (by unfold oddQ at z; unfold prgP; omega)⟩, hT2, HulI.rd.fw hF hH (fun o k z => by unfold hulQ at z; unfold prgP; omega), h3, BedI.rd.fw hF hB (fun o k z => by unfold bedQ at z; unfold prgP; omega), StoI.rd.fw hF hS (fun o k z => by unfold stoQ at z; unfold prgP; omega)⟩
  · exact ⟨K, n, m, P', nt, q, nh, st + 1, by omega, ⟨hC.fw hF (fun o k z => by unfold corQ at z; unfold prgP; omega), hL.fx (by rw [hF.1]) (by rw [hF.1]) hF.x (fun o k z => by unfold lawQ lmQ at z; unfold prgP; omega), h6, hO.new h5 (by omega) (fun c => hF.int (by unfold prgP; omega)) hC.1⟩, hT2.pr hP h6 fun i hi => hF.int (by unfold prgP; omega), HulI.rd.fw hF hH (fun o k z => by unfold hulQ at z; unfold prgP; omega), h3, BedI.rd.fw hF hB (fun o k z => by unfold bedQ at z; unfold prgP; omega), StoI.rd.fw hF hS (fun o k z => by unfold stoQ at z; unfold prgP; omega)⟩
theorem sp_pull : Sp_pull Inv := by
  intro k s a0 a1 a2 hk ⟨K, n, m, P, nt, q, nh, st, hst, hA, hT, hH, hTp, hB, hS⟩
  have hA0 := hA
  obtain ⟨hC, hL, hP, hO⟩ := hA
  obtain ⟨r, s1, s2, h1, h2, hF⟩ := m_pull hC hL a0 a1 a2
  exact ⟨r, s1, s2, h1, h2, K, n, m, P, nt, q, nh, st, by omega, ⟨hC.fw hF (fun o k z => by unfold corQ at z; unfold runP; omega), hL.fx (by rw [hF.1]) (by rw [hF.1]) hF.x (fun o k z => by unfold lawQ lmQ at z; unfold runP; omega), PrgI.rd.fw hF hP (fun o k z => by unfold prgQ at z; unfold runP; omega), hO.fw hF (fun o k z => by unfold oddQ at z; unfold runP; omega)⟩, TriI.rd.fw hF hT (fun o k z => by unfold triQ at z; unfold runP; omega), HulI.rd.fw hF hH (fun o k z => by unfold hulQ at z; unfold runP; omega), TapI.rd.fw hF hTp (fun o k z => by unfold tapQ at z; unfold runP; omega), BedI.rd.fw hF hB (fun o k z => by unfold bedQ at z; unfold runP; omega), StoI.rd.fw hF hS (fun o k z => by unfold stoQ at z; unfold runP; omega)⟩
theorem sp_hull : Sp_hull Inv := by
  intro k s a0 hk ⟨K, n, m, P, nt, q, nh, st, hst, hA, hT, hH, hTp, hB, hS⟩
  have hA0 := hA
  obtain ⟨hC, hL, hP, hO⟩ := hA
  obtain ⟨r, s1, s2, h1, h2, ⟨nh', h3⟩, hF⟩ := m_hull hC hH a0
  exact ⟨r, s1, s2, h1, h2, K, n, m, P, nt, q, nh', st, by omega, ⟨hC.fw hF (fun o k z => by unfold corQ at z; unfold hlnP; omega), hL.fx (by rw [hF.1]) (by rw [hF.1]) hF.x (fun o k z => by unfold lawQ lmQ at z; unfold hlnP; omega), PrgI.rd.fw hF hP (fun o k z => by unfold prgQ at z; unfold hlnP; omega), hO.fw hF (fun o k z => by unfold oddQ at z; unfold hlnP; omega)⟩, TriI.rd.fw hF hT (fun o k z => by unfold triQ at z; unfold hlnP; omega), h3, TapI.rd.fw hF hTp (fun o k z => by unfold tapQ at z; unfold hlnP; omega), BedI.rd.fw hF hB (fun o k z => by unfold bedQ at z; unfold hlnP; omega), StoI.rd.fw hF hS (fun o k z => by unfold stoQ at z; unfold hlnP; omega)⟩
theorem sp_flown : Sp_flown Inv := by
  intro k s a0 a1 a2 hk ⟨K, n, m, P, nt, q, nh, st, hst, hA, hT, hH, hTp, hB, hS⟩
  have hA0 := hA
  obtain ⟨hC, hL, hP, hO⟩ := hA
  obtain ⟨r, s1, s2, h1, h2, h3, hF⟩ := m_flown hC hL hH a0 a1 a2
  exact ⟨r, s1, s2, h1, h2, K, n, m, P, nt, q, nh, st, by omega, ⟨hC.fw hF (fun o k z => by unfold corQ at z; unfold flnP; omega), hL.fx (by rw [hF.1]) (by rw [hF.1]) hF.x (fun o k z => by unfold lawQ lmQ at z; unfold flnP; omega), PrgI.rd.fw hF hP (fun o k z => by unfold prgQ at z; unfold flnP; omega), hO.fw hF (fun o k z => by unfold oddQ at z; unfold flnP; omega)⟩, TriI.rd.fw hF hT (fun o k z => by unfold triQ at z; unfold flnP; omega), h3, TapI.rd.fw hF hTp (fun o k z => by unfold tapQ at z; unfold flnP; omega), BedI.rd.fw hF hB (fun o k z => by unfold bedQ at z; unfold flnP; omega), StoI.rd.fw hF hS (fun o k z => by unfold stoQ at z; unfold flnP; omega)⟩
theorem sp_hullIs : Sp_hullIs Inv := by
  intro k s a0 a1 hk ⟨K, n, m, P, nt, q, nh, st, hst, hA, hT, hH, hTp, hB, hS⟩
  have hA0 := hA
  obtain ⟨hC, hL, hP, hO⟩ := hA
  obtain ⟨r, h1, h2⟩ := m_hullIs hH a0 a1
  exact ⟨r, s, s, h1, h2, K, n, m, P, nt, q, nh, st, by omega, hA0, hT, hH, hTp, hB, hS⟩
theorem sp_cornerIs : Sp_cornerIs Inv := by
  intro k s a0 a1 a2 hk ⟨K, n, m, P, nt, q, nh, st, hst, hA, hT, hH, hTp, hB, hS⟩
  have hA0 := hA
  obtain ⟨hC, hL, hP, hO⟩ := hA
  obtain ⟨r, h1, h2⟩ := m_cornerIs hC hH a0 a1 a2
  exact ⟨r, s, s, h1, h2, K, n, m, P, nt, q, nh, st, by omega, hA0, hT, hH, hTp, hB, hS⟩
theorem sp_weighs : Sp_weighs Inv := by
  intro k s a0 hk ⟨K, n, m, P, nt, q, nh, st, hst, hA, hT, hH, hTp, hB, hS⟩
  have hA0 := hA
  obtain ⟨hC, hL, hP, hO⟩ := hA
  obtain ⟨r, h1, h2⟩ := m_weighs hS a0
  exact ⟨r, s, s, h1, h2, K, n, m, P, nt, q, nh, st, by omega, hA0, hT, hH, hTp, hB, hS⟩
theorem sp_moves : Sp_moves Inv := by
  intro k s hk ⟨K, n, m, P, nt, q, nh, st, hst, hA, hT, hH, hTp, hB, hS⟩
  have hA0 := hA
  obtain ⟨hC, hL, hP, hO⟩ := hA
  obtain ⟨r, h1, h2⟩ := m_moves hS 
  exact ⟨r, s, s, h1, h2, K, n, m, P, nt, q, nh, st, by omega, hA0, hT, hH, hTp, hB, hS⟩
theorem sp_span : Sp_span Inv := by
  intro k s a0 a1 hk ⟨K, n, m, P, nt, q, nh, st, hst, hA, hT, hH, hTp, hB, hS⟩
  have hA0 := hA
  obtain ⟨hC, hL, hP, hO⟩ := hA
  obtain ⟨r, h1, h2⟩ := m_span hB a0 a1
  exact ⟨r, s, s, h1, h2, K, n, m, P, nt, q, nh, st, by omega, hA0, hT, hH, hTp, hB, hS⟩
theorem sp_order : Sp_order Inv := by
  intro k s a0 a1 hk ⟨K, n, m, P, nt, q, nh, st, hst, hA, hT, hH, hTp, hB, hS⟩
  have hA0 := hA
  obtain ⟨hC, hL, hP, hO⟩ := hA
  obtain ⟨r, h1, h2⟩ := m_order hB a0 a1
  exact ⟨r, s, s, h1, h2, K, n, m, P, nt, q, nh, st, by omega, hA0, hT, hH, hTp, hB, hS⟩
theorem sp_count : Sp_count Inv := by
  intro k s a0 hk ⟨K, n, m, P, nt, q, nh, st, hst, hA, hT, hH, hTp, hB, hS⟩
  have hA0 := hA
  obtain ⟨hC, hL, hP, hO⟩ := hA
  have hS0 := hS
  obtain ⟨n1, f1, -, -, x1, x2, x3, x4, -⟩ := hS0
  obtain ⟨r, h1, h2⟩ := m_count hC hL hP hH hTp ⟨x1.trans x2.symm, x3.trans x4.symm⟩ hB (hT.2.1.trans hT.2.2.1.symm) a0
  exact ⟨r, s, s, h1, h2, K, n, m, P, nt, q, nh, st, by omega, hA0, hT, hH, hTp, hB, hS⟩
theorem sp_runs : Sp_runs Inv := by
  intro k s a0 a1 a2 a3 hk ⟨K, n, m, P, nt, q, nh, st, hst, hA, hT, hH, hTp, hB, hS⟩
  have hA0 := hA
  obtain ⟨hC, hL, hP, hO⟩ := hA
  obtain ⟨r, s1, s2, h1, h2, hF⟩ := m_runs hC hL hP a0 a1 a2 a3
  exact ⟨r, s1, s2, h1, h2, K, n, m, P, nt, q, nh, st, by omega, ⟨hC.fw hF (fun o k z => by unfold corQ at z; unfold runP; omega), hL.fx (by rw [hF.1]) (by rw [hF.1]) hF.x (fun o k z => by unfold lawQ lmQ at z; unfold runP; omega), PrgI.rd.fw hF hP (fun o k z => by unfold prgQ at z; unfold runP; omega), hO.fw hF (fun o k z => by unfold oddQ at z; unfold runP; omega)⟩, TriI.rd.fw hF hT (fun o k z => by unfold triQ at z; unfold runP; omega), HulI.rd.fw hF hH (fun o k z => by unfold hulQ at z; unfold runP; omega), TapI.rd.fw hF hTp (fun o k z => by unfold tapQ at z; unfold runP; omega), BedI.rd.fw hF hB (fun o k z => by unfold bedQ at z; unfold runP; omega), StoI.rd.fw hF hS (fun o k z => by unfold stoQ at z; unfold runP; omega)⟩
theorem sp_odds : Sp_odds Inv := by
  intro k s a0 a1 a2 a3 hk ⟨K, n, m, P, nt, q, nh, st, hst, hA, hT, hH, hTp, hB, hS⟩
  have hA0 := hA
  obtain ⟨hC, hL, hP, hO⟩ := hA
  obtain ⟨r, s1, s2, h1, h2, h3, hF⟩ := m_odds hA0 a0 a1 a2 a3
  exact ⟨r, s1, s2, h1, h2, K, n, m, P, nt, q, nh, st, by omega, h3, TriI.rd.fw hF hT (fun o k z => by unfold triQ at z; unfold odP prpP allP mG mR; omega), HulI.rd.fw hF hH (fun o k z => by unfold hulQ at z; unfold odP prpP allP mG mR; omega), TapI.rd.fw hF hTp (fun o k z => by unfold tapQ at z; unfold odP prpP allP mG mR; omega), BedI.rd.fw hF hB (fun o k z => by unfold bedQ at z; unfold odP prpP allP mG mR; omega), StoI.rd.fw hF hS (fun o k z => by unfold stoQ at z; unfold odP prpP allP mG mR; omega)⟩
theorem sp_left : Sp_left Inv := by
  intro k s a0 a1 a2 a3 hk ⟨K, n, m, P, nt, q, nh, st, hst, hA, hT, hH, hTp, hB, hS⟩
  have hA0 := hA
  obtain ⟨hC, hL, hP, hO⟩ := hA
  obtain ⟨r, s1, s2, h1, h2, h3, hF⟩ := m_left hA0 a0 a1 a2 a3
  exact ⟨r, s1, s2, h1, h2, K, n, m, P, nt, q, nh, st, by omega, h3, TriI.rd.fw hF hT (fun o k z => by unfold triQ at z; unfold odP prpP allP mG mR; omega), HulI.rd.fw hF hH (fun o k z => by unfold hulQ at z; unfold odP prpP allP mG mR; omega), TapI.rd.fw hF hTp (fun o k z => by unfold tapQ at z; unfold odP prpP allP mG mR; omega), BedI.rd.fw hF hB (fun o k z => by unfold bedQ at z; unfold odP prpP allP mG mR; omega), StoI.rd.fw hF hS (fun o k z => by unfold stoQ at z; unfold odP prpP allP mG mR; omega)⟩
theorem sp_likely : Sp_likely Inv := by
  intro k s a0 a1 a2 a3 hk ⟨K, n, m, P, nt, q, nh, st, hst, hA, hT, hH, hTp, hB, hS⟩
  have hA0 := hA
  obtain ⟨hC, hL, hP, hO⟩ := hA
  obtain ⟨r, s1, s2, h1, h2, h3, hF⟩ := m_likely hA0 a0 a1 a2 a3
  exact ⟨r, s1, s2, h1, h2, K, n, m, P, nt, q, nh, st, by omega, h3, TriI.rd.fw hF hT (fun o k z => by unfold triQ at z; unfold odP prpP allP mG mR; omega), HulI.rd.fw hF hH (fun o k z => by unfold hulQ at z; unfold odP prpP allP mG mR; omega), TapI.rd.fw hF hTp (fun o k z => by unfold tapQ at z; unfold odP prpP allP mG mR; omega), BedI.rd.fw hF hB (fun o k z => by unfold bedQ at z; unfold odP prpP allP mG mR; omega), StoI.rd.fw hF hS (fun o k z => by unfold stoQ at z; unfold odP prpP allP mG mR; omega)⟩
theorem sp_off : Sp_off Inv := by
  intro k s a0 a1 a2 hk ⟨K, n, m, P, nt, q, nh, st, hst, hA, hT, hH, hTp, hB, hS⟩
  have hA0 := hA
  obtain ⟨hC, hL, hP, hO⟩ := hA
  obtain ⟨r, s1, s2, h1, h2, h3, hF⟩ := m_off hA0 a0 a1 a2
  exact ⟨r, s1, s2, h1, h2, K, n, m, P, nt, q, nh, st, by omega, h3, TriI.rd.fw hF hT (fun o k z => by unfold triQ at z; unfold odP prpP allP mG mR; omega), HulI.rd.fw hF hH (fun o k z => by unfold hulQ at z; unfold odP prpP allP mG mR; omega), TapI.rd.fw hF hTp (fun o k z => by unfold tapQ at z; unfold odP prpP allP mG mR; omega), BedI.rd.fw hF hB (fun o k z => by unfold bedQ at z; unfold odP prpP allP mG mR; omega), StoI.rd.fw hF hS (fun o k z => by unfold stoQ at z; unfold odP prpP allP mG mR; omega)⟩
theorem sp_fly : Sp_fly Inv := by
  intro k s a0 a1 a2 a3 a4 hk ⟨K, n, m, P, nt, q, nh, st, hst, hA, hT, hH, hTp, hB, hS⟩
  have hA0 := hA
  obtain ⟨hC, hL, hP, hO⟩ := hA
  obtain ⟨r, s1, s2, h1, h2, h3, hF⟩ := m_fly hA0 a0 a1 a2 a3 a4
  exact ⟨r, s1, s2, h1, h2, K, n, m, P, nt, q, nh, st, by omega, h3, TriI.rd.fw hF hT (fun o k z => by unfold triQ at z; unfold odP prpP allP mG mR; omega), HulI.rd.fw hF hH (fun o k z => by unfold hulQ at z; unfold odP prpP allP mG mR; omega), TapI.rd.fw hF hTp (fun o k z => by unfold tapQ at z; unfold odP prpP allP mG mR; omega), BedI.rd.fw hF hB (fun o k z => by unfold bedQ at z; unfold odP prpP allP mG mR; omega), StoI.rd.fw hF hS (fun o k z => by unfold stoQ at z; unfold odP prpP allP mG mR; omega)⟩
theorem sp_trial : Sp_trial Inv := by
  intro k s a0 a1 a2 a3 a4 hk ⟨K, n, m, P, nt, q, nh, st, hst, hA, hT, hH, hTp, hB, hS⟩
  have hA0 := hA
  obtain ⟨hC, hL, hP, hO⟩ := hA
  obtain ⟨r, s1, s2, h1, h2, ⟨P', nt', q', h3, h4⟩, hF⟩ := m_trial hA0 hT a0 a1 a2 a3 a4
  exact ⟨r, s1, s2, h1, h2, K, n, m, P', nt', q', nh, st, by omega, h3, h4, HulI.rd.fw hF hH (fun o k z => by unfold hulQ at z; unfold trP; omega), TapI.rd.fw hF hTp (fun o k z => by unfold tapQ at z; unfold trP; omega), BedI.rd.fw hF hB (fun o k z => by unfold bedQ at z; unfold trP; omega), StoI.rd.fw hF hS (fun o k z => by unfold stoQ at z; unfold trP; omega)⟩
theorem sp_says : Sp_says Inv := by
  intro k s a0 a1 hk ⟨K, n, m, P, nt, q, nh, st, hst, hA, hT, hH, hTp, hB, hS⟩
  have hA0 := hA
  obtain ⟨hC, hL, hP, hO⟩ := hA
  obtain ⟨r, s1, s2, h1, h2, h3, h4, hF⟩ := m_says hA0 hT a0 a1
  exact ⟨r, s1, s2, h1, h2, K, n, m, P, nt, q, nh, st, by omega, h3, h4, HulI.rd.fw hF hH (fun o k z => by unfold hulQ at z; unfold odP prpP allP mG mR; omega), TapI.rd.fw hF hTp (fun o k z => by unfold tapQ at z; unfold odP prpP allP mG mR; omega), BedI.rd.fw hF hB (fun o k z => by unfold bedQ at z; unfold odP prpP allP mG mR; omega), StoI.rd.fw hF hS (fun o k z => by unfold stoQ at z; unfold odP prpP allP mG mR; omega)⟩
theorem sp_cheapest : Sp_cheapest Inv := by
  intro k s a0 hk ⟨K, n, m, P, nt, q, nh, st, hst, hA, hT, hH, hTp, hB, hS⟩
  have hA0 := hA
  obtain ⟨hC, hL, hP, hO⟩ := hA
  obtain ⟨r, s1, s2, h1, h2, h3, h4, hF⟩ := m_cheapest hA0 hT a0
  exact ⟨r, s1, s2, h1, h2, K, n, m, P, nt, q, nh, st, by omega, h3, h4, HulI.rd.fw hF hH (fun o k z => by unfold hulQ at z; unfold odP prpP allP mG mR; omega), TapI.rd.fw hF hTp (fun o k z => by unfold tapQ at z; unfold odP prpP allP mG mR; omega), BedI.rd.fw hF hB (fun o k z => by unfold bedQ at z; unfold odP prpP allP mG mR; omega), StoI.rd.fw hF hS (fun o k z => by unfold stoQ at z; unfold odP prpP allP mG mR; omega)⟩
theorem sp_story : Sp_story Inv := by
  intro k s a0 hk ⟨K, n, m, P, nt, q, nh, st, hst, hA, hT, hH, hTp, hB, hS⟩
  have hA0 := hA
  obtain ⟨hC, hL, hP, hO⟩ := hA
  obtain ⟨r, s1, s2, h1, h2, hF, h3⟩ := m_story hS a0
  exact ⟨r, s1, s2, h1, h2, K, n, m, P, nt, q, nh, st, by omega, ⟨hC.fw hF (fun o k z => by unfold corQ at z; unfold stoP; omega), hL.fx (by rw [hF.1]) (by rw [hF.1]) hF.x (fun o k z => by unfold lawQ lmQ at z; unfold stoP; omega), PrgI.rd.fw hF hP (fun o k z => by unfold prgQ at z; unfold stoP; omega), hO.fw hF (fun o k z => by unfold oddQ at z; unfold stoP; omega)⟩, TriI.rd.fw hF hT (fun o k z => by unfold triQ at z; unfold stoP; omega), HulI.rd.fw hF hH (fun o k z => by unfold hulQ at z; unfold stoP; omega), TapI.rd.fw hF hTp (fun o k z => by unfold tapQ at z; unfold stoP; omega), BedI.rd.fw hF hB (fun o k z => by unfold bedQ at z; unfold stoP; omega), h3⟩
theorem sp_find : Sp_find Inv := by
  intro k s hk ⟨K, n, m, P, nt, q, nh, st, hst, hA, hT, hH, hTp, hB, hS⟩
  have hA0 := hA
  obtain ⟨hC, hL, hP, hO⟩ := hA
  obtain ⟨r, s1, s2, h1, h2, hF, h3⟩ := m_find hS 
  exact ⟨r, s1, s2, h1, h2, K, n, m, P, nt, q, nh, st, by omega, ⟨hC.fw hF (fun o k z => by unfold corQ at z; unfold stoP; omega), hL.fx (by rw [hF.1]) (by rw [hF.1]) hF.x (fun o k z => by unfold lawQ lmQ at z; unfold stoP; omega), PrgI.rd.fw hF hP (fun o k z => by unfold prgQ at z; unfold stoP; omega), hO.fw hF (fun o k z => by unfold oddQ at z; unfold stoP; omega)⟩, TriI.rd.fw hF hT (fun o k z => by unfold triQ at z; unfold stoP; omega), HulI.rd.fw hF hH (fun o k z => by unfold hulQ at z; unfold stoP; omega), TapI.rd.fw hF hTp (fun o k z => by unfold tapQ at z; unfold stoP; omega), BedI.rd.fw hF hB (fun o k z => by unfold bedQ at z; unfold stoP; omega), h3⟩
theorem sp_tells : Sp_tells Inv := by
  intro k s a0 a1 a2 hk ⟨K, n, m, P, nt, q, nh, st, hst, hA, hT, hH, hTp, hB, hS⟩
  have hA0 := hA
  obtain ⟨hC, hL, hP, hO⟩ := hA
  obtain ⟨r, s1, s2, h1, h2, hF, h3⟩ := m_tells hS a0 a1 a2
  exact ⟨r, s1, s2, h1, h2, K, n, m, P, nt, q, nh, st, by omega, ⟨hC.fw hF (fun o k z => by unfold corQ at z; unfold stoP; omega), hL.fx (by rw [hF.1]) (by rw [hF.1]) hF.x (fun o k z => by unfold lawQ lmQ at z; unfold stoP; omega), PrgI.rd.fw hF hP (fun o k z => by unfold prgQ at z; unfold stoP; omega), hO.fw hF (fun o k z => by unfold oddQ at z; unfold stoP; omega)⟩, TriI.rd.fw hF hT (fun o k z => by unfold triQ at z; unfold stoP; omega), HulI.rd.fw hF hH (fun o k z => by unfold hulQ at z; unfold stoP; omega), TapI.rd.fw hF hTp (fun o k z => by unfold tapQ at z; unfold stoP; omega), BedI.rd.fw hF hB (fun o k z => by unfold bedQ at z; unfold stoP; omega), h3⟩
theorem sp_seen : Sp_seen Inv := by
  intro k s a0 a1 hk ⟨K, n, m, P, nt, q, nh, st, hst, hA, hT, hH, hTp, hB, hS⟩
  have hA0 := hA
  obtain ⟨hC, hL, hP, hO⟩ := hA
  obtain ⟨r, s1, s2, h1, h2, hF, h3⟩ := m_seen hS a0 a1
  exact ⟨r, s1, s2, h1, h2, K, n, m, P, nt, q, nh, st, by omega, ⟨hC.fw hF (fun o k z => by unfold corQ at z; unfold stoP; omega), hL.fx (by rw [hF.1]) (by rw [hF.1]) hF.x (fun o k z => by unfold lawQ lmQ at z; unfold stoP; omega), PrgI.rd.fw hF hP (fun o k z => by unfold prgQ at z; unfold stoP; omega), hO.fw hF (fun o k z => by unfold oddQ at z; unfold stoP; omega)⟩, TriI.rd.fw hF hT (fun o k z => by unfold triQ at z; unfold stoP; omega), HulI.rd.fw hF hH (fun o k z => by unfold hulQ at z; unfold stoP; omega), TapI.rd.fw hF hTp (fun o k z => by unfold tapQ at z; unfold stoP; omega), BedI.rd.fw hF hB (fun o k z => by unfold bedQ at z; unfold stoP; omega), h3⟩
theorem sp_cell : Sp_cell Inv := by
  intro k s a0 a1 a2 hk ⟨K, n, m, P, nt, q, nh, st, hst, hA, hT, hH, hTp, hB, hS⟩
  have hA0 := hA
  obtain ⟨hC, hL, hP, hO⟩ := hA
  obtain ⟨r, s1, s2, h1, h2, hF, h3⟩ := m_cell hS a0 a1 a2
  exact ⟨r, s1, s2, h1, h2, K, n, m, P, nt, q, nh, st, by omega, ⟨hC.fw hF (fun o k z => by unfold corQ at z; unfold stoP; omega), hL.fx (by rw [hF.1]) (by rw [hF.1]) hF.x (fun o k z => by unfold lawQ lmQ at z; unfold stoP; omega), PrgI.rd.fw hF hP (fun o k z => by unfold prgQ at z; unfold stoP; omega), hO.fw hF (fun o k z => by unfold oddQ at z; unfold stoP; omega)⟩, TriI.rd.fw hF hT (fun o k z => by unfold triQ at z; unfold stoP; omega), HulI.rd.fw hF hH (fun o k z => by unfold hulQ at z; unfold stoP; omega), TapI.rd.fw hF hTp (fun o k z => by unfold tapQ at z; unfold stoP; omega), BedI.rd.fw hF hB (fun o k z => by unfold bedQ at z; unfold stoP; omega), h3⟩
theorem sp_nets : Sp_nets Inv := by
  intro k s a0 a1 a2 hk ⟨K, n, m, P, nt, q, nh, st, hst, hA, hT, hH, hTp, hB, hS⟩
  have hA0 := hA
  obtain ⟨hC, hL, hP, hO⟩ := hA
  obtain ⟨r, s1, s2, h1, h2, hF, h3⟩ := m_nets hS a0 a1 a2
  exact ⟨r, s1, s2, h1, h2, K, n, m, P, nt, q, nh, st, by omega, ⟨hC.fw hF (fun o k z => by unfold corQ at z; unfold stoP; omega), hL.fx (by rw [hF.1]) (by rw [hF.1]) hF.x (fun o k z => by unfold lawQ lmQ at z; unfold stoP; omega), PrgI.rd.fw hF hP (fun o k z => by unfold prgQ at z; unfold stoP; omega), hO.fw hF (fun o k z => by unfold oddQ at z; unfold stoP; omega)⟩, TriI.rd.fw hF hT (fun o k z => by unfold triQ at z; unfold stoP; omega), HulI.rd.fw hF hH (fun o k z => by unfold hulQ at z; unfold stoP; omega), TapI.rd.fw hF hTp (fun o k z => by unfold tapQ at z; unfold stoP; omega), BedI.rd.fw hF hB (fun o k z => by unfold bedQ at z; unfold stoP; omega), h3⟩
theorem sp_wind : Sp_wind Inv := by
  intro k s a0 a1 a2 hk ⟨K, n, m, P, nt, q, nh, st, hst, hA, hT, hH, hTp, hB, hS⟩
  have hA0 := hA
  obtain ⟨hC, hL, hP, hO⟩ := hA
  obtain ⟨r, s1, s2, h1, h2, hF, h3⟩ := m_wind hB a0 a1 a2
  exact ⟨r, s1, s2, h1, h2, K, n, m, P, nt, q, nh, st, by omega, ⟨hC.fw hF (fun o k z => by unfold corQ at z; unfold bedQ; omega), hL.fx (by rw [hF.1]) (by rw [hF.1]) hF.x (fun o k z => by unfold lawQ lmQ at z; unfold bedQ; omega), PrgI.rd.fw hF hP (fun o k z => by unfold prgQ at z; unfold bedQ; omega), hO.fw hF (fun o k z => by unfold oddQ at z; unfold bedQ; omega)⟩, TriI.rd.fw hF hT (fun o k z => by unfold triQ at z; unfold bedQ; omega), HulI.rd.fw hF hH (fun o k z => by unfold hulQ at z; unfold bedQ; omega), TapI.rd.fw hF hTp (fun o k z => by unfold tapQ at z; unfold bedQ; omega), h3, StoI.rd.fw hF hS (fun o k z => by unfold stoQ at z; unfold bedQ; omega)⟩
theorem sp_lies : Sp_lies Inv := by
  intro k s a0 a1 hk ⟨K, n, m, P, nt, q, nh, st, hst, hA, hT, hH, hTp, hB, hS⟩
  have hA0 := hA
  obtain ⟨hC, hL, hP, hO⟩ := hA
  obtain ⟨r, s1, s2, h1, h2, hF, h3⟩ := m_lies hB a0 a1
  exact ⟨r, s1, s2, h1, h2, K, n, m, P, nt, q, nh, st, by omega, ⟨hC.fw hF (fun o k z => by unfold corQ at z; unfold bedQ; omega), hL.fx (by rw [hF.1]) (by rw [hF.1]) hF.x (fun o k z => by unfold lawQ lmQ at z; unfold bedQ; omega), PrgI.rd.fw hF hP (fun o k z => by unfold prgQ at z; unfold bedQ; omega), hO.fw hF (fun o k z => by unfold oddQ at z; unfold bedQ; omega)⟩, TriI.rd.fw hF hT (fun o k z => by unfold triQ at z; unfold bedQ; omega), HulI.rd.fw hF hH (fun o k z => by unfold hulQ at z; unfold bedQ; omega), TapI.rd.fw hF hTp (fun o k z => by unfold tapQ at z; unfold bedQ; omega), h3, StoI.rd.fw hF hS (fun o k z => by unfold stoQ at z; unfold bedQ; omega)⟩
theorem sp_check : Sp_check Inv := by
  intro k s a0 a1 hk ⟨K, n, m, P, nt, q, nh, st, hst, hA, hT, hH, hTp, hB, hS⟩
  have hA0 := hA
  obtain ⟨hC, hL, hP, hO⟩ := hA
  obtain ⟨r, s1, s2, h1, h2, h3, hF⟩ := m_check hC hH hTp a0 a1
  exact ⟨r, s1, s2, h1, h2, K, n, m, P, nt, q, nh, st, by omega, ⟨hC.fw hF (fun o k z => by unfold corQ at z; unfold chkP; omega), hL.fx (by rw [hF.1]) (by rw [hF.1]) hF.x (fun o k z => by unfold lawQ lmQ at z; unfold chkP; omega), PrgI.rd.fw hF hP (fun o k z => by unfold prgQ at z; unfold chkP; omega), hO.fw hF (fun o k z => by unfold oddQ at z; unfold chkP; omega)⟩, TriI.rd.fw hF hT (fun o k z => by unfold triQ at z; unfold chkP; omega), HulI.rd.fw hF hH (fun o k z => by unfold hulQ at z; unfold chkP; omega), h3, BedI.rd.fw hF hB (fun o k z => by unfold bedQ at z; unfold chkP; omega), StoI.rd.fw hF hS (fun o k z => by unfold stoQ at z; unfold chkP; omega)⟩
theorem steps_ok : Steps Inv := ⟨sp_corner, sp_life, sp_feed, sp_law, sp_program, sp_pull, sp_hull, sp_flown, sp_hullIs, sp_cornerIs, sp_runs, sp_odds, sp_left, sp_likely, sp_off, sp_trial, sp_says, sp_cheapest, sp_story, sp_find, sp_tells, sp_seen, sp_weighs, sp_moves, sp_wind, sp_lies, sp_span, sp_order, sp_cell, sp_nets, sp_fly, sp_check, sp_count⟩
