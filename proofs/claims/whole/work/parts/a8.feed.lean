/-! feed: five words, byte by byte -/
theorem bp_b (x : Int32) : x.toInt8.toInt32 &&& 255 = x &&& 255 := by
  apply Int32.toBitVec_inj.mp
  rw [Int32.toBitVec_and, Int32.toBitVec_and, Int8.toBitVec_toInt32, Int32.toBitVec_toInt8]
  apply BitVec.eq_of_getLsbD_eq
  intro i hi
  rw [BitVec.getLsbD_and, BitVec.getLsbD_and]
  have hm : ∀ i < 32, 8 ≤ i → (255 : Int32).toBitVec.getLsbD i = false := by decide
  rcases Nat.lt_or_ge i 8 with z | z
  · rw [BitVec.getLsbD_signExtend, BitVec.getLsbD_signExtend, if_pos z, if_pos hi]
    simp only [z, hi, decide_true, Bool.true_and]
  · rw [hm i hi z]; simp
def byX (a sh : Int32) : Int32 := (a.toUInt32 >>> (sh.toUInt32 &&& Int32.toUInt32 31)).toInt32 &&& (255 : Int32)
def byM (a sh : Int32) : Int32 := ((a >>> (sh &&& 31)).toInt8.toInt32).toInt8.toInt32
theorem toI_N (y : Int32) : (y.toInt = y.toBitVec.toNat ∧ y.toBitVec.toNat < 2147483648) ∨ (y.toInt = (y.toBitVec.toNat : Int) - 4294967296 ∧ 2147483648 ≤ y.toBitVec.toNat ∧ y.toBitVec.toNat < 4294967296) := by
  have h : y.toInt = y.toBitVec.toInt := rfl
  rw [h, BitVec.toInt_eq_toNat_cond]
  have := y.toBitVec.isLt
  split
  · left
    exact ⟨rfl, by omega⟩
  · right
    exact ⟨rfl, by omega, this⟩
theorem by_one {a sh : Int32} (k : Nat) (hk : k = 0 ∨ k = 8 ∨ k = 16 ∨ k = 24) (h1 : ((sh &&& 31).toBitVec.smod 32).toNat = k) (h2 : ((sh.toUInt32 &&& Int32.toUInt32 31).toBitVec % 32).toNat = k) : ∃ b : Nat, b < 256 ∧ byX a sh = nI b ∧ byM a sh &&& 255 = nI b := by
  have e1 : byX a sh = nI (a.toBitVec.toNat / 2 ^ k % 2 ^ 8) := by
    unfold byX
    rw [pk_and _ 8 (by decide), pk_ushr a sh k h2]
  refine ⟨a.toBitVec.toNat / 2 ^ k % 2 ^ 8, Nat.mod_lt _ (by decide), e1, ?_⟩
  unfold byM
  rw [bp_b, bp_b, pk_and _ 8 (by decide)]
  congr 1
  have hs := pk_shr a (sh &&& 31) k h1
  rw [Int.shiftRight_eq_div_pow] at hs
  generalize hy : a >>> (sh &&& 31) = y at hs
  have ha := toI_N a
  have hyy := toI_N y
  rcases hk with rfl | rfl | rfl | rfl
  · simp only [Nat.pow_zero, Nat.div_one] at hs ⊢
    omega
  · have e : ((2 ^ 8 : Nat) : Int) = 256 := by decide
    rw [e] at hs
    omega
  · have e : ((2 ^ 16 : Nat) : Int) = 65536 := by decide
    rw [e] at hs
    omega
  · have e : ((2 ^ 24 : Nat) : Int) = 16777216 := by decide
    rw [e] at hs
    omega
theorem by_24 (a : Int32) : ∃ b : Nat, b < 256 ∧ byX a 24 = nI b ∧ byM a 24 &&& 255 = nI b := by_one 24 (by decide) (by decide +kernel) (by decide +kernel)
theorem by_16 (a : Int32) : ∃ b : Nat, b < 256 ∧ byX a 16 = nI b ∧ byM a 16 &&& 255 = nI b := by_one 16 (by decide) (by decide +kernel) (by decide +kernel)
theorem by_8 (a : Int32) : ∃ b : Nat, b < 256 ∧ byX a 8 = nI b ∧ byM a 8 &&& 255 = nI b := by_one 8 (by decide) (by decide +kernel) (by decide +kernel)
theorem by_0 (a : Int32) : ∃ b : Nat, b < 256 ∧ byX a 0 = nI b ∧ byM a 0 &&& 255 = nI b := by_one 0 (by decide) (by decide +kernel) (by decide +kernel)
/-- four bytes of a word: in the class -/
def fdX (s : cS) (n : Nat) (a : Int32) : cS := iS (iS (iS (iS (iS (iS (iS (iS s 2 n (byX a 24)) 1 1 (nI (n + 1))) 2 (n + 1) (byX a 16)) 1 1 (nI (n + 2))) 2 (n + 2) (byX a 8)) 1 1 (nI (n + 3))) 2 (n + 3) (byX a 0)) 1 1 (nI (n + 4))
def fdM (s : cS) (n : Nat) (a : Int32) : cS := iS (iS (iS (iS (iS (iS (iS (iS s 194 n (byM a 24)) 193 1 (nI (n + 1))) 194 (n + 1) (byM a 16)) 193 1 (nI (n + 2))) 194 (n + 2) (byM a 8)) 193 1 (nI (n + 3))) 194 (n + 3) (byM a 0)) 193 1 (nI (n + 4))
theorem fd_x {s : cS} {n : Nat} (h : iG s 1 1 = nI n) (hn : n + 4 ≤ 200) (a : Int32) : Ev (fun N => f_X9_add N a s) ((), fdX s n a) := by
  have st : ∀ (t : cS) (k : Nat) (sh : Int32), iG t 1 1 = nI k → k < 200 → ¬ sh < 0 → b_X9_add_3 a sh t = some (.inl (sh + (-8), iS (iS t 2 k (byX a sh)) 1 1 (nI (k + 1)))) := by
    intro t k sh ht hk hsh
    unfold b_X9_add_3
    rw [if_neg hsh, ht, pA_n hk (by omega), sb_mk]
    have e : iG (iS t 2 k ((a.toUInt32 >>> (sh.toUInt32 &&& Int32.toUInt32 31)).toInt32 &&& (255 : Int32))) 1 1 = nI k := by rw [iG_ne (by decide), ht]
    rw [e, nI_1, sb_mk]
    rfl
  refine ⟨6, fun N hN => ?_⟩
  obtain ⟨N, rfl⟩ : ∃ M, N = M + 5 := ⟨N - 5, by omega⟩
  show itr (fun (v : Int32 × cS) => b_X9_add_3 a v.1 v.2) (N + 4 + 1) (24, s) = _
  rw [itr_l (v' := (16, iS (iS s 2 n (byX a 24)) 1 1 (nI (n + 1)))) (st s n 24 h (by omega) (by decide))]
  rw [itr_l (v' := (8, iS (iS (iS (iS s 2 n (byX a 24)) 1 1 (nI (n + 1))) 2 (n + 1) (byX a 16)) 1 1 (nI (n + 2)))) (st _ (n + 1) 16 iG_eq (by omega) (by decide))]
  rw [itr_l (v' := (0, iS (iS (iS (iS (iS (iS s 2 n (byX a 24)) 1 1 (nI (n + 1))) 2 (n + 1) (byX a 16)) 1 1 (nI (n + 2))) 2 (n + 2) (byX a 8)) 1 1 (nI (n + 3)))) (st _ (n + 2) 8 iG_eq (by omega) (by decide))]
  rw [itr_l (v' := (-8, fdX s n a)) (st _ (n + 3) 0 iG_eq (by omega) (by decide))]
  refine itr_r ?_
  show b_X9_add_3 a (-8) _ = _
  unfold b_X9_add_3
  rw [if_pos (by decide)]
  rfl
theorem fd_m {s : cS} {n : Nat} (h : iG s 193 1 = nI n) (hn : n + 4 ≤ 200) (a : Int32) : Ev (fun N => f_X12_push N a s) ((), fdM s n a) := by
  have st : ∀ (t : cS) (k : Nat) (sh : Int32), iG t 193 1 = nI k → k < 200 → ¬ sh < 0 → b_X12_push_3 a sh t = some (.inl (sh + (-8), iS (iS t 194 k (byM a sh)) 193 1 (nI (k + 1)))) := by
    intro t k sh ht hk hsh
    unfold b_X12_push_3
    rw [if_neg hsh, ht, if_pos ((inb_n (by omega)).mpr hk), nI_clamp (by omega), sb_mk]
    have e : iG (iS t 194 k ((a >>> (sh &&& 31)).toInt8.toInt32).toInt8.toInt32) 193 1 = nI k := by rw [iG_ne (by decide), ht]
    rw [e, nI_1, sb_mk]
    rfl
  refine ⟨6, fun N hN => ?_⟩
  obtain ⟨N, rfl⟩ : ∃ M, N = M + 5 := ⟨N - 5, by omega⟩
  show itr (fun (v : Int32 × cS) => b_X12_push_3 a v.1 v.2) (N + 4 + 1) (24, s) = _
  rw [itr_l (v' := (16, iS (iS s 194 n (byM a 24)) 193 1 (nI (n + 1)))) (st s n 24 h (by omega) (by decide))]
  rw [itr_l (v' := (8, iS (iS (iS (iS s 194 n (byM a 24)) 193 1 (nI (n + 1))) 194 (n + 1) (byM a 16)) 193 1 (nI (n + 2)))) (st _ (n + 1) 16 iG_eq (by omega) (by decide))]
  rw [itr_l (v' := (0, iS (iS (iS (iS (iS (iS s 194 n (byM a 24)) 193 1 (nI (n + 1))) 194 (n + 1) (byM a 16)) 193 1 (nI (n + 2))) 194 (n + 2) (byM a 8)) 193 1 (nI (n + 3)))) (st _ (n + 2) 8 iG_eq (by omega) (by decide))]
  rw [itr_l (v' := (-8, fdM s n a)) (st _ (n + 3) 0 iG_eq (by omega) (by decide))]
  refine itr_r ?_
  show b_X12_push_3 a (-8) _ = _
  unfold b_X12_push_3
  rw [if_pos (by decide)]
  rfl
def tapP (o k : Nat) : Prop := (o = 1 ∧ k = 1) ∨ (o = 193 ∧ k = 1) ∨ o = 2 ∨ o = 194
theorem fdX_f (s : cS) (n : Nat) (a : Int32) : Fw tapP s (fdX s n a) := by
  unfold fdX
  refine (((((((Fw.rf.st ?_).st ?_).st ?_).st ?_).st ?_).st ?_).st ?_).st ?_ <;> (unfold tapP; omega)
theorem fdM_f (s : cS) (n : Nat) (a : Int32) : Fw tapP s (fdM s n a) := by
  unfold fdM
  refine (((((((Fw.rf.st ?_).st ?_).st ?_).st ?_).st ?_).st ?_).st ?_).st ?_ <;> (unfold tapP; omega)
theorem fdX_o {s : cS} {n : Nat} {a : Int32} {o k : Nat} (h : o ≠ 1) (h2 : o ≠ 2) : iG (fdX s n a) o k = iG s o k := by
  unfold fdX
  rw [iG_ne h, iG_ne h2, iG_ne h, iG_ne h2, iG_ne h, iG_ne h2, iG_ne h, iG_ne h2]
theorem fdM_o {s : cS} {n : Nat} {a : Int32} {o k : Nat} (h : o ≠ 193) (h2 : o ≠ 194) : iG (fdM s n a) o k = iG s o k := by
  unfold fdM
  rw [iG_ne h, iG_ne h2, iG_ne h, iG_ne h2, iG_ne h, iG_ne h2, iG_ne h, iG_ne h2]
theorem fdX_2 (s : cS) (n : Nat) (a : Int32) (i : Nat) : iG (fdX s n a) 2 i = if i = n + 3 then byX a 0 else if i = n + 2 then byX a 8 else if i = n + 1 then byX a 16 else if i = n then byX a 24 else iG s 2 i := by
  unfold fdX
  simp [iG_if]
theorem fdM_2 (s : cS) (n : Nat) (a : Int32) (i : Nat) : iG (fdM s n a) 194 i = if i = n + 3 then byM a 0 else if i = n + 2 then byM a 8 else if i = n + 1 then byM a 16 else if i = n then byM a 24 else iG s 194 i := by
  unfold fdM
  rw [iG_ne (show (194 : Nat) ≠ 193 by decide), iG_if, if_pos rfl, iG_ne (show (194 : Nat) ≠ 193 by decide), iG_if, if_pos rfl, iG_ne (show (194 : Nat) ≠ 193 by decide), iG_if, if_pos rfl, iG_ne (show (194 : Nat) ≠ 193 by decide), iG_if, if_pos rfl]
/-- alike bytes -/
def byI (s t : cS) : Prop := ∀ i, i < 200 → ∃ b, b < 256 ∧ iG s 2 i = nI b ∧ iG t 194 i &&& 255 = nI b
theorem byI.fd {s t : cS} (h : byI s t) (n : Nat) (a : Int32) : byI (fdX s n a) (fdM t n a) := by
  intro i hi
  rw [fdX_2, fdM_2]
  by_cases c3 : i = n + 3
  · simp only [if_pos c3]; exact by_0 a
  · simp only [if_neg c3]
    by_cases c2 : i = n + 2
    · simp only [if_pos c2]; exact by_8 a
    · simp only [if_neg c2]
      by_cases c1 : i = n + 1
      · simp only [if_pos c1]; exact by_16 a
      · simp only [if_neg c1]
        by_cases c0 : i = n
        · simp only [if_pos c0]; exact by_24 a
        · simp only [if_neg c0]; exact h i hi
theorem fdX_1 (s : cS) (n : Nat) (a : Int32) : iG (fdX s n a) 1 1 = nI (n + 4) := iG_eq
theorem fdM_1 (s : cS) (n : Nat) (a : Int32) : iG (fdM s n a) 193 1 = nI (n + 4) := iG_eq
theorem m_feed {s : cS} (h : TapI s) (a0 a1 a2 a3 a4 : Int32) : ∃ r s1 s2, r_X11_feed a0 a1 a2 a3 a4 s r s1 ∧ r_X12_feed a0 a1 a2 a3 a4 s1 r s2 ∧ TapI s2 ∧ Fw tapP s s2 := by
  have hT := h
  obtain ⟨n, tb, hn, hx, hm, hb, hby⟩ := h
  have e1 : (200 : Int32) < nI n + 20 ↔ 180 < n := by
    have : nI n + 20 = nI (n + 20) := nI_add n 20
    rw [this]
    have := nI_ltI (a := 200) (b := n + 20) (by omega) (by omega)
    have h2 : (200 : Int32) < nI (n + 20) ↔ 200 < n + 20 := this
    rw [h2]; omega
  have e2 : nI n + 20 ≤ (200 : Int32) ↔ ¬ 180 < n := by
    have : nI n + 20 = nI (n + 20) := nI_add n 20
    rw [this]
    have h2 : nI (n + 20) ≤ (200 : Int32) ↔ n + 20 ≤ 200 := nI_leI (a := n + 20) (b := 200) (by omega) (by omega)
    rw [h2]; omega
  by_cases c : 180 < n
  · refine ⟨-1, s, s, ⟨0, ?_⟩, ⟨0, ?_⟩, hT, Fw.rf⟩
    · unfold f_X11_feed f_X9_hasRoomFor
      rw [hx, if_pos (e1.mpr c), if_pos rfl]
    · unfold f_X12_feed
      rw [hm, if_neg (fun z => e2.mp z c)]
  · generalize hs1 : fdX (fdX (fdX (fdX (fdX s n a0) (n + 4) a1) (n + 8) a2) (n + 12) a3) (n + 16) a4 = s1
    have f1 : ∀ o k, o ≠ 1 → o ≠ 2 → iG s1 o k = iG s o k := fun o k a b => by rw [← hs1, fdX_o a b, fdX_o a b, fdX_o a b, fdX_o a b, fdX_o a b]
    have hF1 : Fw tapP s s1 := by rw [← hs1]; exact ((((fdX_f _ _ _).tr (fdX_f _ _ _)).tr (fdX_f _ _ _)).tr (fdX_f _ _ _)).tr (fdX_f _ _ _)
    generalize hs2 : fdM (fdM (fdM (fdM (fdM s1 n a0) (n + 4) a1) (n + 8) a2) (n + 12) a3) (n + 16) a4 = s2
    have f2 : ∀ o k, o ≠ 193 → o ≠ 194 → iG s2 o k = iG s1 o k := fun o k a b => by rw [← hs2, fdM_o a b, fdM_o a b, fdM_o a b, fdM_o a b, fdM_o a b]
    have hF2 : Fw tapP s1 s2 := by rw [← hs2]; exact ((((fdM_f _ _ _).tr (fdM_f _ _ _)).tr (fdM_f _ _ _)).tr (fdM_f _ _ _)).tr (fdM_f _ _ _)
    have h11 : iG s1 1 1 = nI (n + 20) := by rw [← hs1]; exact iG_eq
    have h21 : iG s2 193 1 = nI (n + 20) := by rw [← hs2]; exact iG_eq
    have E1 : Ev (fun N => f_X11_feed N a0 a1 a2 a3 a4 s) (nI (n + 20), s1) := by
      refine Ev.cg (Ev.bnd (fd_x hx (by omega) a0) (k := fun N _ s4 => ob (f_X9_add N a1 s4) fun _ s7 => ob (f_X9_add N a2 s7) fun _ s10 => ob (f_X9_add N a3 s10) fun _ s13 => ob (f_X9_add N a4 s13) fun _ s16 => some (f_X9_size s16, s16)) (Ev.bnd (fd_x (fdX_1 _ _ _) (by omega) a1) (Ev.bnd (fd_x (n := n + 8) (fdX_1 _ _ _) (by omega) a2) (Ev.bnd (fd_x (n := n + 12) (fdX_1 _ _ _) (by omega) a3) (Ev.bnd (fd_x (n := n + 16) (fdX_1 _ _ _) (by omega) a4) (Ev.of fun N => ?_)))))) (fun N => ?_)
      · rw [hs1]
        unfold f_X9_size
        rw [h11]
      · unfold f_X11_feed f_X9_hasRoomFor
        rw [hx, if_neg (fun z => c (e1.mp z)), if_neg (by decide)]
    have hm1 : iG s1 193 1 = nI n := by rw [f1 193 1 (by decide) (by decide), hm]
    have E2 : Ev (fun N => f_X12_feed N a0 a1 a2 a3 a4 s1) (nI (n + 20), s2) := by
      refine Ev.cg (Ev.bnd (fd_m hm1 (by omega) a0) (k := fun N _ s3 => ob (f_X12_push N a1 s3) fun _ s6 => ob (f_X12_push N a2 s6) fun _ s9 => ob (f_X12_push N a3 s9) fun _ s12 => ob (f_X12_push N a4 s12) fun _ s15 => some (iG s15 193 1, s15)) (Ev.bnd (fd_m (fdM_1 _ _ _) (by omega) a1) (Ev.bnd (fd_m (n := n + 8) (fdM_1 _ _ _) (by omega) a2) (Ev.bnd (fd_m (n := n + 12) (fdM_1 _ _ _) (by omega) a3) (Ev.bnd (fd_m (n := n + 16) (fdM_1 _ _ _) (by omega) a4) (Ev.of fun N => ?_)))))) (fun N => ?_)
      · rw [hs2, h21]
      · unfold f_X12_feed
        rw [hm1, if_pos (e2.mpr c)]
    have hbI : byI s1 s2 := by
      have h0 : byI s s1 := fun i hi => ⟨tb i, hb i, (hby i hi).1, by rw [f1 194 i (by decide) (by decide)]; exact (hby i hi).2⟩
      rw [← hs2]
      rw [← hs1]
      refine byI.fd (byI.fd (byI.fd (byI.fd (byI.fd ?_ n a0) _ a1) _ a2) _ a3) _ a4
      rw [hs1]
      exact h0
    obtain ⟨tb', htb⟩ : ∃ tb' : Nat → Nat, ∀ i, tb' i < 256 ∧ (i < 200 → iG s1 2 i = nI (tb' i) ∧ iG s2 194 i &&& 255 = nI (tb' i)) := by
      have : ∀ i, ∃ b : Nat, b < 256 ∧ (i < 200 → iG s1 2 i = nI b ∧ iG s2 194 i &&& 255 = nI b) := by
        intro i
        by_cases hi : i < 200
        · obtain ⟨b, b1, b2, b3⟩ := hbI i hi
          exact ⟨b, b1, fun _ => ⟨b2, b3⟩⟩
        · exact ⟨0, by decide, fun z => absurd z hi⟩
      exact Classical.axiomOfChoice this
    refine ⟨_, s1, s2, E1.ex, E2.ex, ⟨n + 20, tb', by omega, by rw [f2 1 1 (by decide) (by decide)]; exact h11, h21, fun i => (htb i).1, fun i hi => ?_⟩, hF1.tr hF2⟩
    rw [f2 2 i (by decide) (by decide)]
    exact (htb i).2 hi
