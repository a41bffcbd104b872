/-! THE CLAIM OUT OF ONE WALK OF THE LAW'S BODY. Your part is whole_start (and what it stands on); all else here is the same for every law, but numbers. -/
def R_law : String := "HullTankLaw"
def lw_P (b : Addr) (xs : List Int32) (args : Array Value) (s : State) : Prop := args = #[.ref b] ∧ s.IntsAt b xs ∧ xs.length ≤ 3072 ∧ (Jvm.Cond.and given_1 narrow_1).before args s = true
def lw_Q (_ : Array Value) (s : State) (o : Outcome) (t : State) : Prop := o = .returned (some (.int 1)) ∧ Framed s o t [] 600000 7302250
def lw_Z (below : List Frame) (a : Array Value) (s : State) : State → Prop := fun t => ∃ o, t.status = .running ∧ Ended t below o ∧ lw_Q a s o t
/-- the law's own end, with 1 on the stack, nothing written that was there before, its room as the claim has it -/
theorem lw_ret {p : Program} {l : Launch} {e : Env} {s : State} {m : MethodId} {below : List Frame} {meth : Method} {c : Code} {b : Nat} (hx : p.tables.exec = Jvm.exec) (hb : c.code = code) (hr : meth.sig.returnType = ret) (hlocks : meth.locks = false) {pc : Nat} {H : Heap} {ls : Array Slot} (hdg : decode code pc = .ok (.ireturn, 1)) : W p l e room_1 s m #[Value.ref b] below meth c H [] 600000 7302250 (lw_Z below #[Value.ref b] s) (F0 m pc ls [.int 1]) := by
  intro T hT X
  obtain ⟨fs, hret, hrun, hended, hW, hframe⟩ := X.leave (v := some (.int 1)) (hlocks := hlocks) (fun h => by rw [hr] at h; cases h)
  have hmeth' : T.vm.method? m = some meth := X.method'
  refine ⟨T.setFrames fs, ?_, .returned (some (.int 1)), hrun, hended, rfl, ⟨_, rfl⟩, hW, hframe⟩
  jvm_step X.here [X.here.top, hx, hb, hdg, hmeth', hr, ret, narrow_b1]
  (try refine ⟨rfl, ?_⟩); (try refine ⟨rfl, ?_⟩)
  first | (intro acts; rw [hret _ acts rfl rfl rfl]) | rw [hret _ _ rfl rfl rfl]
  exact Steps.refl _
/-- what holds at the law's entry: the machine, the code, the tables' words (any of lw_tbl by 'hts w (by decide +kernel)'), the script of L ints xs at the cell b, what the Statement gives of the start (any of its parts by flat_of_before) -/
def lw_At (p : Program) (s : State) (m : MethodId) (meth : Method) (c : Code) (b L : Nat) (xs : Nat → Int32) : Prop :=
  p.tables.exec = Jvm.exec ∧ c.code = code ∧ meth.sig.returnType = ret ∧ c.maxLocals = 4 ∧ s.vm.findClass R_law = some m.cls ∧ (∀ w ∈ lw_tbl, w.before #[Value.ref b] s = true) ∧ va_X b L xs s s.heap ∧ b < s.heap.size ∧ meth.locks = false ∧ (Jvm.Cond.and given_1 narrow_1).before #[Value.ref b] s = true
abbrev KS : Nat := 8388
def r_X11_corner (a0 : Int32) (a1 : Int32) (a2 : Int32) (a3 : Int32) (s : cS) (r : Int32) (s' : cS) : Prop := f_X11_corner a0 a1 a2 a3 s = (r, s')
theorem pr_X11_corner {g : pG} {l : Launch} {a0 : Int32} {a1 : Int32} {a2 : Int32} {a3 : Int32} {s s' : cS} {r : Int32} (h : r_X11_corner a0 a1 a2 a3 s r s') : PM g l 3 M_X11_corner [.ref 0, .int a0, .int a1, .int a2, .int a3] (tS s) (some (.int r)) (tS s') 0 0 := p_X11_corner (q := (r, s')) h
def r_X12_corner (a0 : Int32) (a1 : Int32) (a2 : Int32) (a3 : Int32) (s : cS) (r : Int32) (s' : cS) : Prop := f_X12_corner a0 a1 a2 a3 s = some (r, s')
theorem pr_X12_corner {g : pG} {l : Launch} {a0 : Int32} {a1 : Int32} {a2 : Int32} {a3 : Int32} {s s' : cS} {r : Int32} (h : r_X12_corner a0 a1 a2 a3 s r s') : PM g l 2 M_X12_corner [.ref 193, .int a0, .int a1, .int a2, .int a3] (tS s) (some (.int r)) (tS s') 0 0 := p_X12_corner (q := (r, s')) h
def r_X11_life (a0 : Int32) (a1 : Int32) (a2 : Int32) (s : cS) (r : Int32) (s' : cS) : Prop := f_X11_life a0 a1 a2 s = (r, s')
theorem pr_X11_life {g : pG} {l : Launch} {a0 : Int32} {a1 : Int32} {a2 : Int32} {s s' : cS} {r : Int32} (h : r_X11_life a0 a1 a2 s r s') : PM g l 4 M_X11_life [.ref 0, .int a0, .int a1, .int a2] (tS s) (some (.int r)) (tS s') 0 0 := p_X11_life (q := (r, s')) h
def r_X12_life (a0 : Int32) (a1 : Int32) (a2 : Int32) (s : cS) (r : Int32) (s' : cS) : Prop := f_X12_life a0 a1 a2 s = some (r, s')
theorem pr_X12_life {g : pG} {l : Launch} {a0 : Int32} {a1 : Int32} {a2 : Int32} {s s' : cS} {r : Int32} (h : r_X12_life a0 a1 a2 s r s') : PM g l 3 M_X12_life [.ref 193, .int a0, .int a1, .int a2] (tS s) (some (.int r)) (tS s') 0 0 := p_X12_life (q := (r, s')) h
def r_X11_feed (a0 : Int32) (a1 : Int32) (a2 : Int32) (a3 : Int32) (a4 : Int32) (s : cS) (r : Int32) (s' : cS) : Prop := ∃ N, f_X11_feed N a0 a1 a2 a3 a4 s = some (r, s')
theorem pr_X11_feed {g : pG} {l : Launch} {a0 : Int32} {a1 : Int32} {a2 : Int32} {a3 : Int32} {a4 : Int32} {s s' : cS} {r : Int32} (h : r_X11_feed a0 a1 a2 a3 a4 s r s') : PM g l 3 M_X11_feed [.ref 0, .int a0, .int a1, .int a2, .int a3, .int a4] (tS s) (some (.int r)) (tS s') 0 0 := by
  obtain ⟨N, h1⟩ := h
  exact p_X11_feed (q := (r, s')) h1
def r_X12_feed (a0 : Int32) (a1 : Int32) (a2 : Int32) (a3 : Int32) (a4 : Int32) (s : cS) (r : Int32) (s' : cS) : Prop := ∃ N, f_X12_feed N a0 a1 a2 a3 a4 s = some (r, s')
theorem pr_X12_feed {g : pG} {l : Launch} {a0 : Int32} {a1 : Int32} {a2 : Int32} {a3 : Int32} {a4 : Int32} {s s' : cS} {r : Int32} (h : r_X12_feed a0 a1 a2 a3 a4 s r s') : PM g l 2 M_X12_feed [.ref 193, .int a0, .int a1, .int a2, .int a3, .int a4] (tS s) (some (.int r)) (tS s') 0 0 := by
  obtain ⟨N, h1⟩ := h
  exact p_X12_feed (q := (r, s')) h1
def r_X11_law (a0 : Int32) (s : cS) (r : Int32) (s' : cS) : Prop := ∃ N, f_X11_law N a0 s = some (r, s')
theorem pr_X11_law {g : pG} {l : Launch} {a0 : Int32} {s s' : cS} {r : Int32} (h : r_X11_law a0 s r s') : PM g l 87 M_X11_law [.ref 0, .int a0] (tS s) (some (.int r)) (tS s') 0 0 := by
  obtain ⟨N, h1⟩ := h
  exact p_X11_law (q := (r, s')) h1
def r_X12_law (a0 : Int32) (s : cS) (r : Int32) (s' : cS) : Prop := ∃ N, f_X12_law N a0 s = some (r, s')
theorem pr_X12_law {g : pG} {l : Launch} {a0 : Int32} {s s' : cS} {r : Int32} (h : r_X12_law a0 s r s') : PM g l 9 M_X12_law [.ref 193, .int a0] (tS s) (some (.int r)) (tS s') 0 0 := by
  obtain ⟨N, h1⟩ := h
  exact p_X12_law (q := (r, s')) h1
def r_X11_program (a0 : Int32) (a1 : Int32) (s : cS) (r : Int32) (s' : cS) : Prop := ∃ N, f_X11_program N a0 a1 s = some (r, s')
theorem pr_X11_program {g : pG} {l : Launch} {a0 : Int32} {a1 : Int32} {s s' : cS} {r : Int32} (h : r_X11_program a0 a1 s r s') : PM g l 6 M_X11_program [.ref 0, .int a0, .int a1] (tS s) (some (.int r)) (tS s') 0 0 := by
  obtain ⟨N, h1⟩ := h
  exact p_X11_program (q := (r, s')) h1
def r_X12_program (a0 : Int32) (a1 : Int32) (s : cS) (r : Int32) (s' : cS) : Prop := ∃ N, f_X12_program N a0 a1 s = some (r, s')
theorem pr_X12_program {g : pG} {l : Launch} {a0 : Int32} {a1 : Int32} {s s' : cS} {r : Int32} (h : r_X12_program a0 a1 s r s') : PM g l 5 M_X12_program [.ref 193, .int a0, .int a1] (tS s) (some (.int r)) (tS s') 0 0 := by
  obtain ⟨N, h1⟩ := h
  exact p_X12_program (q := (r, s')) h1
def r_X11_pull (a0 : Int32) (a1 : Int32) (a2 : Int32) (s : cS) (r : Int32) (s' : cS) : Prop := ∃ N, f_X11_pull N a0 a1 a2 s = some (r, s')
theorem pr_X11_pull {g : pG} {l : Launch} {a0 : Int32} {a1 : Int32} {a2 : Int32} {s s' : cS} {r : Int32} (h : r_X11_pull a0 a1 a2 s r s') : PM g l 5 M_X11_pull [.ref 0, .int a0, .int a1, .int a2] (tS s) (some (.int r)) (tS s') 0 0 := by
  obtain ⟨N, h1⟩ := h
  exact p_X11_pull (q := (r, s')) h1
def r_X12_pull (a0 : Int32) (a1 : Int32) (a2 : Int32) (s : cS) (r : Int32) (s' : cS) : Prop := ∃ N, f_X12_pull N a0 a1 a2 s = some (r, s')
theorem pr_X12_pull {g : pG} {l : Launch} {a0 : Int32} {a1 : Int32} {a2 : Int32} {s s' : cS} {r : Int32} (h : r_X12_pull a0 a1 a2 s r s') : PM g l 5 M_X12_pull [.ref 193, .int a0, .int a1, .int a2] (tS s) (some (.int r)) (tS s') 0 0 := by
  obtain ⟨N, h1⟩ := h
  exact p_X12_pull (q := (r, s')) h1
def r_X11_hull (a0 : Int32) (s : cS) (r : Int32) (s' : cS) : Prop := ∃ N, f_X11_hull N a0 s = some (r, s')
theorem pr_X11_hull {g : pG} {l : Launch} {a0 : Int32} {s s' : cS} {r : Int32} (h : r_X11_hull a0 s r s') : PM g l 5 M_X11_hull [.ref 0, .int a0] (tS s) (some (.int r)) (tS s') 0 0 := by
  obtain ⟨N, h1⟩ := h
  exact p_X11_hull (q := (r, s')) h1
def r_X12_hull (a0 : Int32) (s : cS) (r : Int32) (s' : cS) : Prop := ∃ N, f_X12_hull N a0 s = some (r, s')
theorem pr_X12_hull {g : pG} {l : Launch} {a0 : Int32} {s s' : cS} {r : Int32} (h : r_X12_hull a0 s r s') : PM g l 2 M_X12_hull [.ref 193, .int a0] (tS s) (some (.int r)) (tS s') 0 0 := by
  obtain ⟨N, h1⟩ := h
  exact p_X12_hull (q := (r, s')) h1
def r_X11_flown (a0 : Int32) (a1 : Int32) (a2 : Int32) (s : cS) (r : Int32) (s' : cS) : Prop := ∃ N, f_X11_flown N a0 a1 a2 s = some (r, s')
theorem pr_X11_flown {g : pG} {l : Launch} {a0 : Int32} {a1 : Int32} {a2 : Int32} {s s' : cS} {r : Int32} (h : r_X11_flown a0 a1 a2 s r s') : PM g l 8 M_X11_flown [.ref 0, .int a0, .int a1, .int a2] (tS s) (some (.int r)) (tS s') 0 0 := by
  obtain ⟨N, h1⟩ := h
  exact p_X11_flown (q := (r, s')) h1
def r_X12_flown (a0 : Int32) (a1 : Int32) (a2 : Int32) (s : cS) (r : Int32) (s' : cS) : Prop := ∃ N, f_X12_flown N a0 a1 a2 s = some (r, s')
theorem pr_X12_flown {g : pG} {l : Launch} {a0 : Int32} {a1 : Int32} {a2 : Int32} {s s' : cS} {r : Int32} (h : r_X12_flown a0 a1 a2 s r s') : PM g l 7 M_X12_flown [.ref 193, .int a0, .int a1, .int a2] (tS s) (some (.int r)) (tS s') 0 0 := by
  obtain ⟨N, h1⟩ := h
  exact p_X12_flown (q := (r, s')) h1
def r_X11_hullIs (a0 : Int32) (a1 : Int32) (s : cS) (r : Int32) (s' : cS) : Prop := f_X11_hullIs a0 a1 s = r ∧ s' = s
theorem pr_X11_hullIs {g : pG} {l : Launch} {a0 : Int32} {a1 : Int32} {s s' : cS} {r : Int32} (h : r_X11_hullIs a0 a1 s r s') : PM g l 3 M_X11_hullIs [.ref 0, .int a0, .int a1] (tS s) (some (.int r)) (tS s') 0 0 := by
  obtain ⟨h1, rfl⟩ := h
  exact p_X11_hullIs h1
def r_X12_hullIs (a0 : Int32) (a1 : Int32) (s : cS) (r : Int32) (s' : cS) : Prop := f_X12_hullIs a0 a1 s = some (r, s')
theorem pr_X12_hullIs {g : pG} {l : Launch} {a0 : Int32} {a1 : Int32} {s s' : cS} {r : Int32} (h : r_X12_hullIs a0 a1 s r s') : PM g l 3 M_X12_hullIs [.ref 193, .int a0, .int a1] (tS s) (some (.int r)) (tS s') 0 0 := p_X12_hullIs (q := (r, s')) h
def r_X11_cornerIs (a0 : Int32) (a1 : Int32) (a2 : Int32) (s : cS) (r : Int32) (s' : cS) : Prop := f_X11_cornerIs a0 a1 a2 s = some (r, s')
theorem pr_X11_cornerIs {g : pG} {l : Launch} {a0 : Int32} {a1 : Int32} {a2 : Int32} {s s' : cS} {r : Int32} (h : r_X11_cornerIs a0 a1 a2 s r s') : PM g l 3 M_X11_cornerIs [.ref 0, .int a0, .int a1, .int a2] (tS s) (some (.int r)) (tS s') 0 0 := p_X11_cornerIs (q := (r, s')) h
def r_X12_cornerIs (a0 : Int32) (a1 : Int32) (a2 : Int32) (s : cS) (r : Int32) (s' : cS) : Prop := f_X12_cornerIs a0 a1 a2 s = some (r, s')
theorem pr_X12_cornerIs {g : pG} {l : Launch} {a0 : Int32} {a1 : Int32} {a2 : Int32} {s s' : cS} {r : Int32} (h : r_X12_cornerIs a0 a1 a2 s r s') : PM g l 3 M_X12_cornerIs [.ref 193, .int a0, .int a1, .int a2] (tS s) (some (.int r)) (tS s') 0 0 := p_X12_cornerIs (q := (r, s')) h
def r_X11_runs (a0 : Int32) (a1 : Int32) (a2 : Int32) (a3 : Int32) (s : cS) (r : Int32) (s' : cS) : Prop := ∃ N, f_X11_runs N a0 a1 a2 a3 s = some (r, s')
theorem pr_X11_runs {g : pG} {l : Launch} {a0 : Int32} {a1 : Int32} {a2 : Int32} {a3 : Int32} {s s' : cS} {r : Int32} (h : r_X11_runs a0 a1 a2 a3 s r s') : PM g l 8 M_X11_runs [.ref 0, .int a0, .int a1, .int a2, .int a3] (tS s) (some (.int r)) (tS s') 0 0 := by
  obtain ⟨N, h1⟩ := h
  exact p_X11_runs (q := (r, s')) h1
def r_X12_runs (a0 : Int32) (a1 : Int32) (a2 : Int32) (a3 : Int32) (s : cS) (r : Int32) (s' : cS) : Prop := ∃ N, f_X12_runs N a0 a1 a2 a3 s = some (r, s')
theorem pr_X12_runs {g : pG} {l : Launch} {a0 : Int32} {a1 : Int32} {a2 : Int32} {a3 : Int32} {s s' : cS} {r : Int32} (h : r_X12_runs a0 a1 a2 a3 s r s') : PM g l 7 M_X12_runs [.ref 193, .int a0, .int a1, .int a2, .int a3] (tS s) (some (.int r)) (tS s') 0 0 := by
  obtain ⟨N, h1⟩ := h
  exact p_X12_runs (q := (r, s')) h1
def r_X11_odds (a0 : Int32) (a1 : Int32) (a2 : Int32) (a3 : Int32) (s : cS) (r : Int64) (s' : cS) : Prop := ∃ N, f_X11_odds N a0 a1 a2 a3 s = some (r, s')
theorem pr_X11_odds {g : pG} {l : Launch} {a0 : Int32} {a1 : Int32} {a2 : Int32} {a3 : Int32} {s s' : cS} {r : Int64} (h : r_X11_odds a0 a1 a2 a3 s r s') : PM g l 8 M_X11_odds [.ref 0, .int a0, .int a1, .int a2, .int a3] (tS s) (some (.long r)) (tS s') 0 0 := by
  obtain ⟨N, h1⟩ := h
  exact p_X11_odds (q := (r, s')) h1
def r_X12_odds (a0 : Int32) (a1 : Int32) (a2 : Int32) (a3 : Int32) (s : cS) (r : Int64) (s' : cS) : Prop := ∃ N, f_X12_odds N a0 a1 a2 a3 s = some (r, s')
theorem pr_X12_odds {g : pG} {l : Launch} {a0 : Int32} {a1 : Int32} {a2 : Int32} {a3 : Int32} {s s' : cS} {r : Int64} (h : r_X12_odds a0 a1 a2 a3 s r s') : PM g l 8 M_X12_odds [.ref 193, .int a0, .int a1, .int a2, .int a3] (tS s) (some (.long r)) (tS s') 0 0 := by
  obtain ⟨N, h1⟩ := h
  exact p_X12_odds (q := (r, s')) h1
def r_X11_left (a0 : Int32) (a1 : Int32) (a2 : Int32) (a3 : Int32) (s : cS) (r : Int64) (s' : cS) : Prop := ∃ N, f_X11_left N a0 a1 a2 a3 s = some (r, s')
theorem pr_X11_left {g : pG} {l : Launch} {a0 : Int32} {a1 : Int32} {a2 : Int32} {a3 : Int32} {s s' : cS} {r : Int64} (h : r_X11_left a0 a1 a2 a3 s r s') : PM g l 8 M_X11_left [.ref 0, .int a0, .int a1, .int a2, .int a3] (tS s) (some (.long r)) (tS s') 0 0 := by
  obtain ⟨N, h1⟩ := h
  exact p_X11_left (q := (r, s')) h1
def r_X12_left (a0 : Int32) (a1 : Int32) (a2 : Int32) (a3 : Int32) (s : cS) (r : Int64) (s' : cS) : Prop := ∃ N, f_X12_left N a0 a1 a2 a3 s = some (r, s')
theorem pr_X12_left {g : pG} {l : Launch} {a0 : Int32} {a1 : Int32} {a2 : Int32} {a3 : Int32} {s s' : cS} {r : Int64} (h : r_X12_left a0 a1 a2 a3 s r s') : PM g l 8 M_X12_left [.ref 193, .int a0, .int a1, .int a2, .int a3] (tS s) (some (.long r)) (tS s') 0 0 := by
  obtain ⟨N, h1⟩ := h
  exact p_X12_left (q := (r, s')) h1
def r_X11_likely (a0 : Int32) (a1 : Int32) (a2 : Int32) (a3 : Int32) (s : cS) (r : Int32) (s' : cS) : Prop := ∃ N, f_X11_likely N a0 a1 a2 a3 s = some (r, s')
theorem pr_X11_likely {g : pG} {l : Launch} {a0 : Int32} {a1 : Int32} {a2 : Int32} {a3 : Int32} {s s' : cS} {r : Int32} (h : r_X11_likely a0 a1 a2 a3 s r s') : PM g l 8 M_X11_likely [.ref 0, .int a0, .int a1, .int a2, .int a3] (tS s) (some (.int r)) (tS s') 0 0 := by
  obtain ⟨N, h1⟩ := h
  exact p_X11_likely (q := (r, s')) h1
def r_X12_likely (a0 : Int32) (a1 : Int32) (a2 : Int32) (a3 : Int32) (s : cS) (r : Int32) (s' : cS) : Prop := ∃ N, f_X12_likely N a0 a1 a2 a3 s = some (r, s')
theorem pr_X12_likely {g : pG} {l : Launch} {a0 : Int32} {a1 : Int32} {a2 : Int32} {a3 : Int32} {s s' : cS} {r : Int32} (h : r_X12_likely a0 a1 a2 a3 s r s') : PM g l 9 M_X12_likely [.ref 193, .int a0, .int a1, .int a2, .int a3] (tS s) (some (.int r)) (tS s') 0 0 := by
  obtain ⟨N, h1⟩ := h
  exact p_X12_likely (q := (r, s')) h1
def r_X11_off (a0 : Int32) (a1 : Int32) (a2 : Int32) (s : cS) (r : Int32) (s' : cS) : Prop := ∃ N, f_X11_off N a0 a1 a2 s = some (r, s')
theorem pr_X11_off {g : pG} {l : Launch} {a0 : Int32} {a1 : Int32} {a2 : Int32} {s s' : cS} {r : Int32} (h : r_X11_off a0 a1 a2 s r s') : PM g l 8 M_X11_off [.ref 0, .int a0, .int a1, .int a2] (tS s) (some (.int r)) (tS s') 0 0 := by
  obtain ⟨N, h1⟩ := h
  exact p_X11_off (q := (r, s')) h1
def r_X12_off (a0 : Int32) (a1 : Int32) (a2 : Int32) (s : cS) (r : Int32) (s' : cS) : Prop := ∃ N, f_X12_off N a0 a1 a2 s = some (r, s')
theorem pr_X12_off {g : pG} {l : Launch} {a0 : Int32} {a1 : Int32} {a2 : Int32} {s s' : cS} {r : Int32} (h : r_X12_off a0 a1 a2 s r s') : PM g l 9 M_X12_off [.ref 193, .int a0, .int a1, .int a2] (tS s) (some (.int r)) (tS s') 0 0 := by
  obtain ⟨N, h1⟩ := h
  exact p_X12_off (q := (r, s')) h1
def r_X11_trial (a0 : Int32) (a1 : Int32) (a2 : Int32) (a3 : Int32) (a4 : Int32) (s : cS) (r : Int32) (s' : cS) : Prop := ∃ N, f_X11_trial N a0 a1 a2 a3 a4 s = some (r, s')
theorem pr_X11_trial {g : pG} {l : Launch} {a0 : Int32} {a1 : Int32} {a2 : Int32} {a3 : Int32} {a4 : Int32} {s s' : cS} {r : Int32} (h : r_X11_trial a0 a1 a2 a3 a4 s r s') : PM g l 3 M_X11_trial [.ref 0, .int a0, .int a1, .int a2, .int a3, .int a4] (tS s) (some (.int r)) (tS s') 0 0 := by
  obtain ⟨N, h1⟩ := h
  exact p_X11_trial (q := (r, s')) h1
def r_X12_trial (a0 : Int32) (a1 : Int32) (a2 : Int32) (a3 : Int32) (a4 : Int32) (s : cS) (r : Int32) (s' : cS) : Prop := ∃ N, f_X12_trial N a0 a1 a2 a3 a4 s = some (r, s')
theorem pr_X12_trial {g : pG} {l : Launch} {a0 : Int32} {a1 : Int32} {a2 : Int32} {a3 : Int32} {a4 : Int32} {s s' : cS} {r : Int32} (h : r_X12_trial a0 a1 a2 a3 a4 s r s') : PM g l 4 M_X12_trial [.ref 193, .int a0, .int a1, .int a2, .int a3, .int a4] (tS s) (some (.int r)) (tS s') 0 0 := by
  obtain ⟨N, h1⟩ := h
  exact p_X12_trial (q := (r, s')) h1
def r_X11_says (a0 : Int32) (a1 : Int32) (s : cS) (r : Int64) (s' : cS) : Prop := ∃ N, f_X11_says N a0 a1 s = some (r, s')
theorem pr_X11_says {g : pG} {l : Launch} {a0 : Int32} {a1 : Int32} {s s' : cS} {r : Int64} (h : r_X11_says a0 a1 s r s') : PM g l 8 M_X11_says [.ref 0, .int a0, .int a1] (tS s) (some (.long r)) (tS s') 0 0 := by
  obtain ⟨N, h1⟩ := h
  exact p_X11_says (q := (r, s')) h1
def r_X12_says (a0 : Int32) (a1 : Int32) (s : cS) (r : Int64) (s' : cS) : Prop := ∃ N, f_X12_says N a0 a1 s = some (r, s')
theorem pr_X12_says {g : pG} {l : Launch} {a0 : Int32} {a1 : Int32} {s s' : cS} {r : Int64} (h : r_X12_says a0 a1 s r s') : PM g l 9 M_X12_says [.ref 193, .int a0, .int a1] (tS s) (some (.long r)) (tS s') 0 0 := by
  obtain ⟨N, h1⟩ := h
  exact p_X12_says (q := (r, s')) h1
def r_X11_cheapest (a0 : Int32) (s : cS) (r : Int32) (s' : cS) : Prop := ∃ N, f_X11_cheapest N a0 s = some (r, s')
theorem pr_X11_cheapest {g : pG} {l : Launch} {a0 : Int32} {s s' : cS} {r : Int32} (h : r_X11_cheapest a0 s r s') : PM g l 8 M_X11_cheapest [.ref 0, .int a0] (tS s) (some (.int r)) (tS s') 0 0 := by
  obtain ⟨N, h1⟩ := h
  exact p_X11_cheapest (q := (r, s')) h1
def r_X12_cheapest (a0 : Int32) (s : cS) (r : Int32) (s' : cS) : Prop := ∃ N, f_X12_cheapest N a0 s = some (r, s')
theorem pr_X12_cheapest {g : pG} {l : Launch} {a0 : Int32} {s s' : cS} {r : Int32} (h : r_X12_cheapest a0 s r s') : PM g l 9 M_X12_cheapest [.ref 193, .int a0] (tS s) (some (.int r)) (tS s') 0 0 := by
  obtain ⟨N, h1⟩ := h
  exact p_X12_cheapest (q := (r, s')) h1
def r_X11_story (a0 : Int32) (s : cS) (r : Int32) (s' : cS) : Prop := f_X11_story a0 s = (r, s')
theorem pr_X11_story {g : pG} {l : Launch} {a0 : Int32} {s s' : cS} {r : Int32} (h : r_X11_story a0 s r s') : PM g l 3 M_X11_story [.ref 0, .int a0] (tS s) (some (.int r)) (tS s') 0 0 := p_X11_story (q := (r, s')) h
def r_X12_story (a0 : Int32) (s : cS) (r : Int32) (s' : cS) : Prop := f_X12_story a0 s = some (r, s')
theorem pr_X12_story {g : pG} {l : Launch} {a0 : Int32} {s s' : cS} {r : Int32} (h : r_X12_story a0 s r s') : PM g l 2 M_X12_story [.ref 193, .int a0] (tS s) (some (.int r)) (tS s') 0 0 := p_X12_story (q := (r, s')) h
def r_X11_find (s : cS) (r : Int32) (s' : cS) : Prop := f_X11_find s = (r, s')
theorem pr_X11_find {g : pG} {l : Launch} {s s' : cS} {r : Int32} (h : r_X11_find s r s') : PM g l 2 M_X11_find [.ref 0] (tS s) (some (.int r)) (tS s') 0 0 := p_X11_find (q := (r, s')) h
def r_X12_find (s : cS) (r : Int32) (s' : cS) : Prop := f_X12_find s = (r, s')
theorem pr_X12_find {g : pG} {l : Launch} {s s' : cS} {r : Int32} (h : r_X12_find s r s') : PM g l 1 M_X12_find [.ref 193] (tS s) (some (.int r)) (tS s') 0 0 := p_X12_find (q := (r, s')) h
def r_X11_tells (a0 : Int32) (a1 : Int32) (a2 : Int32) (s : cS) (r : Int32) (s' : cS) : Prop := f_X11_tells a0 a1 a2 s = (r, s')
theorem pr_X11_tells {g : pG} {l : Launch} {a0 : Int32} {a1 : Int32} {a2 : Int32} {s s' : cS} {r : Int32} (h : r_X11_tells a0 a1 a2 s r s') : PM g l 3 M_X11_tells [.ref 0, .int a0, .int a1, .int a2] (tS s) (some (.int r)) (tS s') 0 0 := p_X11_tells (q := (r, s')) h
def r_X12_tells (a0 : Int32) (a1 : Int32) (a2 : Int32) (s : cS) (r : Int32) (s' : cS) : Prop := f_X12_tells a0 a1 a2 s = some (r, s')
theorem pr_X12_tells {g : pG} {l : Launch} {a0 : Int32} {a1 : Int32} {a2 : Int32} {s s' : cS} {r : Int32} (h : r_X12_tells a0 a1 a2 s r s') : PM g l 3 M_X12_tells [.ref 193, .int a0, .int a1, .int a2] (tS s) (some (.int r)) (tS s') 0 0 := p_X12_tells (q := (r, s')) h
def r_X11_seen (a0 : Int32) (a1 : Int32) (s : cS) (r : Int32) (s' : cS) : Prop := f_X11_seen a0 a1 s = (r, s')
theorem pr_X11_seen {g : pG} {l : Launch} {a0 : Int32} {a1 : Int32} {s s' : cS} {r : Int32} (h : r_X11_seen a0 a1 s r s') : PM g l 3 M_X11_seen [.ref 0, .int a0, .int a1] (tS s) (some (.int r)) (tS s') 0 0 := p_X11_seen (q := (r, s')) h
def r_X12_seen (a0 : Int32) (a1 : Int32) (s : cS) (r : Int32) (s' : cS) : Prop := f_X12_seen a0 a1 s = some (r, s')
theorem pr_X12_seen {g : pG} {l : Launch} {a0 : Int32} {a1 : Int32} {s s' : cS} {r : Int32} (h : r_X12_seen a0 a1 s r s') : PM g l 3 M_X12_seen [.ref 193, .int a0, .int a1] (tS s) (some (.int r)) (tS s') 0 0 := p_X12_seen (q := (r, s')) h
def r_X11_weighs (a0 : Int32) (s : cS) (r : Int64) (s' : cS) : Prop := ∃ N, f_X11_weighs N a0 s = some (r, s')
theorem pr_X11_weighs {g : pG} {l : Launch} {a0 : Int32} {s s' : cS} {r : Int64} (h : r_X11_weighs a0 s r s') : PM g l 4 M_X11_weighs [.ref 0, .int a0] (tS s) (some (.long r)) (tS s') 0 0 := by
  obtain ⟨N, h1⟩ := h
  exact p_X11_weighs (q := (r, s')) h1
def r_X12_weighs (a0 : Int32) (s : cS) (r : Int64) (s' : cS) : Prop := ∃ N, f_X12_weighs N a0 s = some (r, s')
theorem pr_X12_weighs {g : pG} {l : Launch} {a0 : Int32} {s s' : cS} {r : Int64} (h : r_X12_weighs a0 s r s') : PM g l 3 M_X12_weighs [.ref 193, .int a0] (tS s) (some (.long r)) (tS s') 0 0 := by
  obtain ⟨N, h1⟩ := h
  exact p_X12_weighs (q := (r, s')) h1
def r_X11_moves (s : cS) (r : Int32) (s' : cS) : Prop := ∃ N, f_X11_moves N s = some (r, s')
theorem pr_X11_moves {g : pG} {l : Launch} {s s' : cS} {r : Int32} (h : r_X11_moves s r s') : PM g l 5 M_X11_moves [.ref 0] (tS s) (some (.int r)) (tS s') 0 0 := by
  obtain ⟨N, h1⟩ := h
  exact p_X11_moves (q := (r, s')) h1
def r_X12_moves (s : cS) (r : Int32) (s' : cS) : Prop := ∃ N, f_X12_moves N s = some (r, s')
theorem pr_X12_moves {g : pG} {l : Launch} {s s' : cS} {r : Int32} (h : r_X12_moves s r s') : PM g l 2 M_X12_moves [.ref 193] (tS s) (some (.int r)) (tS s') 0 0 := by
  obtain ⟨N, h1⟩ := h
  exact p_X12_moves (q := (r, s')) h1
def r_X11_wind (a0 : Int32) (a1 : Int32) (a2 : Int32) (s : cS) (r : Int32) (s' : cS) : Prop := f_X11_wind a0 a1 a2 s = (r, s')
theorem pr_X11_wind {g : pG} {l : Launch} {a0 : Int32} {a1 : Int32} {a2 : Int32} {s s' : cS} {r : Int32} (h : r_X11_wind a0 a1 a2 s r s') : PM g l 2 M_X11_wind [.ref 0, .int a0, .int a1, .int a2] (tS s) (some (.int r)) (tS s') 0 0 := p_X11_wind (q := (r, s')) h
def r_X12_wind (a0 : Int32) (a1 : Int32) (a2 : Int32) (s : cS) (r : Int32) (s' : cS) : Prop := f_X12_wind a0 a1 a2 s = (r, s')
theorem pr_X12_wind {g : pG} {l : Launch} {a0 : Int32} {a1 : Int32} {a2 : Int32} {s s' : cS} {r : Int32} (h : r_X12_wind a0 a1 a2 s r s') : PM g l 2 M_X12_wind [.ref 193, .int a0, .int a1, .int a2] (tS s) (some (.int r)) (tS s') 0 0 := p_X12_wind (q := (r, s')) h
def r_X11_lies (a0 : Int32) (a1 : Int32) (s : cS) (r : Int32) (s' : cS) : Prop := f_X11_lies a0 a1 s = (r, s')
theorem pr_X11_lies {g : pG} {l : Launch} {a0 : Int32} {a1 : Int32} {s s' : cS} {r : Int32} (h : r_X11_lies a0 a1 s r s') : PM g l 3 M_X11_lies [.ref 0, .int a0, .int a1] (tS s) (some (.int r)) (tS s') 0 0 := p_X11_lies (q := (r, s')) h
def r_X12_lies (a0 : Int32) (a1 : Int32) (s : cS) (r : Int32) (s' : cS) : Prop := f_X12_lies a0 a1 s = some (r, s')
theorem pr_X12_lies {g : pG} {l : Launch} {a0 : Int32} {a1 : Int32} {s s' : cS} {r : Int32} (h : r_X12_lies a0 a1 s r s') : PM g l 2 M_X12_lies [.ref 193, .int a0, .int a1] (tS s) (some (.int r)) (tS s') 0 0 := p_X12_lies (q := (r, s')) h
def r_X11_span (a0 : Int32) (a1 : Int32) (s : cS) (r : Int32) (s' : cS) : Prop := ∃ N, f_X11_span N a0 a1 s = some (r, s')
theorem pr_X11_span {g : pG} {l : Launch} {a0 : Int32} {a1 : Int32} {s s' : cS} {r : Int32} (h : r_X11_span a0 a1 s r s') : PM g l 4 M_X11_span [.ref 0, .int a0, .int a1] (tS s) (some (.int r)) (tS s') 0 0 := by
  obtain ⟨N, h1⟩ := h
  exact p_X11_span (q := (r, s')) h1
def r_X12_span (a0 : Int32) (a1 : Int32) (s : cS) (r : Int32) (s' : cS) : Prop := ∃ N, f_X12_span N a0 a1 s = some (r, s')
theorem pr_X12_span {g : pG} {l : Launch} {a0 : Int32} {a1 : Int32} {s s' : cS} {r : Int32} (h : r_X12_span a0 a1 s r s') : PM g l 3 M_X12_span [.ref 193, .int a0, .int a1] (tS s) (some (.int r)) (tS s') 0 0 := by
  obtain ⟨N, h1⟩ := h
  exact p_X12_span (q := (r, s')) h1
def r_X11_order (a0 : Int32) (a1 : Int32) (s : cS) (r : Int32) (s' : cS) : Prop := ∃ N, f_X11_order N a0 a1 s = some (r, s')
theorem pr_X11_order {g : pG} {l : Launch} {a0 : Int32} {a1 : Int32} {s s' : cS} {r : Int32} (h : r_X11_order a0 a1 s r s') : PM g l 4 M_X11_order [.ref 0, .int a0, .int a1] (tS s) (some (.int r)) (tS s') 0 0 := by
  obtain ⟨N, h1⟩ := h
  exact p_X11_order (q := (r, s')) h1
def r_X12_order (a0 : Int32) (a1 : Int32) (s : cS) (r : Int32) (s' : cS) : Prop := ∃ N, f_X12_order N a0 a1 s = some (r, s')
theorem pr_X12_order {g : pG} {l : Launch} {a0 : Int32} {a1 : Int32} {s s' : cS} {r : Int32} (h : r_X12_order a0 a1 s r s') : PM g l 3 M_X12_order [.ref 193, .int a0, .int a1] (tS s) (some (.int r)) (tS s') 0 0 := by
  obtain ⟨N, h1⟩ := h
  exact p_X12_order (q := (r, s')) h1
def r_X11_cell (a0 : Int32) (a1 : Int32) (a2 : Int32) (s : cS) (r : Int32) (s' : cS) : Prop := f_X11_cell a0 a1 a2 s = (r, s')
theorem pr_X11_cell {g : pG} {l : Launch} {a0 : Int32} {a1 : Int32} {a2 : Int32} {s s' : cS} {r : Int32} (h : r_X11_cell a0 a1 a2 s r s') : PM g l 3 M_X11_cell [.ref 0, .int a0, .int a1, .int a2] (tS s) (some (.int r)) (tS s') 0 0 := p_X11_cell (q := (r, s')) h
def r_X12_cell (a0 : Int32) (a1 : Int32) (a2 : Int32) (s : cS) (r : Int32) (s' : cS) : Prop := f_X12_cell a0 a1 a2 s = some (r, s')
theorem pr_X12_cell {g : pG} {l : Launch} {a0 : Int32} {a1 : Int32} {a2 : Int32} {s s' : cS} {r : Int32} (h : r_X12_cell a0 a1 a2 s r s') : PM g l 3 M_X12_cell [.ref 193, .int a0, .int a1, .int a2] (tS s) (some (.int r)) (tS s') 0 0 := p_X12_cell (q := (r, s')) h
def r_X11_nets (a0 : Int32) (a1 : Int32) (a2 : Int32) (s : cS) (r : Int64) (s' : cS) : Prop := ∃ N, f_X11_nets N a0 a1 a2 s = some (r, s')
theorem pr_X11_nets {g : pG} {l : Launch} {a0 : Int32} {a1 : Int32} {a2 : Int32} {s s' : cS} {r : Int64} (h : r_X11_nets a0 a1 a2 s r s') : PM g l 6 M_X11_nets [.ref 0, .int a0, .int a1, .int a2] (tS s) (some (.long r)) (tS s') 0 0 := by
  obtain ⟨N, h1⟩ := h
  exact p_X11_nets (q := (r, s')) h1
def r_X12_nets (a0 : Int32) (a1 : Int32) (a2 : Int32) (s : cS) (r : Int64) (s' : cS) : Prop := ∃ N, f_X12_nets N a0 a1 a2 s = some (r, s')
theorem pr_X12_nets {g : pG} {l : Launch} {a0 : Int32} {a1 : Int32} {a2 : Int32} {s s' : cS} {r : Int64} (h : r_X12_nets a0 a1 a2 s r s') : PM g l 3 M_X12_nets [.ref 193, .int a0, .int a1, .int a2] (tS s) (some (.long r)) (tS s') 0 0 := by
  obtain ⟨N, h1⟩ := h
  exact p_X12_nets (q := (r, s')) h1
def r_X11_fly (a0 : Int32) (a1 : Int32) (a2 : Int32) (a3 : Int32) (a4 : Int32) (s : cS) (r : Int32) (s' : cS) : Prop := ∃ N, f_X11_fly N a0 a1 a2 a3 a4 s = some (r, s')
theorem pr_X11_fly {g : pG} {l : Launch} {a0 : Int32} {a1 : Int32} {a2 : Int32} {a3 : Int32} {a4 : Int32} {s s' : cS} {r : Int32} (h : r_X11_fly a0 a1 a2 a3 a4 s r s') : PM g l 8 M_X11_fly [.ref 0, .int a0, .int a1, .int a2, .int a3, .int a4] (tS s) (some (.int r)) (tS s') 0 0 := by
  obtain ⟨N, h1⟩ := h
  exact p_X11_fly (q := (r, s')) h1
def r_X12_fly (a0 : Int32) (a1 : Int32) (a2 : Int32) (a3 : Int32) (a4 : Int32) (s : cS) (r : Int32) (s' : cS) : Prop := ∃ N, f_X12_fly N a0 a1 a2 a3 a4 s = some (r, s')
theorem pr_X12_fly {g : pG} {l : Launch} {a0 : Int32} {a1 : Int32} {a2 : Int32} {a3 : Int32} {a4 : Int32} {s s' : cS} {r : Int32} (h : r_X12_fly a0 a1 a2 a3 a4 s r s') : PM g l 8 M_X12_fly [.ref 193, .int a0, .int a1, .int a2, .int a3, .int a4] (tS s) (some (.int r)) (tS s') 0 0 := by
  obtain ⟨N, h1⟩ := h
  exact p_X12_fly (q := (r, s')) h1
def r_X11_check (a0 : Int32) (a1 : Int32) (s : cS) (r : Int32) (s' : cS) : Prop := ∃ N, f_X11_check N a0 a1 s = some (r, s')
theorem pr_X11_check {g : pG} {l : Launch} {a0 : Int32} {a1 : Int32} {s s' : cS} {r : Int32} (h : r_X11_check a0 a1 s r s') : PM g l 4 M_X11_check [.ref 0, .int a0, .int a1] (tS s) (some (.int r)) (tS s') 0 0 := by
  obtain ⟨N, h1⟩ := h
  exact p_X11_check (q := (r, s')) h1
def r_X12_check (a0 : Int32) (a1 : Int32) (s : cS) (r : Int32) (s' : cS) : Prop := ∃ N, f_X12_check N a0 a1 s = some (r, s')
theorem pr_X12_check {g : pG} {l : Launch} {a0 : Int32} {a1 : Int32} {s s' : cS} {r : Int32} (h : r_X12_check a0 a1 s r s') : PM g l 3 M_X12_check [.ref 193, .int a0, .int a1] (tS s) (some (.int r)) (tS s') 0 0 := by
  obtain ⟨N, h1⟩ := h
  exact p_X12_check (q := (r, s')) h1
def r_X11_count (a0 : Int32) (s : cS) (r : Int32) (s' : cS) : Prop := f_X11_count a0 s = some (r, s')
theorem pr_X11_count {g : pG} {l : Launch} {a0 : Int32} {s s' : cS} {r : Int32} (h : r_X11_count a0 s r s') : PM g l 4 M_X11_count [.ref 0, .int a0] (tS s) (some (.int r)) (tS s') 0 0 := p_X11_count (q := (r, s')) h
def r_X12_count (a0 : Int32) (s : cS) (r : Int32) (s' : cS) : Prop := f_X12_count a0 s = some (r, s')
theorem pr_X12_count {g : pG} {l : Launch} {a0 : Int32} {s s' : cS} {r : Int32} (h : r_X12_count a0 s r s') : PM g l 3 M_X12_count [.ref 193, .int a0] (tS s) (some (.int r)) (tS s') 0 0 := p_X12_count (q := (r, s')) h
def Sp_corner (Inv : Nat → cS → Prop) : Prop := ∀ (k : Nat) (s : cS) (a0 : Int32) (a1 : Int32) (a2 : Int32) (a3 : Int32), k < 512 → Inv k s → ∃ (r : Int32) (s1 s2 : cS), r_X11_corner a0 a1 a2 a3 s r s1 ∧ r_X12_corner a0 a1 a2 a3 s1 r s2 ∧ Inv (k + 1) s2
def Sp_life (Inv : Nat → cS → Prop) : Prop := ∀ (k : Nat) (s : cS) (a0 : Int32) (a1 : Int32) (a2 : Int32), k < 512 → Inv k s → ∃ (r : Int32) (s1 s2 : cS), r_X11_life a0 a1 a2 s r s1 ∧ r_X12_life a0 a1 a2 s1 r s2 ∧ Inv (k + 1) s2
def Sp_feed (Inv : Nat → cS → Prop) : Prop := ∀ (k : Nat) (s : cS) (a0 : Int32) (a1 : Int32) (a2 : Int32) (a3 : Int32) (a4 : Int32), k < 512 → Inv k s → ∃ (r : Int32) (s1 s2 : cS), r_X11_feed a0 a1 a2 a3 a4 s r s1 ∧ r_X12_feed a0 a1 a2 a3 a4 s1 r s2 ∧ Inv (k + 1) s2
def Sp_law (Inv : Nat → cS → Prop) : Prop := ∀ (k : Nat) (s : cS) (a0 : Int32), k < 512 → Inv k s → ∃ (r : Int32) (s1 s2 : cS), r_X11_law a0 s r s1 ∧ r_X12_law a0 s1 r s2 ∧ Inv (k + 1) s2
def Sp_program (Inv : Nat → cS → Prop) : Prop := ∀ (k : Nat) (s : cS) (a0 : Int32) (a1 : Int32), k < 512 → Inv k s → ∃ (r : Int32) (s1 s2 : cS), r_X11_program a0 a1 s r s1 ∧ r_X12_program a0 a1 s1 r s2 ∧ Inv (k + 1) s2
def Sp_pull (Inv : Nat → cS → Prop) : Prop := ∀ (k : Nat) (s : cS) (a0 : Int32) (a1 : Int32) (a2 : Int32), k < 512 → Inv k s → ∃ (r : Int32) (s1 s2 : cS), r_X11_pull a0 a1 a2 s r s1 ∧ r_X12_pull a0 a1 a2 s1 r s2 ∧ Inv (k + 1) s2
def Sp_hull (Inv : Nat → cS → Prop) : Prop := ∀ (k : Nat) (s : cS) (a0 : Int32), k < 512 → Inv k s → ∃ (r : Int32) (s1 s2 : cS), r_X11_hull a0 s r s1 ∧ r_X12_hull a0 s1 r s2 ∧ Inv (k + 1) s2
def Sp_flown (Inv : Nat → cS → Prop) : Prop := ∀ (k : Nat) (s : cS) (a0 : Int32) (a1 : Int32) (a2 : Int32), k < 512 → Inv k s → ∃ (r : Int32) (s1 s2 : cS), r_X11_flown a0 a1 a2 s r s1 ∧ r_X12_flown a0 a1 a2 s1 r s2 ∧ Inv (k + 1) s2
def Sp_hullIs (Inv : Nat → cS → Prop) : Prop := ∀ (k : Nat) (s : cS) (a0 : Int32) (a1 : Int32), k < 512 → Inv k s → ∃ (r : Int32) (s1 s2 : cS), r_X11_hullIs a0 a1 s r s1 ∧ r_X12_hullIs a0 a1 s1 r s2 ∧ Inv (k + 1) s2
def Sp_cornerIs (Inv : Nat → cS → Prop) : Prop := ∀ (k : Nat) (s : cS) (a0 : Int32) (a1 : Int32) (a2 : Int32), k < 512 → Inv k s → ∃ (r : Int32) (s1 s2 : cS), r_X11_cornerIs a0 a1 a2 s r s1 ∧ r_X12_cornerIs a0 a1 a2 s1 r s2 ∧ Inv (k + 1) s2
def Sp_runs (Inv : Nat → cS → Prop) : Prop := ∀ (k : Nat) (s : cS) (a0 : Int32) (a1 : Int32) (a2 : Int32) (a3 : Int32), k < 512 → Inv k s → ∃ (r : Int32) (s1 s2 : cS), r_X11_runs a0 a1 a2 a3 s r s1 ∧ r_X12_runs a0 a1 a2 a3 s1 r s2 ∧ Inv (k + 1) s2
def Sp_odds (Inv : Nat → cS → Prop) : Prop := ∀ (k : Nat) (s : cS) (a0 : Int32) (a1 : Int32) (a2 : Int32) (a3 : Int32), k < 512 → Inv k s → ∃ (r : Int64) (s1 s2 : cS), r_X11_odds a0 a1 a2 a3 s r s1 ∧ r_X12_odds a0 a1 a2 a3 s1 r s2 ∧ Inv (k + 1) s2
def Sp_left (Inv : Nat → cS → Prop) : Prop := ∀ (k : Nat) (s : cS) (a0 : Int32) (a1 : Int32) (a2 : Int32) (a3 : Int32), k < 512 → Inv k s → ∃ (r : Int64) (s1 s2 : cS), r_X11_left a0 a1 a2 a3 s r s1 ∧ r_X12_left a0 a1 a2 a3 s1 r s2 ∧ Inv (k + 1) s2
def Sp_likely (Inv : Nat → cS → Prop) : Prop := ∀ (k : Nat) (s : cS) (a0 : Int32) (a1 : Int32) (a2 : Int32) (a3 : Int32), k < 512 → Inv k s → ∃ (r : Int32) (s1 s2 : cS), r_X11_likely a0 a1 a2 a3 s r s1 ∧ r_X12_likely a0 a1 a2 a3 s1 r s2 ∧ Inv (k + 1) s2
def Sp_off (Inv : Nat → cS → Prop) : Prop := ∀ (k : Nat) (s : cS) (a0 : Int32) (a1 : Int32) (a2 : Int32), k < 512 → Inv k s → ∃ (r : Int32) (s1 s2 : cS), r_X11_off a0 a1 a2 s r s1 ∧ r_X12_off a0 a1 a2 s1 r s2 ∧ Inv (k + 1) s2
def Sp_trial (Inv : Nat → cS → Prop) : Prop := ∀ (k : Nat) (s : cS) (a0 : Int32) (a1 : Int32) (a2 : Int32) (a3 : Int32) (a4 : Int32), k < 512 → Inv k s → ∃ (r : Int32) (s1 s2 : cS), r_X11_trial a0 a1 a2 a3 a4 s r s1 ∧ r_X12_trial a0 a1 a2 a3 a4 s1 r s2 ∧ Inv (k + 1) s2
def Sp_says (Inv : Nat → cS → Prop) : Prop := ∀ (k : Nat) (s : cS) (a0 : Int32) (a1 : Int32), k < 512 → Inv k s → ∃ (r : Int64) (s1 s2 : cS), r_X11_says a0 a1 s r s1 ∧ r_X12_says a0 a1 s1 r s2 ∧ Inv (k + 1) s2
def Sp_cheapest (Inv : Nat → cS → Prop) : Prop := ∀ (k : Nat) (s : cS) (a0 : Int32), k < 512 → Inv k s → ∃ (r : Int32) (s1 s2 : cS), r_X11_cheapest a0 s r s1 ∧ r_X12_cheapest a0 s1 r s2 ∧ Inv (k + 1) s2
def Sp_story (Inv : Nat → cS → Prop) : Prop := ∀ (k : Nat) (s : cS) (a0 : Int32), k < 512 → Inv k s → ∃ (r : Int32) (s1 s2 : cS), r_X11_story a0 s r s1 ∧ r_X12_story a0 s1 r s2 ∧ Inv (k + 1) s2
def Sp_find (Inv : Nat → cS → Prop) : Prop := ∀ (k : Nat) (s : cS), k < 512 → Inv k s → ∃ (r : Int32) (s1 s2 : cS), r_X11_find s r s1 ∧ r_X12_find s1 r s2 ∧ Inv (k + 1) s2
def Sp_tells (Inv : Nat → cS → Prop) : Prop := ∀ (k : Nat) (s : cS) (a0 : Int32) (a1 : Int32) (a2 : Int32), k < 512 → Inv k s → ∃ (r : Int32) (s1 s2 : cS), r_X11_tells a0 a1 a2 s r s1 ∧ r_X12_tells a0 a1 a2 s1 r s2 ∧ Inv (k + 1) s2
def Sp_seen (Inv : Nat → cS → Prop) : Prop := ∀ (k : Nat) (s : cS) (a0 : Int32) (a1 : Int32), k < 512 → Inv k s → ∃ (r : Int32) (s1 s2 : cS), r_X11_seen a0 a1 s r s1 ∧ r_X12_seen a0 a1 s1 r s2 ∧ Inv (k + 1) s2
def Sp_weighs (Inv : Nat → cS → Prop) : Prop := ∀ (k : Nat) (s : cS) (a0 : Int32), k < 512 → Inv k s → ∃ (r : Int64) (s1 s2 : cS), r_X11_weighs a0 s r s1 ∧ r_X12_weighs a0 s1 r s2 ∧ Inv (k + 1) s2
def Sp_moves (Inv : Nat → cS → Prop) : Prop := ∀ (k : Nat) (s : cS), k < 512 → Inv k s → ∃ (r : Int32) (s1 s2 : cS), r_X11_moves s r s1 ∧ r_X12_moves s1 r s2 ∧ Inv (k + 1) s2
def Sp_wind (Inv : Nat → cS → Prop) : Prop := ∀ (k : Nat) (s : cS) (a0 : Int32) (a1 : Int32) (a2 : Int32), k < 512 → Inv k s → ∃ (r : Int32) (s1 s2 : cS), r_X11_wind a0 a1 a2 s r s1 ∧ r_X12_wind a0 a1 a2 s1 r s2 ∧ Inv (k + 1) s2
def Sp_lies (Inv : Nat → cS → Prop) : Prop := ∀ (k : Nat) (s : cS) (a0 : Int32) (a1 : Int32), k < 512 → Inv k s → ∃ (r : Int32) (s1 s2 : cS), r_X11_lies a0 a1 s r s1 ∧ r_X12_lies a0 a1 s1 r s2 ∧ Inv (k + 1) s2
def Sp_span (Inv : Nat → cS → Prop) : Prop := ∀ (k : Nat) (s : cS) (a0 : Int32) (a1 : Int32), k < 512 → Inv k s → ∃ (r : Int32) (s1 s2 : cS), r_X11_span a0 a1 s r s1 ∧ r_X12_span a0 a1 s1 r s2 ∧ Inv (k + 1) s2
def Sp_order (Inv : Nat → cS → Prop) : Prop := ∀ (k : Nat) (s : cS) (a0 : Int32) (a1 : Int32), k < 512 → Inv k s → ∃ (r : Int32) (s1 s2 : cS), r_X11_order a0 a1 s r s1 ∧ r_X12_order a0 a1 s1 r s2 ∧ Inv (k + 1) s2
def Sp_cell (Inv : Nat → cS → Prop) : Prop := ∀ (k : Nat) (s : cS) (a0 : Int32) (a1 : Int32) (a2 : Int32), k < 512 → Inv k s → ∃ (r : Int32) (s1 s2 : cS), r_X11_cell a0 a1 a2 s r s1 ∧ r_X12_cell a0 a1 a2 s1 r s2 ∧ Inv (k + 1) s2
def Sp_nets (Inv : Nat → cS → Prop) : Prop := ∀ (k : Nat) (s : cS) (a0 : Int32) (a1 : Int32) (a2 : Int32), k < 512 → Inv k s → ∃ (r : Int64) (s1 s2 : cS), r_X11_nets a0 a1 a2 s r s1 ∧ r_X12_nets a0 a1 a2 s1 r s2 ∧ Inv (k + 1) s2
def Sp_fly (Inv : Nat → cS → Prop) : Prop := ∀ (k : Nat) (s : cS) (a0 : Int32) (a1 : Int32) (a2 : Int32) (a3 : Int32) (a4 : Int32), k < 512 → Inv k s → ∃ (r : Int32) (s1 s2 : cS), r_X11_fly a0 a1 a2 a3 a4 s r s1 ∧ r_X12_fly a0 a1 a2 a3 a4 s1 r s2 ∧ Inv (k + 1) s2
def Sp_check (Inv : Nat → cS → Prop) : Prop := ∀ (k : Nat) (s : cS) (a0 : Int32) (a1 : Int32), k < 512 → Inv k s → ∃ (r : Int32) (s1 s2 : cS), r_X11_check a0 a1 s r s1 ∧ r_X12_check a0 a1 s1 r s2 ∧ Inv (k + 1) s2
def Sp_count (Inv : Nat → cS → Prop) : Prop := ∀ (k : Nat) (s : cS) (a0 : Int32), k < 512 → Inv k s → ∃ (r : Int32) (s1 s2 : cS), r_X11_count a0 s r s1 ∧ r_X12_count a0 s1 r s2 ∧ Inv (k + 1) s2
def Steps (Inv : Nat → cS → Prop) : Prop := Sp_corner Inv ∧ Sp_life Inv ∧ Sp_feed Inv ∧ Sp_law Inv ∧ Sp_program Inv ∧ Sp_pull Inv ∧ Sp_hull Inv ∧ Sp_flown Inv ∧ Sp_hullIs Inv ∧ Sp_cornerIs Inv ∧ Sp_runs Inv ∧ Sp_odds Inv ∧ Sp_left Inv ∧ Sp_likely Inv ∧ Sp_off Inv ∧ Sp_trial Inv ∧ Sp_says Inv ∧ Sp_cheapest Inv ∧ Sp_story Inv ∧ Sp_find Inv ∧ Sp_tells Inv ∧ Sp_seen Inv ∧ Sp_weighs Inv ∧ Sp_moves Inv ∧ Sp_wind Inv ∧ Sp_lies Inv ∧ Sp_span Inv ∧ Sp_order Inv ∧ Sp_cell Inv ∧ Sp_nets Inv ∧ Sp_fly Inv ∧ Sp_check Inv ∧ Sp_count Inv
theorem lg_cmp_self (r : Int64) : lg_cmp r r = 0 := by
  unfold lg_cmp
  rw [if_neg (Int64.lt_irrefl), if_pos rfl]
def M_L_law (nm : String) : pM := (⟨RL, nm, "([I)Z"⟩, cL_law, 4, ret)
def FL (g : pG) : pF := fun below args s t => gz g = s.heap.size → args = #[Value.ref (gb g)] → lw_Z below args s t
theorem PW.lawret {nm : String} {g : pG} {l : Launch} {pc : Nat} {lv : List (Nat × Value)} {S : pS} {kc ks : Nat} (hd : decode cL_law pc = .ok (.ireturn, 1)) (hc : kc ≤ 600000) (hs : ks ≤ 7302250) : PW g l room_1 (M_L_law nm) (FL g) pc lv [.int 1] S kc ks := by
  intro p e s m args below meth c H locs ls C hR hS hl
  by_cases hz : gz g = s.heap.size ∧ args = #[Value.ref (gb g)]
  · obtain ⟨hz, ha⟩ := hz
    subst ha
    have h : W p l e room_1 s m #[Value.ref (gb g)] below meth c H locs kc ks (lw_Z below #[Value.ref (gb g)] s) (F0 m pc ls [.int 1]) :=
      va_forget (fun q hq => by rw [← hz]; exact hS.2.2 q hq) (W.widen hc hs (lw_ret C.1 C.2.1 C.2.2.1 C.2.2.2.2.2.2.1 hd))
    intro T hT X
    obtain ⟨t, h1, h2⟩ := h T hT X
    exact ⟨t, h1, fun _ _ => h2⟩
  · intro T hT X
    exact ⟨_, Steps.refl _, fun h1 h2 => absurd ⟨h1, h2⟩ hz⟩
theorem nIadd {i L : Nat} {j : Nat} (h : i + j < L) (hL : L ≤ 3072) : vp_in (nI i + nI j) L := by
  rw [nI_add]
  exact vp_in_nI h (by omega)

set_option maxRecDepth 20000 in
set_option maxHeartbeats 4000000 in
theorem case_corner {nm : String} {g : pG} {l : Launch} {Inv : Nat → cS → Prop} (H : Sp_corner Inv) {j : Nat} (hj : j < 512) {s : cS} (hI : Inv j s) {x3 : Int32} (hin : ∀ (q : Int32), (0 ≤ q ∧ q ≤ 5) → vp_in (x3 + q) (gL g)) (k : ∀ s2, Inv (j + 1) s2 → PW g l room_1 (M_L_law nm) (FL g) 1454 [(3, .int x3), (2, .ref 193), (1, .ref 0), (0, .float 0)] [] (tS s2) 242 KS) : PW g l room_1 (M_L_law nm) (FL g) 180 [(3, .int x3), (2, .ref 193), (1, .ref 0), (0, .float 0)] [] (tS s) 242 KS := by
  obtain ⟨r, s1, s2, h1, h2, h3⟩ := H j s (gx g (x3 + 1).toNatClampNeg) (gx g (x3 + 2).toNatClampNeg) (gx g (x3 + 3).toNatClampNeg) (gx g (x3 + 4).toNatClampNeg) hj hI
  refine PW.aload_n 2 1 dL_law_180 rfl rfl rfl ?_
  refine PW.aload_n 3 0 dL_law_181 rfl rfl rfl ?_
  refine PW.iload_n 0 3 dL_law_182 rfl rfl ?_
  refine PW.iconst (v := 1) dL_law_183 (by decide) ?_
  refine PW.iadd dL_law_184 ?_
  refine PW.sload (v := gx g (x3 + 1).toNatClampNeg) dL_law_185 (hin 1 (by decide)) rfl ?_
  refine PW.aload_n 3 0 dL_law_186 rfl rfl rfl ?_
  refine PW.iload_n 0 3 dL_law_187 rfl rfl ?_
  refine PW.iconst (v := 2) dL_law_188 (by decide) ?_
  refine PW.iadd dL_law_189 ?_
  refine PW.sload (v := gx g (x3 + 2).toNatClampNeg) dL_law_190 (hin 2 (by decide)) rfl ?_
  refine PW.aload_n 3 0 dL_law_191 rfl rfl rfl ?_
  refine PW.iload_n 0 3 dL_law_192 rfl rfl ?_
  refine PW.iconst (v := 3) dL_law_193 (by decide) ?_
  refine PW.iadd dL_law_194 ?_
  refine PW.sload (v := gx g (x3 + 3).toNatClampNeg) dL_law_195 (hin 3 (by decide)) rfl ?_
  refine PW.aload_n 3 0 dL_law_196 rfl rfl rfl ?_
  refine PW.iload_n 0 3 dL_law_197 rfl rfl ?_
  refine PW.iconst (v := 4) dL_law_198 (by decide) ?_
  refine PW.iadd dL_law_199 ?_
  refine PW.sload (v := gx g (x3 + 4).toNatClampNeg) dL_law_200 (hin 4 (by decide)) rfl ?_
  refine PW.callV (r := some (.int r)) (S' := tS s1) (ci := 11) (st := []) [.int (gx g (x3 + 1).toNatClampNeg), .int (gx g (x3 + 2).toNatClampNeg), .int (gx g (x3 + 3).toNatClampNeg), .int (gx g (x3 + 4).toNatClampNeg)] dL_law_201 (pr_X11_corner h1) MV_X11_corner mL_L_13 (by decide) rfl LA_0 rfl rfl (Nat.le_of_ble_eq_true rfl) (by decide) (by decide) (Nat.le_of_ble_eq_true rfl) (Nat.le_of_ble_eq_true rfl) ?_
  show PW g l room_1 (M_L_law nm) (FL g) _ [(3, .int x3), (2, .ref 193), (1, .ref 0), (0, .float 0)] [.int r] (tS s1) 242 KS
  refine PW.aload_n 1 2 dL_law_204 rfl rfl rfl ?_
  refine PW.aload_n 3 0 dL_law_205 rfl rfl rfl ?_
  refine PW.iload_n 0 3 dL_law_206 rfl rfl ?_
  refine PW.iconst (v := 1) dL_law_207 (by decide) ?_
  refine PW.iadd dL_law_208 ?_
  refine PW.sload (v := gx g (x3 + 1).toNatClampNeg) dL_law_209 (hin 1 (by decide)) rfl ?_
  refine PW.aload_n 3 0 dL_law_210 rfl rfl rfl ?_
  refine PW.iload_n 0 3 dL_law_211 rfl rfl ?_
  refine PW.iconst (v := 2) dL_law_212 (by decide) ?_
  refine PW.iadd dL_law_213 ?_
  refine PW.sload (v := gx g (x3 + 2).toNatClampNeg) dL_law_214 (hin 2 (by decide)) rfl ?_
  refine PW.aload_n 3 0 dL_law_215 rfl rfl rfl ?_
  refine PW.iload_n 0 3 dL_law_216 rfl rfl ?_
  refine PW.iconst (v := 3) dL_law_217 (by decide) ?_
  refine PW.iadd dL_law_218 ?_
  refine PW.sload (v := gx g (x3 + 3).toNatClampNeg) dL_law_219 (hin 3 (by decide)) rfl ?_
  refine PW.aload_n 3 0 dL_law_220 rfl rfl rfl ?_
  refine PW.iload_n 0 3 dL_law_221 rfl rfl ?_
  refine PW.iconst (v := 4) dL_law_222 (by decide) ?_
  refine PW.iadd dL_law_223 ?_
  refine PW.sload (v := gx g (x3 + 4).toNatClampNeg) dL_law_224 (hin 4 (by decide)) rfl ?_
  refine PW.callV (r := some (.int r)) (S' := tS s2) (ci := 12) (st := [.int r]) [.int (gx g (x3 + 1).toNatClampNeg), .int (gx g (x3 + 2).toNatClampNeg), .int (gx g (x3 + 3).toNatClampNeg), .int (gx g (x3 + 4).toNatClampNeg)] dL_law_225 (pr_X12_corner h2) MV_X12_corner mL_L_17 (by decide) rfl LA_193 rfl rfl (Nat.le_of_ble_eq_true rfl) (by decide) (by decide) (Nat.le_of_ble_eq_true rfl) (Nat.le_of_ble_eq_true rfl) ?_
  show PW g l room_1 (M_L_law nm) (FL g) _ [(3, .int x3), (2, .ref 193), (1, .ref 0), (0, .float 0)] [.int r, .int r] (tS s2) 242 KS
  refine PW.icmp_eq (tgt := 1454) dL_law_228 (by decide) (fun _ => ?_) (fun z => absurd rfl z)
  exact k s2 h3
set_option maxRecDepth 20000 in
set_option maxHeartbeats 4000000 in
theorem case_life {nm : String} {g : pG} {l : Launch} {Inv : Nat → cS → Prop} (H : Sp_life Inv) {j : Nat} (hj : j < 512) {s : cS} (hI : Inv j s) {x3 : Int32} (hin : ∀ (q : Int32), (0 ≤ q ∧ q ≤ 5) → vp_in (x3 + q) (gL g)) (k : ∀ s2, Inv (j + 1) s2 → PW g l room_1 (M_L_law nm) (FL g) 1454 [(3, .int x3), (2, .ref 193), (1, .ref 0), (0, .float 0)] [] (tS s2) 242 KS) : PW g l room_1 (M_L_law nm) (FL g) 233 [(3, .int x3), (2, .ref 193), (1, .ref 0), (0, .float 0)] [] (tS s) 242 KS := by
  obtain ⟨r, s1, s2, h1, h2, h3⟩ := H j s (gx g (x3 + 1).toNatClampNeg) (gx g (x3 + 2).toNatClampNeg) (gx g (x3 + 3).toNatClampNeg) hj hI
  refine PW.aload_n 2 1 dL_law_233 rfl rfl rfl ?_
  refine PW.aload_n 3 0 dL_law_234 rfl rfl rfl ?_
  refine PW.iload_n 0 3 dL_law_235 rfl rfl ?_
  refine PW.iconst (v := 1) dL_law_236 (by decide) ?_
  refine PW.iadd dL_law_237 ?_
  refine PW.sload (v := gx g (x3 + 1).toNatClampNeg) dL_law_238 (hin 1 (by decide)) rfl ?_
  refine PW.aload_n 3 0 dL_law_239 rfl rfl rfl ?_
  refine PW.iload_n 0 3 dL_law_240 rfl rfl ?_
  refine PW.iconst (v := 2) dL_law_241 (by decide) ?_
  refine PW.iadd dL_law_242 ?_
  refine PW.sload (v := gx g (x3 + 2).toNatClampNeg) dL_law_243 (hin 2 (by decide)) rfl ?_
  refine PW.aload_n 3 0 dL_law_244 rfl rfl rfl ?_
  refine PW.iload_n 0 3 dL_law_245 rfl rfl ?_
  refine PW.iconst (v := 3) dL_law_246 (by decide) ?_
  refine PW.iadd dL_law_247 ?_
  refine PW.sload (v := gx g (x3 + 3).toNatClampNeg) dL_law_248 (hin 3 (by decide)) rfl ?_
  refine PW.callV (r := some (.int r)) (S' := tS s1) (ci := 11) (st := []) [.int (gx g (x3 + 1).toNatClampNeg), .int (gx g (x3 + 2).toNatClampNeg), .int (gx g (x3 + 3).toNatClampNeg)] dL_law_249 (pr_X11_life h1) MV_X11_life mL_L_18 (by decide) rfl LA_0 rfl rfl (Nat.le_of_ble_eq_true rfl) (by decide) (by decide) (Nat.le_of_ble_eq_true rfl) (Nat.le_of_ble_eq_true rfl) ?_
  show PW g l room_1 (M_L_law nm) (FL g) _ [(3, .int x3), (2, .ref 193), (1, .ref 0), (0, .float 0)] [.int r] (tS s1) 242 KS
  refine PW.aload_n 1 2 dL_law_252 rfl rfl rfl ?_
  refine PW.aload_n 3 0 dL_law_253 rfl rfl rfl ?_
  refine PW.iload_n 0 3 dL_law_254 rfl rfl ?_
  refine PW.iconst (v := 1) dL_law_255 (by decide) ?_
  refine PW.iadd dL_law_256 ?_
  refine PW.sload (v := gx g (x3 + 1).toNatClampNeg) dL_law_257 (hin 1 (by decide)) rfl ?_
  refine PW.aload_n 3 0 dL_law_258 rfl rfl rfl ?_
  refine PW.iload_n 0 3 dL_law_259 rfl rfl ?_
  refine PW.iconst (v := 2) dL_law_260 (by decide) ?_
  refine PW.iadd dL_law_261 ?_
  refine PW.sload (v := gx g (x3 + 2).toNatClampNeg) dL_law_262 (hin 2 (by decide)) rfl ?_
  refine PW.aload_n 3 0 dL_law_263 rfl rfl rfl ?_
  refine PW.iload_n 0 3 dL_law_264 rfl rfl ?_
  refine PW.iconst (v := 3) dL_law_265 (by decide) ?_
  refine PW.iadd dL_law_266 ?_
  refine PW.sload (v := gx g (x3 + 3).toNatClampNeg) dL_law_267 (hin 3 (by decide)) rfl ?_
  refine PW.callV (r := some (.int r)) (S' := tS s2) (ci := 12) (st := [.int r]) [.int (gx g (x3 + 1).toNatClampNeg), .int (gx g (x3 + 2).toNatClampNeg), .int (gx g (x3 + 3).toNatClampNeg)] dL_law_268 (pr_X12_life h2) MV_X12_life mL_L_22 (by decide) rfl LA_193 rfl rfl (Nat.le_of_ble_eq_true rfl) (by decide) (by decide) (Nat.le_of_ble_eq_true rfl) (Nat.le_of_ble_eq_true rfl) ?_
  show PW g l room_1 (M_L_law nm) (FL g) _ [(3, .int x3), (2, .ref 193), (1, .ref 0), (0, .float 0)] [.int r, .int r] (tS s2) 242 KS
  refine PW.icmp_eq (tgt := 1454) dL_law_271 (by decide) (fun _ => ?_) (fun z => absurd rfl z)
  exact k s2 h3
set_option maxRecDepth 20000 in
set_option maxHeartbeats 4000000 in
theorem case_feed {nm : String} {g : pG} {l : Launch} {Inv : Nat → cS → Prop} (H : Sp_feed Inv) {j : Nat} (hj : j < 512) {s : cS} (hI : Inv j s) {x3 : Int32} (hin : ∀ (q : Int32), (0 ≤ q ∧ q ≤ 5) → vp_in (x3 + q) (gL g)) (k : ∀ s2, Inv (j + 1) s2 → PW g l room_1 (M_L_law nm) (FL g) 1454 [(3, .int x3), (2, .ref 193), (1, .ref 0), (0, .float 0)] [] (tS s2) 242 KS) : PW g l room_1 (M_L_law nm) (FL g) 276 [(3, .int x3), (2, .ref 193), (1, .ref 0), (0, .float 0)] [] (tS s) 242 KS := by
  obtain ⟨r, s1, s2, h1, h2, h3⟩ := H j s (gx g (x3 + 1).toNatClampNeg) (gx g (x3 + 2).toNatClampNeg) (gx g (x3 + 3).toNatClampNeg) (gx g (x3 + 4).toNatClampNeg) (gx g (x3 + 5).toNatClampNeg) hj hI
  refine PW.aload_n 2 1 dL_law_276 rfl rfl rfl ?_
  refine PW.aload_n 3 0 dL_law_277 rfl rfl rfl ?_
  refine PW.iload_n 0 3 dL_law_278 rfl rfl ?_
  refine PW.iconst (v := 1) dL_law_279 (by decide) ?_
  refine PW.iadd dL_law_280 ?_
  refine PW.sload (v := gx g (x3 + 1).toNatClampNeg) dL_law_281 (hin 1 (by decide)) rfl ?_
  refine PW.aload_n 3 0 dL_law_282 rfl rfl rfl ?_
  refine PW.iload_n 0 3 dL_law_283 rfl rfl ?_
  refine PW.iconst (v := 2) dL_law_284 (by decide) ?_
  refine PW.iadd dL_law_285 ?_
  refine PW.sload (v := gx g (x3 + 2).toNatClampNeg) dL_law_286 (hin 2 (by decide)) rfl ?_
  refine PW.aload_n 3 0 dL_law_287 rfl rfl rfl ?_
  refine PW.iload_n 0 3 dL_law_288 rfl rfl ?_
  refine PW.iconst (v := 3) dL_law_289 (by decide) ?_
  refine PW.iadd dL_law_290 ?_
  refine PW.sload (v := gx g (x3 + 3).toNatClampNeg) dL_law_291 (hin 3 (by decide)) rfl ?_
  refine PW.aload_n 3 0 dL_law_292 rfl rfl rfl ?_
  refine PW.iload_n 0 3 dL_law_293 rfl rfl ?_
  refine PW.iconst (v := 4) dL_law_294 (by decide) ?_
  refine PW.iadd dL_law_295 ?_
  refine PW.sload (v := gx g (x3 + 4).toNatClampNeg) dL_law_296 (hin 4 (by decide)) rfl ?_
  refine PW.aload_n 3 0 dL_law_297 rfl rfl rfl ?_
  refine PW.iload_n 0 3 dL_law_298 rfl rfl ?_
  refine PW.iconst (v := 5) dL_law_299 (by decide) ?_
  refine PW.iadd dL_law_300 ?_
  refine PW.sload (v := gx g (x3 + 5).toNatClampNeg) dL_law_301 (hin 5 (by decide)) rfl ?_
  refine PW.callV (r := some (.int r)) (S' := tS s1) (ci := 11) (st := []) [.int (gx g (x3 + 1).toNatClampNeg), .int (gx g (x3 + 2).toNatClampNeg), .int (gx g (x3 + 3).toNatClampNeg), .int (gx g (x3 + 4).toNatClampNeg), .int (gx g (x3 + 5).toNatClampNeg)] dL_law_302 (pr_X11_feed h1) MV_X11_feed mL_L_23 (by decide) rfl LA_0 rfl rfl (Nat.le_of_ble_eq_true rfl) (by decide) (by decide) (Nat.le_of_ble_eq_true rfl) (Nat.le_of_ble_eq_true rfl) ?_
  show PW g l room_1 (M_L_law nm) (FL g) _ [(3, .int x3), (2, .ref 193), (1, .ref 0), (0, .float 0)] [.int r] (tS s1) 242 KS
  refine PW.aload_n 1 2 dL_law_305 rfl rfl rfl ?_
  refine PW.aload_n 3 0 dL_law_306 rfl rfl rfl ?_
  refine PW.iload_n 0 3 dL_law_307 rfl rfl ?_
  refine PW.iconst (v := 1) dL_law_308 (by decide) ?_
  refine PW.iadd dL_law_309 ?_
  refine PW.sload (v := gx g (x3 + 1).toNatClampNeg) dL_law_310 (hin 1 (by decide)) rfl ?_
  refine PW.aload_n 3 0 dL_law_311 rfl rfl rfl ?_
  refine PW.iload_n 0 3 dL_law_312 rfl rfl ?_
  refine PW.iconst (v := 2) dL_law_313 (by decide) ?_
  refine PW.iadd dL_law_314 ?_
  refine PW.sload (v := gx g (x3 + 2).toNatClampNeg) dL_law_315 (hin 2 (by decide)) rfl ?_
  refine PW.aload_n 3 0 dL_law_316 rfl rfl rfl ?_
  refine PW.iload_n 0 3 dL_law_317 rfl rfl ?_
  refine PW.iconst (v := 3) dL_law_318 (by decide) ?_
  refine PW.iadd dL_law_319 ?_
  refine PW.sload (v := gx g (x3 + 3).toNatClampNeg) dL_law_320 (hin 3 (by decide)) rfl ?_
  refine PW.aload_n 3 0 dL_law_321 rfl rfl rfl ?_
  refine PW.iload_n 0 3 dL_law_322 rfl rfl ?_
  refine PW.iconst (v := 4) dL_law_323 (by decide) ?_
  refine PW.iadd dL_law_324 ?_
  refine PW.sload (v := gx g (x3 + 4).toNatClampNeg) dL_law_325 (hin 4 (by decide)) rfl ?_
  refine PW.aload_n 3 0 dL_law_326 rfl rfl rfl ?_
  refine PW.iload_n 0 3 dL_law_327 rfl rfl ?_
  refine PW.iconst (v := 5) dL_law_328 (by decide) ?_
  refine PW.iadd dL_law_329 ?_
  refine PW.sload (v := gx g (x3 + 5).toNatClampNeg) dL_law_330 (hin 5 (by decide)) rfl ?_
  refine PW.callV (r := some (.int r)) (S' := tS s2) (ci := 12) (st := [.int r]) [.int (gx g (x3 + 1).toNatClampNeg), .int (gx g (x3 + 2).toNatClampNeg), .int (gx g (x3 + 3).toNatClampNeg), .int (gx g (x3 + 4).toNatClampNeg), .int (gx g (x3 + 5).toNatClampNeg)] dL_law_331 (pr_X12_feed h2) MV_X12_feed mL_L_27 (by decide) rfl LA_193 rfl rfl (Nat.le_of_ble_eq_true rfl) (by decide) (by decide) (Nat.le_of_ble_eq_true rfl) (Nat.le_of_ble_eq_true rfl) ?_
  show PW g l room_1 (M_L_law nm) (FL g) _ [(3, .int x3), (2, .ref 193), (1, .ref 0), (0, .float 0)] [.int r, .int r] (tS s2) 242 KS
  refine PW.icmp_eq (tgt := 1454) dL_law_334 (by decide) (fun _ => ?_) (fun z => absurd rfl z)
  exact k s2 h3
set_option maxRecDepth 20000 in
set_option maxHeartbeats 4000000 in
theorem case_law {nm : String} {g : pG} {l : Launch} {Inv : Nat → cS → Prop} (H : Sp_law Inv) {j : Nat} (hj : j < 512) {s : cS} (hI : Inv j s) {x3 : Int32} (hin : ∀ (q : Int32), (0 ≤ q ∧ q ≤ 5) → vp_in (x3 + q) (gL g)) (k : ∀ s2, Inv (j + 1) s2 → PW g l room_1 (M_L_law nm) (FL g) 1454 [(3, .int x3), (2, .ref 193), (1, .ref 0), (0, .float 0)] [] (tS s2) 242 KS) : PW g l room_1 (M_L_law nm) (FL g) 339 [(3, .int x3), (2, .ref 193), (1, .ref 0), (0, .float 0)] [] (tS s) 242 KS := by
  obtain ⟨r, s1, s2, h1, h2, h3⟩ := H j s (gx g (x3 + 1).toNatClampNeg) hj hI
  refine PW.aload_n 2 1 dL_law_339 rfl rfl rfl ?_
  refine PW.aload_n 3 0 dL_law_340 rfl rfl rfl ?_
  refine PW.iload_n 0 3 dL_law_341 rfl rfl ?_
  refine PW.iconst (v := 1) dL_law_342 (by decide) ?_
  refine PW.iadd dL_law_343 ?_
  refine PW.sload (v := gx g (x3 + 1).toNatClampNeg) dL_law_344 (hin 1 (by decide)) rfl ?_
  refine PW.callV (r := some (.int r)) (S' := tS s1) (ci := 11) (st := []) [.int (gx g (x3 + 1).toNatClampNeg)] dL_law_345 (pr_X11_law h1) MV_X11_law mL_L_28 (by decide) rfl LA_0 rfl rfl (Nat.le_of_ble_eq_true rfl) (by decide) (by decide) (Nat.le_of_ble_eq_true rfl) (Nat.le_of_ble_eq_true rfl) ?_
  show PW g l room_1 (M_L_law nm) (FL g) _ [(3, .int x3), (2, .ref 193), (1, .ref 0), (0, .float 0)] [.int r] (tS s1) 242 KS
  refine PW.aload_n 1 2 dL_law_348 rfl rfl rfl ?_
  refine PW.aload_n 3 0 dL_law_349 rfl rfl rfl ?_
  refine PW.iload_n 0 3 dL_law_350 rfl rfl ?_
  refine PW.iconst (v := 1) dL_law_351 (by decide) ?_
  refine PW.iadd dL_law_352 ?_
  refine PW.sload (v := gx g (x3 + 1).toNatClampNeg) dL_law_353 (hin 1 (by decide)) rfl ?_
  refine PW.callV (r := some (.int r)) (S' := tS s2) (ci := 12) (st := [.int r]) [.int (gx g (x3 + 1).toNatClampNeg)] dL_law_354 (pr_X12_law h2) MV_X12_law mL_L_32 (by decide) rfl LA_193 rfl rfl (Nat.le_of_ble_eq_true rfl) (by decide) (by decide) (Nat.le_of_ble_eq_true rfl) (Nat.le_of_ble_eq_true rfl) ?_
  show PW g l room_1 (M_L_law nm) (FL g) _ [(3, .int x3), (2, .ref 193), (1, .ref 0), (0, .float 0)] [.int r, .int r] (tS s2) 242 KS
  refine PW.icmp_eq (tgt := 1454) dL_law_357 (by decide) (fun _ => ?_) (fun z => absurd rfl z)
  exact k s2 h3
set_option maxRecDepth 20000 in
set_option maxHeartbeats 4000000 in
theorem case_program {nm : String} {g : pG} {l : Launch} {Inv : Nat → cS → Prop} (H : Sp_program Inv) {j : Nat} (hj : j < 512) {s : cS} (hI : Inv j s) {x3 : Int32} (hin : ∀ (q : Int32), (0 ≤ q ∧ q ≤ 5) → vp_in (x3 + q) (gL g)) (k : ∀ s2, Inv (j + 1) s2 → PW g l room_1 (M_L_law nm) (FL g) 1454 [(3, .int x3), (2, .ref 193), (1, .ref 0), (0, .float 0)] [] (tS s2) 242 KS) : PW g l room_1 (M_L_law nm) (FL g) 362 [(3, .int x3), (2, .ref 193), (1, .ref 0), (0, .float 0)] [] (tS s) 242 KS := by
  obtain ⟨r, s1, s2, h1, h2, h3⟩ := H j s (gx g (x3 + 1).toNatClampNeg) (gx g (x3 + 2).toNatClampNeg) hj hI
  refine PW.aload_n 2 1 dL_law_362 rfl rfl rfl ?_
  refine PW.aload_n 3 0 dL_law_363 rfl rfl rfl ?_
  refine PW.iload_n 0 3 dL_law_364 rfl rfl ?_
  refine PW.iconst (v := 1) dL_law_365 (by decide) ?_
  refine PW.iadd dL_law_366 ?_
  refine PW.sload (v := gx g (x3 + 1).toNatClampNeg) dL_law_367 (hin 1 (by decide)) rfl ?_
  refine PW.aload_n 3 0 dL_law_368 rfl rfl rfl ?_
  refine PW.iload_n 0 3 dL_law_369 rfl rfl ?_
  refine PW.iconst (v := 2) dL_law_370 (by decide) ?_
  refine PW.iadd dL_law_371 ?_
  refine PW.sload (v := gx g (x3 + 2).toNatClampNeg) dL_law_372 (hin 2 (by decide)) rfl ?_
  refine PW.callV (r := some (.int r)) (S' := tS s1) (ci := 11) (st := []) [.int (gx g (x3 + 1).toNatClampNeg), .int (gx g (x3 + 2).toNatClampNeg)] dL_law_373 (pr_X11_program h1) MV_X11_program mL_L_33 (by decide) rfl LA_0 rfl rfl (Nat.le_of_ble_eq_true rfl) (by decide) (by decide) (Nat.le_of_ble_eq_true rfl) (Nat.le_of_ble_eq_true rfl) ?_
  show PW g l room_1 (M_L_law nm) (FL g) _ [(3, .int x3), (2, .ref 193), (1, .ref 0), (0, .float 0)] [.int r] (tS s1) 242 KS
  refine PW.aload_n 1 2 dL_law_376 rfl rfl rfl ?_
  refine PW.aload_n 3 0 dL_law_377 rfl rfl rfl ?_
  refine PW.iload_n 0 3 dL_law_378 rfl rfl ?_
  refine PW.iconst (v := 1) dL_law_379 (by decide) ?_
  refine PW.iadd dL_law_380 ?_
  refine PW.sload (v := gx g (x3 + 1).toNatClampNeg) dL_law_381 (hin 1 (by decide)) rfl ?_
  refine PW.aload_n 3 0 dL_law_382 rfl rfl rfl ?_
  refine PW.iload_n 0 3 dL_law_383 rfl rfl ?_
  refine PW.iconst (v := 2) dL_law_384 (by decide) ?_
  refine PW.iadd dL_law_385 ?_
  refine PW.sload (v := gx g (x3 + 2).toNatClampNeg) dL_law_386 (hin 2 (by decide)) rfl ?_
  refine PW.callV (r := some (.int r)) (S' := tS s2) (ci := 12) (st := [.int r]) [.int (gx g (x3 + 1).toNatClampNeg), .int (gx g (x3 + 2).toNatClampNeg)] dL_law_387 (pr_X12_program h2) MV_X12_program mL_L_37 (by decide) rfl LA_193 rfl rfl (Nat.le_of_ble_eq_true rfl) (by decide) (by decide) (Nat.le_of_ble_eq_true rfl) (Nat.le_of_ble_eq_true rfl) ?_
  show PW g l room_1 (M_L_law nm) (FL g) _ [(3, .int x3), (2, .ref 193), (1, .ref 0), (0, .float 0)] [.int r, .int r] (tS s2) 242 KS
  refine PW.icmp_eq (tgt := 1454) dL_law_390 (by decide) (fun _ => ?_) (fun z => absurd rfl z)
  exact k s2 h3
set_option maxRecDepth 20000 in
set_option maxHeartbeats 4000000 in
theorem case_pull {nm : String} {g : pG} {l : Launch} {Inv : Nat → cS → Prop} (H : Sp_pull Inv) {j : Nat} (hj : j < 512) {s : cS} (hI : Inv j s) {x3 : Int32} (hin : ∀ (q : Int32), (0 ≤ q ∧ q ≤ 5) → vp_in (x3 + q) (gL g)) (k : ∀ s2, Inv (j + 1) s2 → PW g l room_1 (M_L_law nm) (FL g) 1454 [(3, .int x3), (2, .ref 193), (1, .ref 0), (0, .float 0)] [] (tS s2) 242 KS) : PW g l room_1 (M_L_law nm) (FL g) 395 [(3, .int x3), (2, .ref 193), (1, .ref 0), (0, .float 0)] [] (tS s) 242 KS := by
  obtain ⟨r, s1, s2, h1, h2, h3⟩ := H j s (gx g (x3 + 1).toNatClampNeg) (gx g (x3 + 2).toNatClampNeg) (gx g (x3 + 3).toNatClampNeg) hj hI
  refine PW.aload_n 2 1 dL_law_395 rfl rfl rfl ?_
  refine PW.aload_n 3 0 dL_law_396 rfl rfl rfl ?_
  refine PW.iload_n 0 3 dL_law_397 rfl rfl ?_
  refine PW.iconst (v := 1) dL_law_398 (by decide) ?_
  refine PW.iadd dL_law_399 ?_
  refine PW.sload (v := gx g (x3 + 1).toNatClampNeg) dL_law_400 (hin 1 (by decide)) rfl ?_
  refine PW.aload_n 3 0 dL_law_401 rfl rfl rfl ?_
  refine PW.iload_n 0 3 dL_law_402 rfl rfl ?_
  refine PW.iconst (v := 2) dL_law_403 (by decide) ?_
  refine PW.iadd dL_law_404 ?_
  refine PW.sload (v := gx g (x3 + 2).toNatClampNeg) dL_law_405 (hin 2 (by decide)) rfl ?_
  refine PW.aload_n 3 0 dL_law_406 rfl rfl rfl ?_
  refine PW.iload_n 0 3 dL_law_407 rfl rfl ?_
  refine PW.iconst (v := 3) dL_law_408 (by decide) ?_
  refine PW.iadd dL_law_409 ?_
  refine PW.sload (v := gx g (x3 + 3).toNatClampNeg) dL_law_410 (hin 3 (by decide)) rfl ?_
  refine PW.callV (r := some (.int r)) (S' := tS s1) (ci := 11) (st := []) [.int (gx g (x3 + 1).toNatClampNeg), .int (gx g (x3 + 2).toNatClampNeg), .int (gx g (x3 + 3).toNatClampNeg)] dL_law_411 (pr_X11_pull h1) MV_X11_pull mL_L_38 (by decide) rfl LA_0 rfl rfl (Nat.le_of_ble_eq_true rfl) (by decide) (by decide) (Nat.le_of_ble_eq_true rfl) (Nat.le_of_ble_eq_true rfl) ?_
  show PW g l room_1 (M_L_law nm) (FL g) _ [(3, .int x3), (2, .ref 193), (1, .ref 0), (0, .float 0)] [.int r] (tS s1) 242 KS
  refine PW.aload_n 1 2 dL_law_414 rfl rfl rfl ?_
  refine PW.aload_n 3 0 dL_law_415 rfl rfl rfl ?_
  refine PW.iload_n 0 3 dL_law_416 rfl rfl ?_
  refine PW.iconst (v := 1) dL_law_417 (by decide) ?_
  refine PW.iadd dL_law_418 ?_
  refine PW.sload (v := gx g (x3 + 1).toNatClampNeg) dL_law_419 (hin 1 (by decide)) rfl ?_
  refine PW.aload_n 3 0 dL_law_420 rfl rfl rfl ?_
  refine PW.iload_n 0 3 dL_law_421 rfl rfl ?_
  refine PW.iconst (v := 2) dL_law_422 (by decide) ?_
  refine PW.iadd dL_law_423 ?_
  refine PW.sload (v := gx g (x3 + 2).toNatClampNeg) dL_law_424 (hin 2 (by decide)) rfl ?_
  refine PW.aload_n 3 0 dL_law_425 rfl rfl rfl ?_
  refine PW.iload_n 0 3 dL_law_426 rfl rfl ?_
  refine PW.iconst (v := 3) dL_law_427 (by decide) ?_
  refine PW.iadd dL_law_428 ?_
  refine PW.sload (v := gx g (x3 + 3).toNatClampNeg) dL_law_429 (hin 3 (by decide)) rfl ?_
  refine PW.callV (r := some (.int r)) (S' := tS s2) (ci := 12) (st := [.int r]) [.int (gx g (x3 + 1).toNatClampNeg), .int (gx g (x3 + 2).toNatClampNeg), .int (gx g (x3 + 3).toNatClampNeg)] dL_law_430 (pr_X12_pull h2) MV_X12_pull mL_L_41 (by decide) rfl LA_193 rfl rfl (Nat.le_of_ble_eq_true rfl) (by decide) (by decide) (Nat.le_of_ble_eq_true rfl) (Nat.le_of_ble_eq_true rfl) ?_
  show PW g l room_1 (M_L_law nm) (FL g) _ [(3, .int x3), (2, .ref 193), (1, .ref 0), (0, .float 0)] [.int r, .int r] (tS s2) 242 KS
  refine PW.icmp_eq (tgt := 1454) dL_law_433 (by decide) (fun _ => ?_) (fun z => absurd rfl z)
  exact k s2 h3
set_option maxRecDepth 20000 in
set_option maxHeartbeats 4000000 in
theorem case_hull {nm : String} {g : pG} {l : Launch} {Inv : Nat → cS → Prop} (H : Sp_hull Inv) {j : Nat} (hj : j < 512) {s : cS} (hI : Inv j s) {x3 : Int32} (hin : ∀ (q : Int32), (0 ≤ q ∧ q ≤ 5) → vp_in (x3 + q) (gL g)) (k : ∀ s2, Inv (j + 1) s2 → PW g l room_1 (M_L_law nm) (FL g) 1454 [(3, .int x3), (2, .ref 193), (1, .ref 0), (0, .float 0)] [] (tS s2) 242 KS) : PW g l room_1 (M_L_law nm) (FL g) 438 [(3, .int x3), (2, .ref 193), (1, .ref 0), (0, .float 0)] [] (tS s) 242 KS := by
  obtain ⟨r, s1, s2, h1, h2, h3⟩ := H j s (gx g (x3 + 1).toNatClampNeg) hj hI
  refine PW.aload_n 2 1 dL_law_438 rfl rfl rfl ?_
  refine PW.aload_n 3 0 dL_law_439 rfl rfl rfl ?_
  refine PW.iload_n 0 3 dL_law_440 rfl rfl ?_
  refine PW.iconst (v := 1) dL_law_441 (by decide) ?_
  refine PW.iadd dL_law_442 ?_
  refine PW.sload (v := gx g (x3 + 1).toNatClampNeg) dL_law_443 (hin 1 (by decide)) rfl ?_
  refine PW.callV (r := some (.int r)) (S' := tS s1) (ci := 11) (st := []) [.int (gx g (x3 + 1).toNatClampNeg)] dL_law_444 (pr_X11_hull h1) MV_X11_hull mL_L_42 (by decide) rfl LA_0 rfl rfl (Nat.le_of_ble_eq_true rfl) (by decide) (by decide) (Nat.le_of_ble_eq_true rfl) (Nat.le_of_ble_eq_true rfl) ?_
  show PW g l room_1 (M_L_law nm) (FL g) _ [(3, .int x3), (2, .ref 193), (1, .ref 0), (0, .float 0)] [.int r] (tS s1) 242 KS
  refine PW.aload_n 1 2 dL_law_447 rfl rfl rfl ?_
  refine PW.aload_n 3 0 dL_law_448 rfl rfl rfl ?_
  refine PW.iload_n 0 3 dL_law_449 rfl rfl ?_
  refine PW.iconst (v := 1) dL_law_450 (by decide) ?_
  refine PW.iadd dL_law_451 ?_
  refine PW.sload (v := gx g (x3 + 1).toNatClampNeg) dL_law_452 (hin 1 (by decide)) rfl ?_
  refine PW.callV (r := some (.int r)) (S' := tS s2) (ci := 12) (st := [.int r]) [.int (gx g (x3 + 1).toNatClampNeg)] dL_law_453 (pr_X12_hull h2) MV_X12_hull mL_L_45 (by decide) rfl LA_193 rfl rfl (Nat.le_of_ble_eq_true rfl) (by decide) (by decide) (Nat.le_of_ble_eq_true rfl) (Nat.le_of_ble_eq_true rfl) ?_
  show PW g l room_1 (M_L_law nm) (FL g) _ [(3, .int x3), (2, .ref 193), (1, .ref 0), (0, .float 0)] [.int r, .int r] (tS s2) 242 KS
  refine PW.icmp_eq (tgt := 1454) dL_law_456 (by decide) (fun _ => ?_) (fun z => absurd rfl z)
  exact k s2 h3
set_option maxRecDepth 20000 in
set_option maxHeartbeats 4000000 in
theorem case_flown {nm : String} {g : pG} {l : Launch} {Inv : Nat → cS → Prop} (H : Sp_flown Inv) {j : Nat} (hj : j < 512) {s : cS} (hI : Inv j s) {x3 : Int32} (hin : ∀ (q : Int32), (0 ≤ q ∧ q ≤ 5) → vp_in (x3 + q) (gL g)) (k : ∀ s2, Inv (j + 1) s2 → PW g l room_1 (M_L_law nm) (FL g) 1454 [(3, .int x3), (2, .ref 193), (1, .ref 0), (0, .float 0)] [] (tS s2) 242 KS) : PW g l room_1 (M_L_law nm) (FL g) 461 [(3, .int x3), (2, .ref 193), (1, .ref 0), (0, .float 0)] [] (tS s) 242 KS := by
  obtain ⟨r, s1, s2, h1, h2, h3⟩ := H j s (gx g (x3 + 1).toNatClampNeg) (gx g (x3 + 2).toNatClampNeg) (gx g (x3 + 3).toNatClampNeg) hj hI
  refine PW.aload_n 2 1 dL_law_461 rfl rfl rfl ?_
  refine PW.aload_n 3 0 dL_law_462 rfl rfl rfl ?_
  refine PW.iload_n 0 3 dL_law_463 rfl rfl ?_
  refine PW.iconst (v := 1) dL_law_464 (by decide) ?_
  refine PW.iadd dL_law_465 ?_
  refine PW.sload (v := gx g (x3 + 1).toNatClampNeg) dL_law_466 (hin 1 (by decide)) rfl ?_
  refine PW.aload_n 3 0 dL_law_467 rfl rfl rfl ?_
  refine PW.iload_n 0 3 dL_law_468 rfl rfl ?_
  refine PW.iconst (v := 2) dL_law_469 (by decide) ?_
  refine PW.iadd dL_law_470 ?_
  refine PW.sload (v := gx g (x3 + 2).toNatClampNeg) dL_law_471 (hin 2 (by decide)) rfl ?_
  refine PW.aload_n 3 0 dL_law_472 rfl rfl rfl ?_
  refine PW.iload_n 0 3 dL_law_473 rfl rfl ?_
  refine PW.iconst (v := 3) dL_law_474 (by decide) ?_
  refine PW.iadd dL_law_475 ?_
  refine PW.sload (v := gx g (x3 + 3).toNatClampNeg) dL_law_476 (hin 3 (by decide)) rfl ?_
  refine PW.callV (r := some (.int r)) (S' := tS s1) (ci := 11) (st := []) [.int (gx g (x3 + 1).toNatClampNeg), .int (gx g (x3 + 2).toNatClampNeg), .int (gx g (x3 + 3).toNatClampNeg)] dL_law_477 (pr_X11_flown h1) MV_X11_flown mL_L_46 (by decide) rfl LA_0 rfl rfl (Nat.le_of_ble_eq_true rfl) (by decide) (by decide) (Nat.le_of_ble_eq_true rfl) (Nat.le_of_ble_eq_true rfl) ?_
  show PW g l room_1 (M_L_law nm) (FL g) _ [(3, .int x3), (2, .ref 193), (1, .ref 0), (0, .float 0)] [.int r] (tS s1) 242 KS
  refine PW.aload_n 1 2 dL_law_480 rfl rfl rfl ?_
  refine PW.aload_n 3 0 dL_law_481 rfl rfl rfl ?_
  refine PW.iload_n 0 3 dL_law_482 rfl rfl ?_
  refine PW.iconst (v := 1) dL_law_483 (by decide) ?_
  refine PW.iadd dL_law_484 ?_
  refine PW.sload (v := gx g (x3 + 1).toNatClampNeg) dL_law_485 (hin 1 (by decide)) rfl ?_
  refine PW.aload_n 3 0 dL_law_486 rfl rfl rfl ?_
  refine PW.iload_n 0 3 dL_law_487 rfl rfl ?_
  refine PW.iconst (v := 2) dL_law_488 (by decide) ?_
  refine PW.iadd dL_law_489 ?_
  refine PW.sload (v := gx g (x3 + 2).toNatClampNeg) dL_law_490 (hin 2 (by decide)) rfl ?_
  refine PW.aload_n 3 0 dL_law_491 rfl rfl rfl ?_
  refine PW.iload_n 0 3 dL_law_492 rfl rfl ?_
  refine PW.iconst (v := 3) dL_law_493 (by decide) ?_
  refine PW.iadd dL_law_494 ?_
  refine PW.sload (v := gx g (x3 + 3).toNatClampNeg) dL_law_495 (hin 3 (by decide)) rfl ?_
  refine PW.callV (r := some (.int r)) (S' := tS s2) (ci := 12) (st := [.int r]) [.int (gx g (x3 + 1).toNatClampNeg), .int (gx g (x3 + 2).toNatClampNeg), .int (gx g (x3 + 3).toNatClampNeg)] dL_law_496 (pr_X12_flown h2) MV_X12_flown mL_L_49 (by decide) rfl LA_193 rfl rfl (Nat.le_of_ble_eq_true rfl) (by decide) (by decide) (Nat.le_of_ble_eq_true rfl) (Nat.le_of_ble_eq_true rfl) ?_
  show PW g l room_1 (M_L_law nm) (FL g) _ [(3, .int x3), (2, .ref 193), (1, .ref 0), (0, .float 0)] [.int r, .int r] (tS s2) 242 KS
  refine PW.icmp_eq (tgt := 1454) dL_law_499 (by decide) (fun _ => ?_) (fun z => absurd rfl z)
  exact k s2 h3
set_option maxRecDepth 20000 in
set_option maxHeartbeats 4000000 in
theorem case_hullIs {nm : String} {g : pG} {l : Launch} {Inv : Nat → cS → Prop} (H : Sp_hullIs Inv) {j : Nat} (hj : j < 512) {s : cS} (hI : Inv j s) {x3 : Int32} (hin : ∀ (q : Int32), (0 ≤ q ∧ q ≤ 5) → vp_in (x3 + q) (gL g)) (k : ∀ s2, Inv (j + 1) s2 → PW g l room_1 (M_L_law nm) (FL g) 1454 [(3, .int x3), (2, .ref 193), (1, .ref 0), (0, .float 0)] [] (tS s2) 242 KS) : PW g l room_1 (M_L_law nm) (FL g) 504 [(3, .int x3), (2, .ref 193), (1, .ref 0), (0, .float 0)] [] (tS s) 242 KS := by
  obtain ⟨r, s1, s2, h1, h2, h3⟩ := H j s (gx g (x3 + 1).toNatClampNeg) (gx g (x3 + 2).toNatClampNeg) hj hI
  refine PW.aload_n 2 1 dL_law_504 rfl rfl rfl ?_
  refine PW.aload_n 3 0 dL_law_505 rfl rfl rfl ?_
  refine PW.iload_n 0 3 dL_law_506 rfl rfl ?_
  refine PW.iconst (v := 1) dL_law_507 (by decide) ?_
  refine PW.iadd dL_law_508 ?_
  refine PW.sload (v := gx g (x3 + 1).toNatClampNeg) dL_law_509 (hin 1 (by decide)) rfl ?_
  refine PW.aload_n 3 0 dL_law_510 rfl rfl rfl ?_
  refine PW.iload_n 0 3 dL_law_511 rfl rfl ?_
  refine PW.iconst (v := 2) dL_law_512 (by decide) ?_
  refine PW.iadd dL_law_513 ?_
  refine PW.sload (v := gx g (x3 + 2).toNatClampNeg) dL_law_514 (hin 2 (by decide)) rfl ?_
  refine PW.callV (r := some (.int r)) (S' := tS s1) (ci := 11) (st := []) [.int (gx g (x3 + 1).toNatClampNeg), .int (gx g (x3 + 2).toNatClampNeg)] dL_law_515 (pr_X11_hullIs h1) MV_X11_hullIs mL_L_50 (by decide) rfl LA_0 rfl rfl (Nat.le_of_ble_eq_true rfl) (by decide) (by decide) (Nat.le_of_ble_eq_true rfl) (Nat.le_of_ble_eq_true rfl) ?_
  show PW g l room_1 (M_L_law nm) (FL g) _ [(3, .int x3), (2, .ref 193), (1, .ref 0), (0, .float 0)] [.int r] (tS s1) 242 KS
  refine PW.aload_n 1 2 dL_law_518 rfl rfl rfl ?_
  refine PW.aload_n 3 0 dL_law_519 rfl rfl rfl ?_
  refine PW.iload_n 0 3 dL_law_520 rfl rfl ?_
  refine PW.iconst (v := 1) dL_law_521 (by decide) ?_
  refine PW.iadd dL_law_522 ?_
  refine PW.sload (v := gx g (x3 + 1).toNatClampNeg) dL_law_523 (hin 1 (by decide)) rfl ?_
  refine PW.aload_n 3 0 dL_law_524 rfl rfl rfl ?_
  refine PW.iload_n 0 3 dL_law_525 rfl rfl ?_
  refine PW.iconst (v := 2) dL_law_526 (by decide) ?_
  refine PW.iadd dL_law_527 ?_
  refine PW.sload (v := gx g (x3 + 2).toNatClampNeg) dL_law_528 (hin 2 (by decide)) rfl ?_
  refine PW.callV (r := some (.int r)) (S' := tS s2) (ci := 12) (st := [.int r]) [.int (gx g (x3 + 1).toNatClampNeg), .int (gx g (x3 + 2).toNatClampNeg)] dL_law_529 (pr_X12_hullIs h2) MV_X12_hullIs mL_L_53 (by decide) rfl LA_193 rfl rfl (Nat.le_of_ble_eq_true rfl) (by decide) (by decide) (Nat.le_of_ble_eq_true rfl) (Nat.le_of_ble_eq_true rfl) ?_
  show PW g l room_1 (M_L_law nm) (FL g) _ [(3, .int x3), (2, .ref 193), (1, .ref 0), (0, .float 0)] [.int r, .int r] (tS s2) 242 KS
  refine PW.icmp_eq (tgt := 1454) dL_law_532 (by decide) (fun _ => ?_) (fun z => absurd rfl z)
  exact k s2 h3
set_option maxRecDepth 20000 in
set_option maxHeartbeats 4000000 in
theorem case_cornerIs {nm : String} {g : pG} {l : Launch} {Inv : Nat → cS → Prop} (H : Sp_cornerIs Inv) {j : Nat} (hj : j < 512) {s : cS} (hI : Inv j s) {x3 : Int32} (hin : ∀ (q : Int32), (0 ≤ q ∧ q ≤ 5) → vp_in (x3 + q) (gL g)) (k : ∀ s2, Inv (j + 1) s2 → PW g l room_1 (M_L_law nm) (FL g) 1454 [(3, .int x3), (2, .ref 193), (1, .ref 0), (0, .float 0)] [] (tS s2) 242 KS) : PW g l room_1 (M_L_law nm) (FL g) 537 [(3, .int x3), (2, .ref 193), (1, .ref 0), (0, .float 0)] [] (tS s) 242 KS := by
  obtain ⟨r, s1, s2, h1, h2, h3⟩ := H j s (gx g (x3 + 1).toNatClampNeg) (gx g (x3 + 2).toNatClampNeg) (gx g (x3 + 3).toNatClampNeg) hj hI
  refine PW.aload_n 2 1 dL_law_537 rfl rfl rfl ?_
  refine PW.aload_n 3 0 dL_law_538 rfl rfl rfl ?_
  refine PW.iload_n 0 3 dL_law_539 rfl rfl ?_
  refine PW.iconst (v := 1) dL_law_540 (by decide) ?_
  refine PW.iadd dL_law_541 ?_
  refine PW.sload (v := gx g (x3 + 1).toNatClampNeg) dL_law_542 (hin 1 (by decide)) rfl ?_
  refine PW.aload_n 3 0 dL_law_543 rfl rfl rfl ?_
  refine PW.iload_n 0 3 dL_law_544 rfl rfl ?_
  refine PW.iconst (v := 2) dL_law_545 (by decide) ?_
  refine PW.iadd dL_law_546 ?_
  refine PW.sload (v := gx g (x3 + 2).toNatClampNeg) dL_law_547 (hin 2 (by decide)) rfl ?_
  refine PW.aload_n 3 0 dL_law_548 rfl rfl rfl ?_
  refine PW.iload_n 0 3 dL_law_549 rfl rfl ?_
  refine PW.iconst (v := 3) dL_law_550 (by decide) ?_
  refine PW.iadd dL_law_551 ?_
  refine PW.sload (v := gx g (x3 + 3).toNatClampNeg) dL_law_552 (hin 3 (by decide)) rfl ?_
  refine PW.callV (r := some (.int r)) (S' := tS s1) (ci := 11) (st := []) [.int (gx g (x3 + 1).toNatClampNeg), .int (gx g (x3 + 2).toNatClampNeg), .int (gx g (x3 + 3).toNatClampNeg)] dL_law_553 (pr_X11_cornerIs h1) MV_X11_cornerIs mL_L_54 (by decide) rfl LA_0 rfl rfl (Nat.le_of_ble_eq_true rfl) (by decide) (by decide) (Nat.le_of_ble_eq_true rfl) (Nat.le_of_ble_eq_true rfl) ?_
  show PW g l room_1 (M_L_law nm) (FL g) _ [(3, .int x3), (2, .ref 193), (1, .ref 0), (0, .float 0)] [.int r] (tS s1) 242 KS
  refine PW.aload_n 1 2 dL_law_556 rfl rfl rfl ?_
  refine PW.aload_n 3 0 dL_law_557 rfl rfl rfl ?_
  refine PW.iload_n 0 3 dL_law_558 rfl rfl ?_
  refine PW.iconst (v := 1) dL_law_559 (by decide) ?_
  refine PW.iadd dL_law_560 ?_
  refine PW.sload (v := gx g (x3 + 1).toNatClampNeg) dL_law_561 (hin 1 (by decide)) rfl ?_
  refine PW.aload_n 3 0 dL_law_562 rfl rfl rfl ?_
  refine PW.iload_n 0 3 dL_law_563 rfl rfl ?_
  refine PW.iconst (v := 2) dL_law_564 (by decide) ?_
  refine PW.iadd dL_law_565 ?_
  refine PW.sload (v := gx g (x3 + 2).toNatClampNeg) dL_law_566 (hin 2 (by decide)) rfl ?_
  refine PW.aload_n 3 0 dL_law_567 rfl rfl rfl ?_
  refine PW.iload_n 0 3 dL_law_568 rfl rfl ?_
  refine PW.iconst (v := 3) dL_law_569 (by decide) ?_
  refine PW.iadd dL_law_570 ?_
  refine PW.sload (v := gx g (x3 + 3).toNatClampNeg) dL_law_571 (hin 3 (by decide)) rfl ?_
  refine PW.callV (r := some (.int r)) (S' := tS s2) (ci := 12) (st := [.int r]) [.int (gx g (x3 + 1).toNatClampNeg), .int (gx g (x3 + 2).toNatClampNeg), .int (gx g (x3 + 3).toNatClampNeg)] dL_law_572 (pr_X12_cornerIs h2) MV_X12_cornerIs mL_L_57 (by decide) rfl LA_193 rfl rfl (Nat.le_of_ble_eq_true rfl) (by decide) (by decide) (Nat.le_of_ble_eq_true rfl) (Nat.le_of_ble_eq_true rfl) ?_
  show PW g l room_1 (M_L_law nm) (FL g) _ [(3, .int x3), (2, .ref 193), (1, .ref 0), (0, .float 0)] [.int r, .int r] (tS s2) 242 KS
  refine PW.icmp_eq (tgt := 1454) dL_law_575 (by decide) (fun _ => ?_) (fun z => absurd rfl z)
  exact k s2 h3
set_option maxRecDepth 20000 in
set_option maxHeartbeats 4000000 in
theorem case_runs {nm : String} {g : pG} {l : Launch} {Inv : Nat → cS → Prop} (H : Sp_runs Inv) {j : Nat} (hj : j < 512) {s : cS} (hI : Inv j s) {x3 : Int32} (hin : ∀ (q : Int32), (0 ≤ q ∧ q ≤ 5) → vp_in (x3 + q) (gL g)) (k : ∀ s2, Inv (j + 1) s2 → PW g l room_1 (M_L_law nm) (FL g) 1454 [(3, .int x3), (2, .ref 193), (1, .ref 0), (0, .float 0)] [] (tS s2) 242 KS) : PW g l room_1 (M_L_law nm) (FL g) 580 [(3, .int x3), (2, .ref 193), (1, .ref 0), (0, .float 0)] [] (tS s) 242 KS := by
  obtain ⟨r, s1, s2, h1, h2, h3⟩ := H j s (gx g (x3 + 1).toNatClampNeg) (gx g (x3 + 2).toNatClampNeg) (gx g (x3 + 3).toNatClampNeg) (gx g (x3 + 4).toNatClampNeg) hj hI
  refine PW.aload_n 2 1 dL_law_580 rfl rfl rfl ?_
  refine PW.aload_n 3 0 dL_law_581 rfl rfl rfl ?_
  refine PW.iload_n 0 3 dL_law_582 rfl rfl ?_
  refine PW.iconst (v := 1) dL_law_583 (by decide) ?_
  refine PW.iadd dL_law_584 ?_
  refine PW.sload (v := gx g (x3 + 1).toNatClampNeg) dL_law_585 (hin 1 (by decide)) rfl ?_
  refine PW.aload_n 3 0 dL_law_586 rfl rfl rfl ?_
  refine PW.iload_n 0 3 dL_law_587 rfl rfl ?_
  refine PW.iconst (v := 2) dL_law_588 (by decide) ?_
  refine PW.iadd dL_law_589 ?_
  refine PW.sload (v := gx g (x3 + 2).toNatClampNeg) dL_law_590 (hin 2 (by decide)) rfl ?_
  refine PW.aload_n 3 0 dL_law_591 rfl rfl rfl ?_
  refine PW.iload_n 0 3 dL_law_592 rfl rfl ?_
  refine PW.iconst (v := 3) dL_law_593 (by decide) ?_
  refine PW.iadd dL_law_594 ?_
  refine PW.sload (v := gx g (x3 + 3).toNatClampNeg) dL_law_595 (hin 3 (by decide)) rfl ?_
  refine PW.aload_n 3 0 dL_law_596 rfl rfl rfl ?_
  refine PW.iload_n 0 3 dL_law_597 rfl rfl ?_
  refine PW.iconst (v := 4) dL_law_598 (by decide) ?_
  refine PW.iadd dL_law_599 ?_
  refine PW.sload (v := gx g (x3 + 4).toNatClampNeg) dL_law_600 (hin 4 (by decide)) rfl ?_
  refine PW.callV (r := some (.int r)) (S' := tS s1) (ci := 11) (st := []) [.int (gx g (x3 + 1).toNatClampNeg), .int (gx g (x3 + 2).toNatClampNeg), .int (gx g (x3 + 3).toNatClampNeg), .int (gx g (x3 + 4).toNatClampNeg)] dL_law_601 (pr_X11_runs h1) MV_X11_runs mL_L_58 (by decide) rfl LA_0 rfl rfl (Nat.le_of_ble_eq_true rfl) (by decide) (by decide) (Nat.le_of_ble_eq_true rfl) (Nat.le_of_ble_eq_true rfl) ?_
  show PW g l room_1 (M_L_law nm) (FL g) _ [(3, .int x3), (2, .ref 193), (1, .ref 0), (0, .float 0)] [.int r] (tS s1) 242 KS
  refine PW.aload_n 1 2 dL_law_604 rfl rfl rfl ?_
  refine PW.aload_n 3 0 dL_law_605 rfl rfl rfl ?_
  refine PW.iload_n 0 3 dL_law_606 rfl rfl ?_
  refine PW.iconst (v := 1) dL_law_607 (by decide) ?_
  refine PW.iadd dL_law_608 ?_
  refine PW.sload (v := gx g (x3 + 1).toNatClampNeg) dL_law_609 (hin 1 (by decide)) rfl ?_
  refine PW.aload_n 3 0 dL_law_610 rfl rfl rfl ?_
  refine PW.iload_n 0 3 dL_law_611 rfl rfl ?_
  refine PW.iconst (v := 2) dL_law_612 (by decide) ?_
  refine PW.iadd dL_law_613 ?_
  refine PW.sload (v := gx g (x3 + 2).toNatClampNeg) dL_law_614 (hin 2 (by decide)) rfl ?_
  refine PW.aload_n 3 0 dL_law_615 rfl rfl rfl ?_
  refine PW.iload_n 0 3 dL_law_616 rfl rfl ?_
  refine PW.iconst (v := 3) dL_law_617 (by decide) ?_
  refine PW.iadd dL_law_618 ?_
  refine PW.sload (v := gx g (x3 + 3).toNatClampNeg) dL_law_619 (hin 3 (by decide)) rfl ?_
  refine PW.aload_n 3 0 dL_law_620 rfl rfl rfl ?_
  refine PW.iload_n 0 3 dL_law_621 rfl rfl ?_
  refine PW.iconst (v := 4) dL_law_622 (by decide) ?_
  refine PW.iadd dL_law_623 ?_
  refine PW.sload (v := gx g (x3 + 4).toNatClampNeg) dL_law_624 (hin 4 (by decide)) rfl ?_
  refine PW.callV (r := some (.int r)) (S' := tS s2) (ci := 12) (st := [.int r]) [.int (gx g (x3 + 1).toNatClampNeg), .int (gx g (x3 + 2).toNatClampNeg), .int (gx g (x3 + 3).toNatClampNeg), .int (gx g (x3 + 4).toNatClampNeg)] dL_law_625 (pr_X12_runs h2) MV_X12_runs mL_L_61 (by decide) rfl LA_193 rfl rfl (Nat.le_of_ble_eq_true rfl) (by decide) (by decide) (Nat.le_of_ble_eq_true rfl) (Nat.le_of_ble_eq_true rfl) ?_
  show PW g l room_1 (M_L_law nm) (FL g) _ [(3, .int x3), (2, .ref 193), (1, .ref 0), (0, .float 0)] [.int r, .int r] (tS s2) 242 KS
  refine PW.icmp_eq (tgt := 1454) dL_law_628 (by decide) (fun _ => ?_) (fun z => absurd rfl z)
  exact k s2 h3
set_option maxRecDepth 20000 in
set_option maxHeartbeats 4000000 in
theorem case_odds {nm : String} {g : pG} {l : Launch} {Inv : Nat → cS → Prop} (H : Sp_odds Inv) {j : Nat} (hj : j < 512) {s : cS} (hI : Inv j s) {x3 : Int32} (hin : ∀ (q : Int32), (0 ≤ q ∧ q ≤ 5) → vp_in (x3 + q) (gL g)) (k : ∀ s2, Inv (j + 1) s2 → PW g l room_1 (M_L_law nm) (FL g) 1454 [(3, .int x3), (2, .ref 193), (1, .ref 0), (0, .float 0)] [] (tS s2) 242 KS) : PW g l room_1 (M_L_law nm) (FL g) 633 [(3, .int x3), (2, .ref 193), (1, .ref 0), (0, .float 0)] [] (tS s) 242 KS := by
  obtain ⟨r, s1, s2, h1, h2, h3⟩ := H j s (gx g (x3 + 1).toNatClampNeg) (gx g (x3 + 2).toNatClampNeg) (gx g (x3 + 3).toNatClampNeg) (gx g (x3 + 4).toNatClampNeg) hj hI
  refine PW.aload_n 2 1 dL_law_633 rfl rfl rfl ?_
  refine PW.aload_n 3 0 dL_law_634 rfl rfl rfl ?_
  refine PW.iload_n 0 3 dL_law_635 rfl rfl ?_
  refine PW.iconst (v := 1) dL_law_636 (by decide) ?_
  refine PW.iadd dL_law_637 ?_
  refine PW.sload (v := gx g (x3 + 1).toNatClampNeg) dL_law_638 (hin 1 (by decide)) rfl ?_
  refine PW.aload_n 3 0 dL_law_639 rfl rfl rfl ?_
  refine PW.iload_n 0 3 dL_law_640 rfl rfl ?_
  refine PW.iconst (v := 2) dL_law_641 (by decide) ?_
  refine PW.iadd dL_law_642 ?_
  refine PW.sload (v := gx g (x3 + 2).toNatClampNeg) dL_law_643 (hin 2 (by decide)) rfl ?_
  refine PW.aload_n 3 0 dL_law_644 rfl rfl rfl ?_
  refine PW.iload_n 0 3 dL_law_645 rfl rfl ?_
  refine PW.iconst (v := 3) dL_law_646 (by decide) ?_
  refine PW.iadd dL_law_647 ?_
  refine PW.sload (v := gx g (x3 + 3).toNatClampNeg) dL_law_648 (hin 3 (by decide)) rfl ?_
  refine PW.aload_n 3 0 dL_law_649 rfl rfl rfl ?_
  refine PW.iload_n 0 3 dL_law_650 rfl rfl ?_
  refine PW.iconst (v := 4) dL_law_651 (by decide) ?_
  refine PW.iadd dL_law_652 ?_
  refine PW.sload (v := gx g (x3 + 4).toNatClampNeg) dL_law_653 (hin 4 (by decide)) rfl ?_
  refine PW.callV (r := some (.long r)) (S' := tS s1) (ci := 11) (st := []) [.int (gx g (x3 + 1).toNatClampNeg), .int (gx g (x3 + 2).toNatClampNeg), .int (gx g (x3 + 3).toNatClampNeg), .int (gx g (x3 + 4).toNatClampNeg)] dL_law_654 (pr_X11_odds h1) MV_X11_odds mL_L_62 (by decide) rfl LA_0 rfl rfl (Nat.le_of_ble_eq_true rfl) (by decide) (by decide) (Nat.le_of_ble_eq_true rfl) (Nat.le_of_ble_eq_true rfl) ?_
  show PW g l room_1 (M_L_law nm) (FL g) _ [(3, .int x3), (2, .ref 193), (1, .ref 0), (0, .float 0)] [.long r] (tS s1) 242 KS
  refine PW.aload_n 1 2 dL_law_657 rfl rfl rfl ?_
  refine PW.aload_n 3 0 dL_law_658 rfl rfl rfl ?_
  refine PW.iload_n 0 3 dL_law_659 rfl rfl ?_
  refine PW.iconst (v := 1) dL_law_660 (by decide) ?_
  refine PW.iadd dL_law_661 ?_
  refine PW.sload (v := gx g (x3 + 1).toNatClampNeg) dL_law_662 (hin 1 (by decide)) rfl ?_
  refine PW.aload_n 3 0 dL_law_663 rfl rfl rfl ?_
  refine PW.iload_n 0 3 dL_law_664 rfl rfl ?_
  refine PW.iconst (v := 2) dL_law_665 (by decide) ?_
  refine PW.iadd dL_law_666 ?_
  refine PW.sload (v := gx g (x3 + 2).toNatClampNeg) dL_law_667 (hin 2 (by decide)) rfl ?_
  refine PW.aload_n 3 0 dL_law_668 rfl rfl rfl ?_
  refine PW.iload_n 0 3 dL_law_669 rfl rfl ?_
  refine PW.iconst (v := 3) dL_law_670 (by decide) ?_
  refine PW.iadd dL_law_671 ?_
  refine PW.sload (v := gx g (x3 + 3).toNatClampNeg) dL_law_672 (hin 3 (by decide)) rfl ?_
  refine PW.aload_n 3 0 dL_law_673 rfl rfl rfl ?_
  refine PW.iload_n 0 3 dL_law_674 rfl rfl ?_
  refine PW.iconst (v := 4) dL_law_675 (by decide) ?_
  refine PW.iadd dL_law_676 ?_
  refine PW.sload (v := gx g (x3 + 4).toNatClampNeg) dL_law_677 (hin 4 (by decide)) rfl ?_
  refine PW.callV (r := some (.long r)) (S' := tS s2) (ci := 12) (st := [.long r]) [.int (gx g (x3 + 1).toNatClampNeg), .int (gx g (x3 + 2).toNatClampNeg), .int (gx g (x3 + 3).toNatClampNeg), .int (gx g (x3 + 4).toNatClampNeg)] dL_law_678 (pr_X12_odds h2) MV_X12_odds mL_L_66 (by decide) rfl LA_193 rfl rfl (Nat.le_of_ble_eq_true rfl) (by decide) (by decide) (Nat.le_of_ble_eq_true rfl) (Nat.le_of_ble_eq_true rfl) ?_
  show PW g l room_1 (M_L_law nm) (FL g) _ [(3, .int x3), (2, .ref 193), (1, .ref 0), (0, .float 0)] [.long r, .long r] (tS s2) 242 KS
  refine PW.lcmp dL_law_681 ?_
  refine PW.if_eq (tgt := 1454) dL_law_682 (by decide) (fun _ => ?_) (fun z => absurd (lg_cmp_self r) z)
  exact k s2 h3
set_option maxRecDepth 20000 in
set_option maxHeartbeats 4000000 in
theorem case_left {nm : String} {g : pG} {l : Launch} {Inv : Nat → cS → Prop} (H : Sp_left Inv) {j : Nat} (hj : j < 512) {s : cS} (hI : Inv j s) {x3 : Int32} (hin : ∀ (q : Int32), (0 ≤ q ∧ q ≤ 5) → vp_in (x3 + q) (gL g)) (k : ∀ s2, Inv (j + 1) s2 → PW g l room_1 (M_L_law nm) (FL g) 1454 [(3, .int x3), (2, .ref 193), (1, .ref 0), (0, .float 0)] [] (tS s2) 242 KS) : PW g l room_1 (M_L_law nm) (FL g) 687 [(3, .int x3), (2, .ref 193), (1, .ref 0), (0, .float 0)] [] (tS s) 242 KS := by
  obtain ⟨r, s1, s2, h1, h2, h3⟩ := H j s (gx g (x3 + 1).toNatClampNeg) (gx g (x3 + 2).toNatClampNeg) (gx g (x3 + 3).toNatClampNeg) (gx g (x3 + 4).toNatClampNeg) hj hI
  refine PW.aload_n 2 1 dL_law_687 rfl rfl rfl ?_
  refine PW.aload_n 3 0 dL_law_688 rfl rfl rfl ?_
  refine PW.iload_n 0 3 dL_law_689 rfl rfl ?_
  refine PW.iconst (v := 1) dL_law_690 (by decide) ?_
  refine PW.iadd dL_law_691 ?_
  refine PW.sload (v := gx g (x3 + 1).toNatClampNeg) dL_law_692 (hin 1 (by decide)) rfl ?_
  refine PW.aload_n 3 0 dL_law_693 rfl rfl rfl ?_
  refine PW.iload_n 0 3 dL_law_694 rfl rfl ?_
  refine PW.iconst (v := 2) dL_law_695 (by decide) ?_
  refine PW.iadd dL_law_696 ?_
  refine PW.sload (v := gx g (x3 + 2).toNatClampNeg) dL_law_697 (hin 2 (by decide)) rfl ?_
  refine PW.aload_n 3 0 dL_law_698 rfl rfl rfl ?_
  refine PW.iload_n 0 3 dL_law_699 rfl rfl ?_
  refine PW.iconst (v := 3) dL_law_700 (by decide) ?_
  refine PW.iadd dL_law_701 ?_
  refine PW.sload (v := gx g (x3 + 3).toNatClampNeg) dL_law_702 (hin 3 (by decide)) rfl ?_
  refine PW.aload_n 3 0 dL_law_703 rfl rfl rfl ?_
  refine PW.iload_n 0 3 dL_law_704 rfl rfl ?_
  refine PW.iconst (v := 4) dL_law_705 (by decide) ?_
  refine PW.iadd dL_law_706 ?_
  refine PW.sload (v := gx g (x3 + 4).toNatClampNeg) dL_law_707 (hin 4 (by decide)) rfl ?_
  refine PW.callV (r := some (.long r)) (S' := tS s1) (ci := 11) (st := []) [.int (gx g (x3 + 1).toNatClampNeg), .int (gx g (x3 + 2).toNatClampNeg), .int (gx g (x3 + 3).toNatClampNeg), .int (gx g (x3 + 4).toNatClampNeg)] dL_law_708 (pr_X11_left h1) MV_X11_left mL_L_67 (by decide) rfl LA_0 rfl rfl (Nat.le_of_ble_eq_true rfl) (by decide) (by decide) (Nat.le_of_ble_eq_true rfl) (Nat.le_of_ble_eq_true rfl) ?_
  show PW g l room_1 (M_L_law nm) (FL g) _ [(3, .int x3), (2, .ref 193), (1, .ref 0), (0, .float 0)] [.long r] (tS s1) 242 KS
  refine PW.aload_n 1 2 dL_law_711 rfl rfl rfl ?_
  refine PW.aload_n 3 0 dL_law_712 rfl rfl rfl ?_
  refine PW.iload_n 0 3 dL_law_713 rfl rfl ?_
  refine PW.iconst (v := 1) dL_law_714 (by decide) ?_
  refine PW.iadd dL_law_715 ?_
  refine PW.sload (v := gx g (x3 + 1).toNatClampNeg) dL_law_716 (hin 1 (by decide)) rfl ?_
  refine PW.aload_n 3 0 dL_law_717 rfl rfl rfl ?_
  refine PW.iload_n 0 3 dL_law_718 rfl rfl ?_
  refine PW.iconst (v := 2) dL_law_719 (by decide) ?_
  refine PW.iadd dL_law_720 ?_
  refine PW.sload (v := gx g (x3 + 2).toNatClampNeg) dL_law_721 (hin 2 (by decide)) rfl ?_
  refine PW.aload_n 3 0 dL_law_722 rfl rfl rfl ?_
  refine PW.iload_n 0 3 dL_law_723 rfl rfl ?_
  refine PW.iconst (v := 3) dL_law_724 (by decide) ?_
  refine PW.iadd dL_law_725 ?_
  refine PW.sload (v := gx g (x3 + 3).toNatClampNeg) dL_law_726 (hin 3 (by decide)) rfl ?_
  refine PW.aload_n 3 0 dL_law_727 rfl rfl rfl ?_
  refine PW.iload_n 0 3 dL_law_728 rfl rfl ?_
  refine PW.iconst (v := 4) dL_law_729 (by decide) ?_
  refine PW.iadd dL_law_730 ?_
  refine PW.sload (v := gx g (x3 + 4).toNatClampNeg) dL_law_731 (hin 4 (by decide)) rfl ?_
  refine PW.callV (r := some (.long r)) (S' := tS s2) (ci := 12) (st := [.long r]) [.int (gx g (x3 + 1).toNatClampNeg), .int (gx g (x3 + 2).toNatClampNeg), .int (gx g (x3 + 3).toNatClampNeg), .int (gx g (x3 + 4).toNatClampNeg)] dL_law_732 (pr_X12_left h2) MV_X12_left mL_L_70 (by decide) rfl LA_193 rfl rfl (Nat.le_of_ble_eq_true rfl) (by decide) (by decide) (Nat.le_of_ble_eq_true rfl) (Nat.le_of_ble_eq_true rfl) ?_
  show PW g l room_1 (M_L_law nm) (FL g) _ [(3, .int x3), (2, .ref 193), (1, .ref 0), (0, .float 0)] [.long r, .long r] (tS s2) 242 KS
  refine PW.lcmp dL_law_735 ?_
  refine PW.if_eq (tgt := 1454) dL_law_736 (by decide) (fun _ => ?_) (fun z => absurd (lg_cmp_self r) z)
  exact k s2 h3
set_option maxRecDepth 20000 in
set_option maxHeartbeats 4000000 in
theorem case_likely {nm : String} {g : pG} {l : Launch} {Inv : Nat → cS → Prop} (H : Sp_likely Inv) {j : Nat} (hj : j < 512) {s : cS} (hI : Inv j s) {x3 : Int32} (hin : ∀ (q : Int32), (0 ≤ q ∧ q ≤ 5) → vp_in (x3 + q) (gL g)) (k : ∀ s2, Inv (j + 1) s2 → PW g l room_1 (M_L_law nm) (FL g) 1454 [(3, .int x3), (2, .ref 193), (1, .ref 0), (0, .float 0)] [] (tS s2) 242 KS) : PW g l room_1 (M_L_law nm) (FL g) 741 [(3, .int x3), (2, .ref 193), (1, .ref 0), (0, .float 0)] [] (tS s) 242 KS := by
  obtain ⟨r, s1, s2, h1, h2, h3⟩ := H j s (gx g (x3 + 1).toNatClampNeg) (gx g (x3 + 2).toNatClampNeg) (gx g (x3 + 3).toNatClampNeg) (gx g (x3 + 4).toNatClampNeg) hj hI
  refine PW.aload_n 2 1 dL_law_741 rfl rfl rfl ?_
  refine PW.aload_n 3 0 dL_law_742 rfl rfl rfl ?_
  refine PW.iload_n 0 3 dL_law_743 rfl rfl ?_
  refine PW.iconst (v := 1) dL_law_744 (by decide) ?_
  refine PW.iadd dL_law_745 ?_
  refine PW.sload (v := gx g (x3 + 1).toNatClampNeg) dL_law_746 (hin 1 (by decide)) rfl ?_
  refine PW.aload_n 3 0 dL_law_747 rfl rfl rfl ?_
  refine PW.iload_n 0 3 dL_law_748 rfl rfl ?_
  refine PW.iconst (v := 2) dL_law_749 (by decide) ?_
  refine PW.iadd dL_law_750 ?_
  refine PW.sload (v := gx g (x3 + 2).toNatClampNeg) dL_law_751 (hin 2 (by decide)) rfl ?_
  refine PW.aload_n 3 0 dL_law_752 rfl rfl rfl ?_
  refine PW.iload_n 0 3 dL_law_753 rfl rfl ?_
  refine PW.iconst (v := 3) dL_law_754 (by decide) ?_
  refine PW.iadd dL_law_755 ?_
  refine PW.sload (v := gx g (x3 + 3).toNatClampNeg) dL_law_756 (hin 3 (by decide)) rfl ?_
  refine PW.aload_n 3 0 dL_law_757 rfl rfl rfl ?_
  refine PW.iload_n 0 3 dL_law_758 rfl rfl ?_
  refine PW.iconst (v := 4) dL_law_759 (by decide) ?_
  refine PW.iadd dL_law_760 ?_
  refine PW.sload (v := gx g (x3 + 4).toNatClampNeg) dL_law_761 (hin 4 (by decide)) rfl ?_
  refine PW.callV (r := some (.int r)) (S' := tS s1) (ci := 11) (st := []) [.int (gx g (x3 + 1).toNatClampNeg), .int (gx g (x3 + 2).toNatClampNeg), .int (gx g (x3 + 3).toNatClampNeg), .int (gx g (x3 + 4).toNatClampNeg)] dL_law_762 (pr_X11_likely h1) MV_X11_likely mL_L_71 (by decide) rfl LA_0 rfl rfl (Nat.le_of_ble_eq_true rfl) (by decide) (by decide) (Nat.le_of_ble_eq_true rfl) (Nat.le_of_ble_eq_true rfl) ?_
  show PW g l room_1 (M_L_law nm) (FL g) _ [(3, .int x3), (2, .ref 193), (1, .ref 0), (0, .float 0)] [.int r] (tS s1) 242 KS
  refine PW.aload_n 1 2 dL_law_765 rfl rfl rfl ?_
  refine PW.aload_n 3 0 dL_law_766 rfl rfl rfl ?_
  refine PW.iload_n 0 3 dL_law_767 rfl rfl ?_
  refine PW.iconst (v := 1) dL_law_768 (by decide) ?_
  refine PW.iadd dL_law_769 ?_
  refine PW.sload (v := gx g (x3 + 1).toNatClampNeg) dL_law_770 (hin 1 (by decide)) rfl ?_
  refine PW.aload_n 3 0 dL_law_771 rfl rfl rfl ?_
  refine PW.iload_n 0 3 dL_law_772 rfl rfl ?_
  refine PW.iconst (v := 2) dL_law_773 (by decide) ?_
  refine PW.iadd dL_law_774 ?_
  refine PW.sload (v := gx g (x3 + 2).toNatClampNeg) dL_law_775 (hin 2 (by decide)) rfl ?_
  refine PW.aload_n 3 0 dL_law_776 rfl rfl rfl ?_
  refine PW.iload_n 0 3 dL_law_777 rfl rfl ?_
  refine PW.iconst (v := 3) dL_law_778 (by decide) ?_
  refine PW.iadd dL_law_779 ?_
  refine PW.sload (v := gx g (x3 + 3).toNatClampNeg) dL_law_780 (hin 3 (by decide)) rfl ?_
  refine PW.aload_n 3 0 dL_law_781 rfl rfl rfl ?_
  refine PW.iload_n 0 3 dL_law_782 rfl rfl ?_
  refine PW.iconst (v := 4) dL_law_783 (by decide) ?_
  refine PW.iadd dL_law_784 ?_
  refine PW.sload (v := gx g (x3 + 4).toNatClampNeg) dL_law_785 (hin 4 (by decide)) rfl ?_
  refine PW.callV (r := some (.int r)) (S' := tS s2) (ci := 12) (st := [.int r]) [.int (gx g (x3 + 1).toNatClampNeg), .int (gx g (x3 + 2).toNatClampNeg), .int (gx g (x3 + 3).toNatClampNeg), .int (gx g (x3 + 4).toNatClampNeg)] dL_law_786 (pr_X12_likely h2) MV_X12_likely mL_L_74 (by decide) rfl LA_193 rfl rfl (Nat.le_of_ble_eq_true rfl) (by decide) (by decide) (Nat.le_of_ble_eq_true rfl) (Nat.le_of_ble_eq_true rfl) ?_
  show PW g l room_1 (M_L_law nm) (FL g) _ [(3, .int x3), (2, .ref 193), (1, .ref 0), (0, .float 0)] [.int r, .int r] (tS s2) 242 KS
  refine PW.icmp_eq (tgt := 1454) dL_law_789 (by decide) (fun _ => ?_) (fun z => absurd rfl z)
  exact k s2 h3
set_option maxRecDepth 20000 in
set_option maxHeartbeats 4000000 in
theorem case_off {nm : String} {g : pG} {l : Launch} {Inv : Nat → cS → Prop} (H : Sp_off Inv) {j : Nat} (hj : j < 512) {s : cS} (hI : Inv j s) {x3 : Int32} (hin : ∀ (q : Int32), (0 ≤ q ∧ q ≤ 5) → vp_in (x3 + q) (gL g)) (k : ∀ s2, Inv (j + 1) s2 → PW g l room_1 (M_L_law nm) (FL g) 1454 [(3, .int x3), (2, .ref 193), (1, .ref 0), (0, .float 0)] [] (tS s2) 242 KS) : PW g l room_1 (M_L_law nm) (FL g) 794 [(3, .int x3), (2, .ref 193), (1, .ref 0), (0, .float 0)] [] (tS s) 242 KS := by
  obtain ⟨r, s1, s2, h1, h2, h3⟩ := H j s (gx g (x3 + 1).toNatClampNeg) (gx g (x3 + 2).toNatClampNeg) (gx g (x3 + 3).toNatClampNeg) hj hI
  refine PW.aload_n 2 1 dL_law_794 rfl rfl rfl ?_
  refine PW.aload_n 3 0 dL_law_795 rfl rfl rfl ?_
  refine PW.iload_n 0 3 dL_law_796 rfl rfl ?_
  refine PW.iconst (v := 1) dL_law_797 (by decide) ?_
  refine PW.iadd dL_law_798 ?_
  refine PW.sload (v := gx g (x3 + 1).toNatClampNeg) dL_law_799 (hin 1 (by decide)) rfl ?_
  refine PW.aload_n 3 0 dL_law_800 rfl rfl rfl ?_
  refine PW.iload_n 0 3 dL_law_801 rfl rfl ?_
  refine PW.iconst (v := 2) dL_law_802 (by decide) ?_
  refine PW.iadd dL_law_803 ?_
  refine PW.sload (v := gx g (x3 + 2).toNatClampNeg) dL_law_804 (hin 2 (by decide)) rfl ?_
  refine PW.aload_n 3 0 dL_law_805 rfl rfl rfl ?_
  refine PW.iload_n 0 3 dL_law_806 rfl rfl ?_
  refine PW.iconst (v := 3) dL_law_807 (by decide) ?_
  refine PW.iadd dL_law_808 ?_
  refine PW.sload (v := gx g (x3 + 3).toNatClampNeg) dL_law_809 (hin 3 (by decide)) rfl ?_
  refine PW.callV (r := some (.int r)) (S' := tS s1) (ci := 11) (st := []) [.int (gx g (x3 + 1).toNatClampNeg), .int (gx g (x3 + 2).toNatClampNeg), .int (gx g (x3 + 3).toNatClampNeg)] dL_law_810 (pr_X11_off h1) MV_X11_off mL_L_75 (by decide) rfl LA_0 rfl rfl (Nat.le_of_ble_eq_true rfl) (by decide) (by decide) (Nat.le_of_ble_eq_true rfl) (Nat.le_of_ble_eq_true rfl) ?_
  show PW g l room_1 (M_L_law nm) (FL g) _ [(3, .int x3), (2, .ref 193), (1, .ref 0), (0, .float 0)] [.int r] (tS s1) 242 KS
  refine PW.aload_n 1 2 dL_law_813 rfl rfl rfl ?_
  refine PW.aload_n 3 0 dL_law_814 rfl rfl rfl ?_
  refine PW.iload_n 0 3 dL_law_815 rfl rfl ?_
  refine PW.iconst (v := 1) dL_law_816 (by decide) ?_
  refine PW.iadd dL_law_817 ?_
  refine PW.sload (v := gx g (x3 + 1).toNatClampNeg) dL_law_818 (hin 1 (by decide)) rfl ?_
  refine PW.aload_n 3 0 dL_law_819 rfl rfl rfl ?_
  refine PW.iload_n 0 3 dL_law_820 rfl rfl ?_
  refine PW.iconst (v := 2) dL_law_821 (by decide) ?_
  refine PW.iadd dL_law_822 ?_
  refine PW.sload (v := gx g (x3 + 2).toNatClampNeg) dL_law_823 (hin 2 (by decide)) rfl ?_
  refine PW.aload_n 3 0 dL_law_824 rfl rfl rfl ?_
  refine PW.iload_n 0 3 dL_law_825 rfl rfl ?_
  refine PW.iconst (v := 3) dL_law_826 (by decide) ?_
  refine PW.iadd dL_law_827 ?_
  refine PW.sload (v := gx g (x3 + 3).toNatClampNeg) dL_law_828 (hin 3 (by decide)) rfl ?_
  refine PW.callV (r := some (.int r)) (S' := tS s2) (ci := 12) (st := [.int r]) [.int (gx g (x3 + 1).toNatClampNeg), .int (gx g (x3 + 2).toNatClampNeg), .int (gx g (x3 + 3).toNatClampNeg)] dL_law_829 (pr_X12_off h2) MV_X12_off mL_L_78 (by decide) rfl LA_193 rfl rfl (Nat.le_of_ble_eq_true rfl) (by decide) (by decide) (Nat.le_of_ble_eq_true rfl) (Nat.le_of_ble_eq_true rfl) ?_
  show PW g l room_1 (M_L_law nm) (FL g) _ [(3, .int x3), (2, .ref 193), (1, .ref 0), (0, .float 0)] [.int r, .int r] (tS s2) 242 KS
  refine PW.icmp_eq (tgt := 1454) dL_law_832 (by decide) (fun _ => ?_) (fun z => absurd rfl z)
  exact k s2 h3
set_option maxRecDepth 20000 in
set_option maxHeartbeats 4000000 in
theorem case_trial {nm : String} {g : pG} {l : Launch} {Inv : Nat → cS → Prop} (H : Sp_trial Inv) {j : Nat} (hj : j < 512) {s : cS} (hI : Inv j s) {x3 : Int32} (hin : ∀ (q : Int32), (0 ≤ q ∧ q ≤ 5) → vp_in (x3 + q) (gL g)) (k : ∀ s2, Inv (j + 1) s2 → PW g l room_1 (M_L_law nm) (FL g) 1454 [(3, .int x3), (2, .ref 193), (1, .ref 0), (0, .float 0)] [] (tS s2) 242 KS) : PW g l room_1 (M_L_law nm) (FL g) 837 [(3, .int x3), (2, .ref 193), (1, .ref 0), (0, .float 0)] [] (tS s) 242 KS := by
  obtain ⟨r, s1, s2, h1, h2, h3⟩ := H j s (gx g (x3 + 1).toNatClampNeg) (gx g (x3 + 2).toNatClampNeg) (gx g (x3 + 3).toNatClampNeg) (gx g (x3 + 4).toNatClampNeg) (gx g (x3 + 5).toNatClampNeg) hj hI
  refine PW.aload_n 2 1 dL_law_837 rfl rfl rfl ?_
  refine PW.aload_n 3 0 dL_law_838 rfl rfl rfl ?_
  refine PW.iload_n 0 3 dL_law_839 rfl rfl ?_
  refine PW.iconst (v := 1) dL_law_840 (by decide) ?_
  refine PW.iadd dL_law_841 ?_
  refine PW.sload (v := gx g (x3 + 1).toNatClampNeg) dL_law_842 (hin 1 (by decide)) rfl ?_
  refine PW.aload_n 3 0 dL_law_843 rfl rfl rfl ?_
  refine PW.iload_n 0 3 dL_law_844 rfl rfl ?_
  refine PW.iconst (v := 2) dL_law_845 (by decide) ?_
  refine PW.iadd dL_law_846 ?_
  refine PW.sload (v := gx g (x3 + 2).toNatClampNeg) dL_law_847 (hin 2 (by decide)) rfl ?_
  refine PW.aload_n 3 0 dL_law_848 rfl rfl rfl ?_
  refine PW.iload_n 0 3 dL_law_849 rfl rfl ?_
  refine PW.iconst (v := 3) dL_law_850 (by decide) ?_
  refine PW.iadd dL_law_851 ?_
  refine PW.sload (v := gx g (x3 + 3).toNatClampNeg) dL_law_852 (hin 3 (by decide)) rfl ?_
  refine PW.aload_n 3 0 dL_law_853 rfl rfl rfl ?_
  refine PW.iload_n 0 3 dL_law_854 rfl rfl ?_
  refine PW.iconst (v := 4) dL_law_855 (by decide) ?_
  refine PW.iadd dL_law_856 ?_
  refine PW.sload (v := gx g (x3 + 4).toNatClampNeg) dL_law_857 (hin 4 (by decide)) rfl ?_
  refine PW.aload_n 3 0 dL_law_858 rfl rfl rfl ?_
  refine PW.iload_n 0 3 dL_law_859 rfl rfl ?_
  refine PW.iconst (v := 5) dL_law_860 (by decide) ?_
  refine PW.iadd dL_law_861 ?_
  refine PW.sload (v := gx g (x3 + 5).toNatClampNeg) dL_law_862 (hin 5 (by decide)) rfl ?_
  refine PW.callV (r := some (.int r)) (S' := tS s1) (ci := 11) (st := []) [.int (gx g (x3 + 1).toNatClampNeg), .int (gx g (x3 + 2).toNatClampNeg), .int (gx g (x3 + 3).toNatClampNeg), .int (gx g (x3 + 4).toNatClampNeg), .int (gx g (x3 + 5).toNatClampNeg)] dL_law_863 (pr_X11_trial h1) MV_X11_trial mL_L_79 (by decide) rfl LA_0 rfl rfl (Nat.le_of_ble_eq_true rfl) (by decide) (by decide) (Nat.le_of_ble_eq_true rfl) (Nat.le_of_ble_eq_true rfl) ?_
  show PW g l room_1 (M_L_law nm) (FL g) _ [(3, .int x3), (2, .ref 193), (1, .ref 0), (0, .float 0)] [.int r] (tS s1) 242 KS
  refine PW.aload_n 1 2 dL_law_866 rfl rfl rfl ?_
  refine PW.aload_n 3 0 dL_law_867 rfl rfl rfl ?_
  refine PW.iload_n 0 3 dL_law_868 rfl rfl ?_
  refine PW.iconst (v := 1) dL_law_869 (by decide) ?_
  refine PW.iadd dL_law_870 ?_
  refine PW.sload (v := gx g (x3 + 1).toNatClampNeg) dL_law_871 (hin 1 (by decide)) rfl ?_
  refine PW.aload_n 3 0 dL_law_872 rfl rfl rfl ?_
  refine PW.iload_n 0 3 dL_law_873 rfl rfl ?_
  refine PW.iconst (v := 2) dL_law_874 (by decide) ?_
  refine PW.iadd dL_law_875 ?_
  refine PW.sload (v := gx g (x3 + 2).toNatClampNeg) dL_law_876 (hin 2 (by decide)) rfl ?_
  refine PW.aload_n 3 0 dL_law_877 rfl rfl rfl ?_
  refine PW.iload_n 0 3 dL_law_878 rfl rfl ?_
  refine PW.iconst (v := 3) dL_law_879 (by decide) ?_
  refine PW.iadd dL_law_880 ?_
  refine PW.sload (v := gx g (x3 + 3).toNatClampNeg) dL_law_881 (hin 3 (by decide)) rfl ?_
  refine PW.aload_n 3 0 dL_law_882 rfl rfl rfl ?_
  refine PW.iload_n 0 3 dL_law_883 rfl rfl ?_
  refine PW.iconst (v := 4) dL_law_884 (by decide) ?_
  refine PW.iadd dL_law_885 ?_
  refine PW.sload (v := gx g (x3 + 4).toNatClampNeg) dL_law_886 (hin 4 (by decide)) rfl ?_
  refine PW.aload_n 3 0 dL_law_887 rfl rfl rfl ?_
  refine PW.iload_n 0 3 dL_law_888 rfl rfl ?_
  refine PW.iconst (v := 5) dL_law_889 (by decide) ?_
  refine PW.iadd dL_law_890 ?_
  refine PW.sload (v := gx g (x3 + 5).toNatClampNeg) dL_law_891 (hin 5 (by decide)) rfl ?_
  refine PW.callV (r := some (.int r)) (S' := tS s2) (ci := 12) (st := [.int r]) [.int (gx g (x3 + 1).toNatClampNeg), .int (gx g (x3 + 2).toNatClampNeg), .int (gx g (x3 + 3).toNatClampNeg), .int (gx g (x3 + 4).toNatClampNeg), .int (gx g (x3 + 5).toNatClampNeg)] dL_law_892 (pr_X12_trial h2) MV_X12_trial mL_L_82 (by decide) rfl LA_193 rfl rfl (Nat.le_of_ble_eq_true rfl) (by decide) (by decide) (Nat.le_of_ble_eq_true rfl) (Nat.le_of_ble_eq_true rfl) ?_
  show PW g l room_1 (M_L_law nm) (FL g) _ [(3, .int x3), (2, .ref 193), (1, .ref 0), (0, .float 0)] [.int r, .int r] (tS s2) 242 KS
  refine PW.icmp_eq (tgt := 1454) dL_law_895 (by decide) (fun _ => ?_) (fun z => absurd rfl z)
  exact k s2 h3
set_option maxRecDepth 20000 in
set_option maxHeartbeats 4000000 in
theorem case_says {nm : String} {g : pG} {l : Launch} {Inv : Nat → cS → Prop} (H : Sp_says Inv) {j : Nat} (hj : j < 512) {s : cS} (hI : Inv j s) {x3 : Int32} (hin : ∀ (q : Int32), (0 ≤ q ∧ q ≤ 5) → vp_in (x3 + q) (gL g)) (k : ∀ s2, Inv (j + 1) s2 → PW g l room_1 (M_L_law nm) (FL g) 1454 [(3, .int x3), (2, .ref 193), (1, .ref 0), (0, .float 0)] [] (tS s2) 242 KS) : PW g l room_1 (M_L_law nm) (FL g) 900 [(3, .int x3), (2, .ref 193), (1, .ref 0), (0, .float 0)] [] (tS s) 242 KS := by
  obtain ⟨r, s1, s2, h1, h2, h3⟩ := H j s (gx g (x3 + 1).toNatClampNeg) (gx g (x3 + 2).toNatClampNeg) hj hI
  refine PW.aload_n 2 1 dL_law_900 rfl rfl rfl ?_
  refine PW.aload_n 3 0 dL_law_901 rfl rfl rfl ?_
  refine PW.iload_n 0 3 dL_law_902 rfl rfl ?_
  refine PW.iconst (v := 1) dL_law_903 (by decide) ?_
  refine PW.iadd dL_law_904 ?_
  refine PW.sload (v := gx g (x3 + 1).toNatClampNeg) dL_law_905 (hin 1 (by decide)) rfl ?_
  refine PW.aload_n 3 0 dL_law_906 rfl rfl rfl ?_
  refine PW.iload_n 0 3 dL_law_907 rfl rfl ?_
  refine PW.iconst (v := 2) dL_law_908 (by decide) ?_
  refine PW.iadd dL_law_909 ?_
  refine PW.sload (v := gx g (x3 + 2).toNatClampNeg) dL_law_910 (hin 2 (by decide)) rfl ?_
  refine PW.callV (r := some (.long r)) (S' := tS s1) (ci := 11) (st := []) [.int (gx g (x3 + 1).toNatClampNeg), .int (gx g (x3 + 2).toNatClampNeg)] dL_law_911 (pr_X11_says h1) MV_X11_says mL_L_83 (by decide) rfl LA_0 rfl rfl (Nat.le_of_ble_eq_true rfl) (by decide) (by decide) (Nat.le_of_ble_eq_true rfl) (Nat.le_of_ble_eq_true rfl) ?_
  show PW g l room_1 (M_L_law nm) (FL g) _ [(3, .int x3), (2, .ref 193), (1, .ref 0), (0, .float 0)] [.long r] (tS s1) 242 KS
  refine PW.aload_n 1 2 dL_law_914 rfl rfl rfl ?_
  refine PW.aload_n 3 0 dL_law_915 rfl rfl rfl ?_
  refine PW.iload_n 0 3 dL_law_916 rfl rfl ?_
  refine PW.iconst (v := 1) dL_law_917 (by decide) ?_
  refine PW.iadd dL_law_918 ?_
  refine PW.sload (v := gx g (x3 + 1).toNatClampNeg) dL_law_919 (hin 1 (by decide)) rfl ?_
  refine PW.aload_n 3 0 dL_law_920 rfl rfl rfl ?_
  refine PW.iload_n 0 3 dL_law_921 rfl rfl ?_
  refine PW.iconst (v := 2) dL_law_922 (by decide) ?_
  refine PW.iadd dL_law_923 ?_
  refine PW.sload (v := gx g (x3 + 2).toNatClampNeg) dL_law_924 (hin 2 (by decide)) rfl ?_
  refine PW.callV (r := some (.long r)) (S' := tS s2) (ci := 12) (st := [.long r]) [.int (gx g (x3 + 1).toNatClampNeg), .int (gx g (x3 + 2).toNatClampNeg)] dL_law_925 (pr_X12_says h2) MV_X12_says mL_L_87 (by decide) rfl LA_193 rfl rfl (Nat.le_of_ble_eq_true rfl) (by decide) (by decide) (Nat.le_of_ble_eq_true rfl) (Nat.le_of_ble_eq_true rfl) ?_
  show PW g l room_1 (M_L_law nm) (FL g) _ [(3, .int x3), (2, .ref 193), (1, .ref 0), (0, .float 0)] [.long r, .long r] (tS s2) 242 KS
  refine PW.lcmp dL_law_928 ?_
  refine PW.if_eq (tgt := 1454) dL_law_929 (by decide) (fun _ => ?_) (fun z => absurd (lg_cmp_self r) z)
  exact k s2 h3
set_option maxRecDepth 20000 in
set_option maxHeartbeats 4000000 in
theorem case_cheapest {nm : String} {g : pG} {l : Launch} {Inv : Nat → cS → Prop} (H : Sp_cheapest Inv) {j : Nat} (hj : j < 512) {s : cS} (hI : Inv j s) {x3 : Int32} (hin : ∀ (q : Int32), (0 ≤ q ∧ q ≤ 5) → vp_in (x3 + q) (gL g)) (k : ∀ s2, Inv (j + 1) s2 → PW g l room_1 (M_L_law nm) (FL g) 1454 [(3, .int x3), (2, .ref 193), (1, .ref 0), (0, .float 0)] [] (tS s2) 242 KS) : PW g l room_1 (M_L_law nm) (FL g) 934 [(3, .int x3), (2, .ref 193), (1, .ref 0), (0, .float 0)] [] (tS s) 242 KS := by
  obtain ⟨r, s1, s2, h1, h2, h3⟩ := H j s (gx g (x3 + 1).toNatClampNeg) hj hI
  refine PW.aload_n 2 1 dL_law_934 rfl rfl rfl ?_
  refine PW.aload_n 3 0 dL_law_935 rfl rfl rfl ?_
  refine PW.iload_n 0 3 dL_law_936 rfl rfl ?_
  refine PW.iconst (v := 1) dL_law_937 (by decide) ?_
  refine PW.iadd dL_law_938 ?_
  refine PW.sload (v := gx g (x3 + 1).toNatClampNeg) dL_law_939 (hin 1 (by decide)) rfl ?_
  refine PW.callV (r := some (.int r)) (S' := tS s1) (ci := 11) (st := []) [.int (gx g (x3 + 1).toNatClampNeg)] dL_law_940 (pr_X11_cheapest h1) MV_X11_cheapest mL_L_88 (by decide) rfl LA_0 rfl rfl (Nat.le_of_ble_eq_true rfl) (by decide) (by decide) (Nat.le_of_ble_eq_true rfl) (Nat.le_of_ble_eq_true rfl) ?_
  show PW g l room_1 (M_L_law nm) (FL g) _ [(3, .int x3), (2, .ref 193), (1, .ref 0), (0, .float 0)] [.int r] (tS s1) 242 KS
  refine PW.aload_n 1 2 dL_law_943 rfl rfl rfl ?_
  refine PW.aload_n 3 0 dL_law_944 rfl rfl rfl ?_
  refine PW.iload_n 0 3 dL_law_945 rfl rfl ?_
  refine PW.iconst (v := 1) dL_law_946 (by decide) ?_
  refine PW.iadd dL_law_947 ?_
  refine PW.sload (v := gx g (x3 + 1).toNatClampNeg) dL_law_948 (hin 1 (by decide)) rfl ?_
  refine PW.callV (r := some (.int r)) (S' := tS s2) (ci := 12) (st := [.int r]) [.int (gx g (x3 + 1).toNatClampNeg)] dL_law_949 (pr_X12_cheapest h2) MV_X12_cheapest mL_L_91 (by decide) rfl LA_193 rfl rfl (Nat.le_of_ble_eq_true rfl) (by decide) (by decide) (Nat.le_of_ble_eq_true rfl) (Nat.le_of_ble_eq_true rfl) ?_
  show PW g l room_1 (M_L_law nm) (FL g) _ [(3, .int x3), (2, .ref 193), (1, .ref 0), (0, .float 0)] [.int r, .int r] (tS s2) 242 KS
  refine PW.icmp_eq (tgt := 1454) dL_law_952 (by decide) (fun _ => ?_) (fun z => absurd rfl z)
  exact k s2 h3
set_option maxRecDepth 20000 in
set_option maxHeartbeats 4000000 in
theorem case_story {nm : String} {g : pG} {l : Launch} {Inv : Nat → cS → Prop} (H : Sp_story Inv) {j : Nat} (hj : j < 512) {s : cS} (hI : Inv j s) {x3 : Int32} (hin : ∀ (q : Int32), (0 ≤ q ∧ q ≤ 5) → vp_in (x3 + q) (gL g)) (k : ∀ s2, Inv (j + 1) s2 → PW g l room_1 (M_L_law nm) (FL g) 1454 [(3, .int x3), (2, .ref 193), (1, .ref 0), (0, .float 0)] [] (tS s2) 242 KS) : PW g l room_1 (M_L_law nm) (FL g) 957 [(3, .int x3), (2, .ref 193), (1, .ref 0), (0, .float 0)] [] (tS s) 242 KS := by
  obtain ⟨r, s1, s2, h1, h2, h3⟩ := H j s (gx g (x3 + 1).toNatClampNeg) hj hI
  refine PW.aload_n 2 1 dL_law_957 rfl rfl rfl ?_
  refine PW.aload_n 3 0 dL_law_958 rfl rfl rfl ?_
  refine PW.iload_n 0 3 dL_law_959 rfl rfl ?_
  refine PW.iconst (v := 1) dL_law_960 (by decide) ?_
  refine PW.iadd dL_law_961 ?_
  refine PW.sload (v := gx g (x3 + 1).toNatClampNeg) dL_law_962 (hin 1 (by decide)) rfl ?_
  refine PW.callV (r := some (.int r)) (S' := tS s1) (ci := 11) (st := []) [.int (gx g (x3 + 1).toNatClampNeg)] dL_law_963 (pr_X11_story h1) MV_X11_story mL_L_92 (by decide) rfl LA_0 rfl rfl (Nat.le_of_ble_eq_true rfl) (by decide) (by decide) (Nat.le_of_ble_eq_true rfl) (Nat.le_of_ble_eq_true rfl) ?_
  show PW g l room_1 (M_L_law nm) (FL g) _ [(3, .int x3), (2, .ref 193), (1, .ref 0), (0, .float 0)] [.int r] (tS s1) 242 KS
  refine PW.aload_n 1 2 dL_law_966 rfl rfl rfl ?_
  refine PW.aload_n 3 0 dL_law_967 rfl rfl rfl ?_
  refine PW.iload_n 0 3 dL_law_968 rfl rfl ?_
  refine PW.iconst (v := 1) dL_law_969 (by decide) ?_
  refine PW.iadd dL_law_970 ?_
  refine PW.sload (v := gx g (x3 + 1).toNatClampNeg) dL_law_971 (hin 1 (by decide)) rfl ?_
  refine PW.callV (r := some (.int r)) (S' := tS s2) (ci := 12) (st := [.int r]) [.int (gx g (x3 + 1).toNatClampNeg)] dL_law_972 (pr_X12_story h2) MV_X12_story mL_L_95 (by decide) rfl LA_193 rfl rfl (Nat.le_of_ble_eq_true rfl) (by decide) (by decide) (Nat.le_of_ble_eq_true rfl) (Nat.le_of_ble_eq_true rfl) ?_
  show PW g l room_1 (M_L_law nm) (FL g) _ [(3, .int x3), (2, .ref 193), (1, .ref 0), (0, .float 0)] [.int r, .int r] (tS s2) 242 KS
  refine PW.icmp_eq (tgt := 1454) dL_law_975 (by decide) (fun _ => ?_) (fun z => absurd rfl z)
  exact k s2 h3
set_option maxRecDepth 20000 in
set_option maxHeartbeats 4000000 in
theorem case_find {nm : String} {g : pG} {l : Launch} {Inv : Nat → cS → Prop} (H : Sp_find Inv) {j : Nat} (hj : j < 512) {s : cS} (hI : Inv j s) {x3 : Int32} (hin : ∀ (q : Int32), (0 ≤ q ∧ q ≤ 5) → vp_in (x3 + q) (gL g)) (k : ∀ s2, Inv (j + 1) s2 → PW g l room_1 (M_L_law nm) (FL g) 1454 [(3, .int x3), (2, .ref 193), (1, .ref 0), (0, .float 0)] [] (tS s2) 242 KS) : PW g l room_1 (M_L_law nm) (FL g) 980 [(3, .int x3), (2, .ref 193), (1, .ref 0), (0, .float 0)] [] (tS s) 242 KS := by
  obtain ⟨r, s1, s2, h1, h2, h3⟩ := H j s  hj hI
  refine PW.aload_n 2 1 dL_law_980 rfl rfl rfl ?_
  refine PW.callV (r := some (.int r)) (S' := tS s1) (ci := 11) (st := []) [] dL_law_981 (pr_X11_find h1) MV_X11_find mL_L_96 (by decide) rfl LA_0 rfl rfl (Nat.le_of_ble_eq_true rfl) (by decide) (by decide) (Nat.le_of_ble_eq_true rfl) (Nat.le_of_ble_eq_true rfl) ?_
  show PW g l room_1 (M_L_law nm) (FL g) _ [(3, .int x3), (2, .ref 193), (1, .ref 0), (0, .float 0)] [.int r] (tS s1) 242 KS
  refine PW.aload_n 1 2 dL_law_984 rfl rfl rfl ?_
  refine PW.callV (r := some (.int r)) (S' := tS s2) (ci := 12) (st := [.int r]) [] dL_law_985 (pr_X12_find h2) MV_X12_find mL_L_100 (by decide) rfl LA_193 rfl rfl (Nat.le_of_ble_eq_true rfl) (by decide) (by decide) (Nat.le_of_ble_eq_true rfl) (Nat.le_of_ble_eq_true rfl) ?_
  show PW g l room_1 (M_L_law nm) (FL g) _ [(3, .int x3), (2, .ref 193), (1, .ref 0), (0, .float 0)] [.int r, .int r] (tS s2) 242 KS
  refine PW.icmp_eq (tgt := 1454) dL_law_988 (by decide) (fun _ => ?_) (fun z => absurd rfl z)
  exact k s2 h3
set_option maxRecDepth 20000 in
set_option maxHeartbeats 4000000 in
theorem case_tells {nm : String} {g : pG} {l : Launch} {Inv : Nat → cS → Prop} (H : Sp_tells Inv) {j : Nat} (hj : j < 512) {s : cS} (hI : Inv j s) {x3 : Int32} (hin : ∀ (q : Int32), (0 ≤ q ∧ q ≤ 5) → vp_in (x3 + q) (gL g)) (k : ∀ s2, Inv (j + 1) s2 → PW g l room_1 (M_L_law nm) (FL g) 1454 [(3, .int x3), (2, .ref 193), (1, .ref 0), (0, .float 0)] [] (tS s2) 242 KS) : PW g l room_1 (M_L_law nm) (FL g) 993 [(3, .int x3), (2, .ref 193), (1, .ref 0), (0, .float 0)] [] (tS s) 242 KS := by
  obtain ⟨r, s1, s2, h1, h2, h3⟩ := H j s (gx g (x3 + 1).toNatClampNeg) (gx g (x3 + 2).toNatClampNeg) (gx g (x3 + 3).toNatClampNeg) hj hI
  refine PW.aload_n 2 1 dL_law_993 rfl rfl rfl ?_
  refine PW.aload_n 3 0 dL_law_994 rfl rfl rfl ?_
  refine PW.iload_n 0 3 dL_law_995 rfl rfl ?_
  refine PW.iconst (v := 1) dL_law_996 (by decide) ?_
  refine PW.iadd dL_law_997 ?_
  refine PW.sload (v := gx g (x3 + 1).toNatClampNeg) dL_law_998 (hin 1 (by decide)) rfl ?_
  refine PW.aload_n 3 0 dL_law_999 rfl rfl rfl ?_
  refine PW.iload_n 0 3 dL_law_1000 rfl rfl ?_
  refine PW.iconst (v := 2) dL_law_1001 (by decide) ?_
  refine PW.iadd dL_law_1002 ?_
  refine PW.sload (v := gx g (x3 + 2).toNatClampNeg) dL_law_1003 (hin 2 (by decide)) rfl ?_
  refine PW.aload_n 3 0 dL_law_1004 rfl rfl rfl ?_
  refine PW.iload_n 0 3 dL_law_1005 rfl rfl ?_
  refine PW.iconst (v := 3) dL_law_1006 (by decide) ?_
  refine PW.iadd dL_law_1007 ?_
  refine PW.sload (v := gx g (x3 + 3).toNatClampNeg) dL_law_1008 (hin 3 (by decide)) rfl ?_
  refine PW.callV (r := some (.int r)) (S' := tS s1) (ci := 11) (st := []) [.int (gx g (x3 + 1).toNatClampNeg), .int (gx g (x3 + 2).toNatClampNeg), .int (gx g (x3 + 3).toNatClampNeg)] dL_law_1009 (pr_X11_tells h1) MV_X11_tells mL_L_101 (by decide) rfl LA_0 rfl rfl (Nat.le_of_ble_eq_true rfl) (by decide) (by decide) (Nat.le_of_ble_eq_true rfl) (Nat.le_of_ble_eq_true rfl) ?_
  show PW g l room_1 (M_L_law nm) (FL g) _ [(3, .int x3), (2, .ref 193), (1, .ref 0), (0, .float 0)] [.int r] (tS s1) 242 KS
  refine PW.aload_n 1 2 dL_law_1012 rfl rfl rfl ?_
  refine PW.aload_n 3 0 dL_law_1013 rfl rfl rfl ?_
  refine PW.iload_n 0 3 dL_law_1014 rfl rfl ?_
  refine PW.iconst (v := 1) dL_law_1015 (by decide) ?_
  refine PW.iadd dL_law_1016 ?_
  refine PW.sload (v := gx g (x3 + 1).toNatClampNeg) dL_law_1017 (hin 1 (by decide)) rfl ?_
  refine PW.aload_n 3 0 dL_law_1018 rfl rfl rfl ?_
  refine PW.iload_n 0 3 dL_law_1019 rfl rfl ?_
  refine PW.iconst (v := 2) dL_law_1020 (by decide) ?_
  refine PW.iadd dL_law_1021 ?_
  refine PW.sload (v := gx g (x3 + 2).toNatClampNeg) dL_law_1022 (hin 2 (by decide)) rfl ?_
  refine PW.aload_n 3 0 dL_law_1023 rfl rfl rfl ?_
  refine PW.iload_n 0 3 dL_law_1024 rfl rfl ?_
  refine PW.iconst (v := 3) dL_law_1025 (by decide) ?_
  refine PW.iadd dL_law_1026 ?_
  refine PW.sload (v := gx g (x3 + 3).toNatClampNeg) dL_law_1027 (hin 3 (by decide)) rfl ?_
  refine PW.callV (r := some (.int r)) (S' := tS s2) (ci := 12) (st := [.int r]) [.int (gx g (x3 + 1).toNatClampNeg), .int (gx g (x3 + 2).toNatClampNeg), .int (gx g (x3 + 3).toNatClampNeg)] dL_law_1028 (pr_X12_tells h2) MV_X12_tells mL_L_105 (by decide) rfl LA_193 rfl rfl (Nat.le_of_ble_eq_true rfl) (by decide) (by decide) (Nat.le_of_ble_eq_true rfl) (Nat.le_of_ble_eq_true rfl) ?_
  show PW g l room_1 (M_L_law nm) (FL g) _ [(3, .int x3), (2, .ref 193), (1, .ref 0), (0, .float 0)] [.int r, .int r] (tS s2) 242 KS
  refine PW.icmp_eq (tgt := 1454) dL_law_1031 (by decide) (fun _ => ?_) (fun z => absurd rfl z)
  exact k s2 h3
set_option maxRecDepth 20000 in
set_option maxHeartbeats 4000000 in
theorem case_seen {nm : String} {g : pG} {l : Launch} {Inv : Nat → cS → Prop} (H : Sp_seen Inv) {j : Nat} (hj : j < 512) {s : cS} (hI : Inv j s) {x3 : Int32} (hin : ∀ (q : Int32), (0 ≤ q ∧ q ≤ 5) → vp_in (x3 + q) (gL g)) (k : ∀ s2, Inv (j + 1) s2 → PW g l room_1 (M_L_law nm) (FL g) 1454 [(3, .int x3), (2, .ref 193), (1, .ref 0), (0, .float 0)] [] (tS s2) 242 KS) : PW g l room_1 (M_L_law nm) (FL g) 1036 [(3, .int x3), (2, .ref 193), (1, .ref 0), (0, .float 0)] [] (tS s) 242 KS := by
  obtain ⟨r, s1, s2, h1, h2, h3⟩ := H j s (gx g (x3 + 1).toNatClampNeg) (gx g (x3 + 2).toNatClampNeg) hj hI
  refine PW.aload_n 2 1 dL_law_1036 rfl rfl rfl ?_
  refine PW.aload_n 3 0 dL_law_1037 rfl rfl rfl ?_
  refine PW.iload_n 0 3 dL_law_1038 rfl rfl ?_
  refine PW.iconst (v := 1) dL_law_1039 (by decide) ?_
  refine PW.iadd dL_law_1040 ?_
  refine PW.sload (v := gx g (x3 + 1).toNatClampNeg) dL_law_1041 (hin 1 (by decide)) rfl ?_
  refine PW.aload_n 3 0 dL_law_1042 rfl rfl rfl ?_
  refine PW.iload_n 0 3 dL_law_1043 rfl rfl ?_
  refine PW.iconst (v := 2) dL_law_1044 (by decide) ?_
  refine PW.iadd dL_law_1045 ?_
  refine PW.sload (v := gx g (x3 + 2).toNatClampNeg) dL_law_1046 (hin 2 (by decide)) rfl ?_
  refine PW.callV (r := some (.int r)) (S' := tS s1) (ci := 11) (st := []) [.int (gx g (x3 + 1).toNatClampNeg), .int (gx g (x3 + 2).toNatClampNeg)] dL_law_1047 (pr_X11_seen h1) MV_X11_seen mL_L_106 (by decide) rfl LA_0 rfl rfl (Nat.le_of_ble_eq_true rfl) (by decide) (by decide) (Nat.le_of_ble_eq_true rfl) (Nat.le_of_ble_eq_true rfl) ?_
  show PW g l room_1 (M_L_law nm) (FL g) _ [(3, .int x3), (2, .ref 193), (1, .ref 0), (0, .float 0)] [.int r] (tS s1) 242 KS
  refine PW.aload_n 1 2 dL_law_1050 rfl rfl rfl ?_
  refine PW.aload_n 3 0 dL_law_1051 rfl rfl rfl ?_
  refine PW.iload_n 0 3 dL_law_1052 rfl rfl ?_
  refine PW.iconst (v := 1) dL_law_1053 (by decide) ?_
  refine PW.iadd dL_law_1054 ?_
  refine PW.sload (v := gx g (x3 + 1).toNatClampNeg) dL_law_1055 (hin 1 (by decide)) rfl ?_
  refine PW.aload_n 3 0 dL_law_1056 rfl rfl rfl ?_
  refine PW.iload_n 0 3 dL_law_1057 rfl rfl ?_
  refine PW.iconst (v := 2) dL_law_1058 (by decide) ?_
  refine PW.iadd dL_law_1059 ?_
  refine PW.sload (v := gx g (x3 + 2).toNatClampNeg) dL_law_1060 (hin 2 (by decide)) rfl ?_
  refine PW.callV (r := some (.int r)) (S' := tS s2) (ci := 12) (st := [.int r]) [.int (gx g (x3 + 1).toNatClampNeg), .int (gx g (x3 + 2).toNatClampNeg)] dL_law_1061 (pr_X12_seen h2) MV_X12_seen mL_L_110 (by decide) rfl LA_193 rfl rfl (Nat.le_of_ble_eq_true rfl) (by decide) (by decide) (Nat.le_of_ble_eq_true rfl) (Nat.le_of_ble_eq_true rfl) ?_
  show PW g l room_1 (M_L_law nm) (FL g) _ [(3, .int x3), (2, .ref 193), (1, .ref 0), (0, .float 0)] [.int r, .int r] (tS s2) 242 KS
  refine PW.icmp_eq (tgt := 1454) dL_law_1064 (by decide) (fun _ => ?_) (fun z => absurd rfl z)
  exact k s2 h3
set_option maxRecDepth 20000 in
set_option maxHeartbeats 4000000 in
theorem case_weighs {nm : String} {g : pG} {l : Launch} {Inv : Nat → cS → Prop} (H : Sp_weighs Inv) {j : Nat} (hj : j < 512) {s : cS} (hI : Inv j s) {x3 : Int32} (hin : ∀ (q : Int32), (0 ≤ q ∧ q ≤ 5) → vp_in (x3 + q) (gL g)) (k : ∀ s2, Inv (j + 1) s2 → PW g l room_1 (M_L_law nm) (FL g) 1454 [(3, .int x3), (2, .ref 193), (1, .ref 0), (0, .float 0)] [] (tS s2) 242 KS) : PW g l room_1 (M_L_law nm) (FL g) 1069 [(3, .int x3), (2, .ref 193), (1, .ref 0), (0, .float 0)] [] (tS s) 242 KS := by
  obtain ⟨r, s1, s2, h1, h2, h3⟩ := H j s (gx g (x3 + 1).toNatClampNeg) hj hI
  refine PW.aload_n 2 1 dL_law_1069 rfl rfl rfl ?_
  refine PW.aload_n 3 0 dL_law_1070 rfl rfl rfl ?_
  refine PW.iload_n 0 3 dL_law_1071 rfl rfl ?_
  refine PW.iconst (v := 1) dL_law_1072 (by decide) ?_
  refine PW.iadd dL_law_1073 ?_
  refine PW.sload (v := gx g (x3 + 1).toNatClampNeg) dL_law_1074 (hin 1 (by decide)) rfl ?_
  refine PW.callV (r := some (.long r)) (S' := tS s1) (ci := 11) (st := []) [.int (gx g (x3 + 1).toNatClampNeg)] dL_law_1075 (pr_X11_weighs h1) MV_X11_weighs mL_L_111 (by decide) rfl LA_0 rfl rfl (Nat.le_of_ble_eq_true rfl) (by decide) (by decide) (Nat.le_of_ble_eq_true rfl) (Nat.le_of_ble_eq_true rfl) ?_
  show PW g l room_1 (M_L_law nm) (FL g) _ [(3, .int x3), (2, .ref 193), (1, .ref 0), (0, .float 0)] [.long r] (tS s1) 242 KS
  refine PW.aload_n 1 2 dL_law_1078 rfl rfl rfl ?_
  refine PW.aload_n 3 0 dL_law_1079 rfl rfl rfl ?_
  refine PW.iload_n 0 3 dL_law_1080 rfl rfl ?_
  refine PW.iconst (v := 1) dL_law_1081 (by decide) ?_
  refine PW.iadd dL_law_1082 ?_
  refine PW.sload (v := gx g (x3 + 1).toNatClampNeg) dL_law_1083 (hin 1 (by decide)) rfl ?_
  refine PW.callV (r := some (.long r)) (S' := tS s2) (ci := 12) (st := [.long r]) [.int (gx g (x3 + 1).toNatClampNeg)] dL_law_1084 (pr_X12_weighs h2) MV_X12_weighs mL_L_115 (by decide) rfl LA_193 rfl rfl (Nat.le_of_ble_eq_true rfl) (by decide) (by decide) (Nat.le_of_ble_eq_true rfl) (Nat.le_of_ble_eq_true rfl) ?_
  show PW g l room_1 (M_L_law nm) (FL g) _ [(3, .int x3), (2, .ref 193), (1, .ref 0), (0, .float 0)] [.long r, .long r] (tS s2) 242 KS
  refine PW.lcmp dL_law_1087 ?_
  refine PW.if_eq (tgt := 1454) dL_law_1088 (by decide) (fun _ => ?_) (fun z => absurd (lg_cmp_self r) z)
  exact k s2 h3
set_option maxRecDepth 20000 in
set_option maxHeartbeats 4000000 in
theorem case_moves {nm : String} {g : pG} {l : Launch} {Inv : Nat → cS → Prop} (H : Sp_moves Inv) {j : Nat} (hj : j < 512) {s : cS} (hI : Inv j s) {x3 : Int32} (hin : ∀ (q : Int32), (0 ≤ q ∧ q ≤ 5) → vp_in (x3 + q) (gL g)) (k : ∀ s2, Inv (j + 1) s2 → PW g l room_1 (M_L_law nm) (FL g) 1454 [(3, .int x3), (2, .ref 193), (1, .ref 0), (0, .float 0)] [] (tS s2) 242 KS) : PW g l room_1 (M_L_law nm) (FL g) 1093 [(3, .int x3), (2, .ref 193), (1, .ref 0), (0, .float 0)] [] (tS s) 242 KS := by
  obtain ⟨r, s1, s2, h1, h2, h3⟩ := H j s  hj hI
  refine PW.aload_n 2 1 dL_law_1093 rfl rfl rfl ?_
  refine PW.callV (r := some (.int r)) (S' := tS s1) (ci := 11) (st := []) [] dL_law_1094 (pr_X11_moves h1) MV_X11_moves mL_L_116 (by decide) rfl LA_0 rfl rfl (Nat.le_of_ble_eq_true rfl) (by decide) (by decide) (Nat.le_of_ble_eq_true rfl) (Nat.le_of_ble_eq_true rfl) ?_
  show PW g l room_1 (M_L_law nm) (FL g) _ [(3, .int x3), (2, .ref 193), (1, .ref 0), (0, .float 0)] [.int r] (tS s1) 242 KS
  refine PW.aload_n 1 2 dL_law_1097 rfl rfl rfl ?_
  refine PW.callV (r := some (.int r)) (S' := tS s2) (ci := 12) (st := [.int r]) [] dL_law_1098 (pr_X12_moves h2) MV_X12_moves mL_L_119 (by decide) rfl LA_193 rfl rfl (Nat.le_of_ble_eq_true rfl) (by decide) (by decide) (Nat.le_of_ble_eq_true rfl) (Nat.le_of_ble_eq_true rfl) ?_
  show PW g l room_1 (M_L_law nm) (FL g) _ [(3, .int x3), (2, .ref 193), (1, .ref 0), (0, .float 0)] [.int r, .int r] (tS s2) 242 KS
  refine PW.icmp_eq (tgt := 1454) dL_law_1101 (by decide) (fun _ => ?_) (fun z => absurd rfl z)
  exact k s2 h3
set_option maxRecDepth 20000 in
set_option maxHeartbeats 4000000 in
theorem case_wind {nm : String} {g : pG} {l : Launch} {Inv : Nat → cS → Prop} (H : Sp_wind Inv) {j : Nat} (hj : j < 512) {s : cS} (hI : Inv j s) {x3 : Int32} (hin : ∀ (q : Int32), (0 ≤ q ∧ q ≤ 5) → vp_in (x3 + q) (gL g)) (k : ∀ s2, Inv (j + 1) s2 → PW g l room_1 (M_L_law nm) (FL g) 1454 [(3, .int x3), (2, .ref 193), (1, .ref 0), (0, .float 0)] [] (tS s2) 242 KS) : PW g l room_1 (M_L_law nm) (FL g) 1106 [(3, .int x3), (2, .ref 193), (1, .ref 0), (0, .float 0)] [] (tS s) 242 KS := by
  obtain ⟨r, s1, s2, h1, h2, h3⟩ := H j s (gx g (x3 + 1).toNatClampNeg) (gx g (x3 + 2).toNatClampNeg) (gx g (x3 + 3).toNatClampNeg) hj hI
  refine PW.aload_n 2 1 dL_law_1106 rfl rfl rfl ?_
  refine PW.aload_n 3 0 dL_law_1107 rfl rfl rfl ?_
  refine PW.iload_n 0 3 dL_law_1108 rfl rfl ?_
  refine PW.iconst (v := 1) dL_law_1109 (by decide) ?_
  refine PW.iadd dL_law_1110 ?_
  refine PW.sload (v := gx g (x3 + 1).toNatClampNeg) dL_law_1111 (hin 1 (by decide)) rfl ?_
  refine PW.aload_n 3 0 dL_law_1112 rfl rfl rfl ?_
  refine PW.iload_n 0 3 dL_law_1113 rfl rfl ?_
  refine PW.iconst (v := 2) dL_law_1114 (by decide) ?_
  refine PW.iadd dL_law_1115 ?_
  refine PW.sload (v := gx g (x3 + 2).toNatClampNeg) dL_law_1116 (hin 2 (by decide)) rfl ?_
  refine PW.aload_n 3 0 dL_law_1117 rfl rfl rfl ?_
  refine PW.iload_n 0 3 dL_law_1118 rfl rfl ?_
  refine PW.iconst (v := 3) dL_law_1119 (by decide) ?_
  refine PW.iadd dL_law_1120 ?_
  refine PW.sload (v := gx g (x3 + 3).toNatClampNeg) dL_law_1121 (hin 3 (by decide)) rfl ?_
  refine PW.callV (r := some (.int r)) (S' := tS s1) (ci := 11) (st := []) [.int (gx g (x3 + 1).toNatClampNeg), .int (gx g (x3 + 2).toNatClampNeg), .int (gx g (x3 + 3).toNatClampNeg)] dL_law_1122 (pr_X11_wind h1) MV_X11_wind mL_L_120 (by decide) rfl LA_0 rfl rfl (Nat.le_of_ble_eq_true rfl) (by decide) (by decide) (Nat.le_of_ble_eq_true rfl) (Nat.le_of_ble_eq_true rfl) ?_
  show PW g l room_1 (M_L_law nm) (FL g) _ [(3, .int x3), (2, .ref 193), (1, .ref 0), (0, .float 0)] [.int r] (tS s1) 242 KS
  refine PW.aload_n 1 2 dL_law_1125 rfl rfl rfl ?_
  refine PW.aload_n 3 0 dL_law_1126 rfl rfl rfl ?_
  refine PW.iload_n 0 3 dL_law_1127 rfl rfl ?_
  refine PW.iconst (v := 1) dL_law_1128 (by decide) ?_
  refine PW.iadd dL_law_1129 ?_
  refine PW.sload (v := gx g (x3 + 1).toNatClampNeg) dL_law_1130 (hin 1 (by decide)) rfl ?_
  refine PW.aload_n 3 0 dL_law_1131 rfl rfl rfl ?_
  refine PW.iload_n 0 3 dL_law_1132 rfl rfl ?_
  refine PW.iconst (v := 2) dL_law_1133 (by decide) ?_
  refine PW.iadd dL_law_1134 ?_
  refine PW.sload (v := gx g (x3 + 2).toNatClampNeg) dL_law_1135 (hin 2 (by decide)) rfl ?_
  refine PW.aload_n 3 0 dL_law_1136 rfl rfl rfl ?_
  refine PW.iload_n 0 3 dL_law_1137 rfl rfl ?_
  refine PW.iconst (v := 3) dL_law_1138 (by decide) ?_
  refine PW.iadd dL_law_1139 ?_
  refine PW.sload (v := gx g (x3 + 3).toNatClampNeg) dL_law_1140 (hin 3 (by decide)) rfl ?_
  refine PW.callV (r := some (.int r)) (S' := tS s2) (ci := 12) (st := [.int r]) [.int (gx g (x3 + 1).toNatClampNeg), .int (gx g (x3 + 2).toNatClampNeg), .int (gx g (x3 + 3).toNatClampNeg)] dL_law_1141 (pr_X12_wind h2) MV_X12_wind mL_L_123 (by decide) rfl LA_193 rfl rfl (Nat.le_of_ble_eq_true rfl) (by decide) (by decide) (Nat.le_of_ble_eq_true rfl) (Nat.le_of_ble_eq_true rfl) ?_
  show PW g l room_1 (M_L_law nm) (FL g) _ [(3, .int x3), (2, .ref 193), (1, .ref 0), (0, .float 0)] [.int r, .int r] (tS s2) 242 KS
  refine PW.icmp_eq (tgt := 1454) dL_law_1144 (by decide) (fun _ => ?_) (fun z => absurd rfl z)
  exact k s2 h3
set_option maxRecDepth 20000 in
set_option maxHeartbeats 4000000 in
theorem case_lies {nm : String} {g : pG} {l : Launch} {Inv : Nat → cS → Prop} (H : Sp_lies Inv) {j : Nat} (hj : j < 512) {s : cS} (hI : Inv j s) {x3 : Int32} (hin : ∀ (q : Int32), (0 ≤ q ∧ q ≤ 5) → vp_in (x3 + q) (gL g)) (k : ∀ s2, Inv (j + 1) s2 → PW g l room_1 (M_L_law nm) (FL g) 1454 [(3, .int x3), (2, .ref 193), (1, .ref 0), (0, .float 0)] [] (tS s2) 242 KS) : PW g l room_1 (M_L_law nm) (FL g) 1149 [(3, .int x3), (2, .ref 193), (1, .ref 0), (0, .float 0)] [] (tS s) 242 KS := by
  obtain ⟨r, s1, s2, h1, h2, h3⟩ := H j s (gx g (x3 + 1).toNatClampNeg) (gx g (x3 + 2).toNatClampNeg) hj hI
  refine PW.aload_n 2 1 dL_law_1149 rfl rfl rfl ?_
  refine PW.aload_n 3 0 dL_law_1150 rfl rfl rfl ?_
  refine PW.iload_n 0 3 dL_law_1151 rfl rfl ?_
  refine PW.iconst (v := 1) dL_law_1152 (by decide) ?_
  refine PW.iadd dL_law_1153 ?_
  refine PW.sload (v := gx g (x3 + 1).toNatClampNeg) dL_law_1154 (hin 1 (by decide)) rfl ?_
  refine PW.aload_n 3 0 dL_law_1155 rfl rfl rfl ?_
  refine PW.iload_n 0 3 dL_law_1156 rfl rfl ?_
  refine PW.iconst (v := 2) dL_law_1157 (by decide) ?_
  refine PW.iadd dL_law_1158 ?_
  refine PW.sload (v := gx g (x3 + 2).toNatClampNeg) dL_law_1159 (hin 2 (by decide)) rfl ?_
  refine PW.callV (r := some (.int r)) (S' := tS s1) (ci := 11) (st := []) [.int (gx g (x3 + 1).toNatClampNeg), .int (gx g (x3 + 2).toNatClampNeg)] dL_law_1160 (pr_X11_lies h1) MV_X11_lies mL_L_124 (by decide) rfl LA_0 rfl rfl (Nat.le_of_ble_eq_true rfl) (by decide) (by decide) (Nat.le_of_ble_eq_true rfl) (Nat.le_of_ble_eq_true rfl) ?_
  show PW g l room_1 (M_L_law nm) (FL g) _ [(3, .int x3), (2, .ref 193), (1, .ref 0), (0, .float 0)] [.int r] (tS s1) 242 KS
  refine PW.aload_n 1 2 dL_law_1163 rfl rfl rfl ?_
  refine PW.aload_n 3 0 dL_law_1164 rfl rfl rfl ?_
  refine PW.iload_n 0 3 dL_law_1165 rfl rfl ?_
  refine PW.iconst (v := 1) dL_law_1166 (by decide) ?_
  refine PW.iadd dL_law_1167 ?_
  refine PW.sload (v := gx g (x3 + 1).toNatClampNeg) dL_law_1168 (hin 1 (by decide)) rfl ?_
  refine PW.aload_n 3 0 dL_law_1169 rfl rfl rfl ?_
  refine PW.iload_n 0 3 dL_law_1170 rfl rfl ?_
  refine PW.iconst (v := 2) dL_law_1171 (by decide) ?_
  refine PW.iadd dL_law_1172 ?_
  refine PW.sload (v := gx g (x3 + 2).toNatClampNeg) dL_law_1173 (hin 2 (by decide)) rfl ?_
  refine PW.callV (r := some (.int r)) (S' := tS s2) (ci := 12) (st := [.int r]) [.int (gx g (x3 + 1).toNatClampNeg), .int (gx g (x3 + 2).toNatClampNeg)] dL_law_1174 (pr_X12_lies h2) MV_X12_lies mL_L_127 (by decide) rfl LA_193 rfl rfl (Nat.le_of_ble_eq_true rfl) (by decide) (by decide) (Nat.le_of_ble_eq_true rfl) (Nat.le_of_ble_eq_true rfl) ?_
  show PW g l room_1 (M_L_law nm) (FL g) _ [(3, .int x3), (2, .ref 193), (1, .ref 0), (0, .float 0)] [.int r, .int r] (tS s2) 242 KS
  refine PW.icmp_eq (tgt := 1454) dL_law_1177 (by decide) (fun _ => ?_) (fun z => absurd rfl z)
  exact k s2 h3
set_option maxRecDepth 20000 in
set_option maxHeartbeats 4000000 in
theorem case_span {nm : String} {g : pG} {l : Launch} {Inv : Nat → cS → Prop} (H : Sp_span Inv) {j : Nat} (hj : j < 512) {s : cS} (hI : Inv j s) {x3 : Int32} (hin : ∀ (q : Int32), (0 ≤ q ∧ q ≤ 5) → vp_in (x3 + q) (gL g)) (k : ∀ s2, Inv (j + 1) s2 → PW g l room_1 (M_L_law nm) (FL g) 1454 [(3, .int x3), (2, .ref 193), (1, .ref 0), (0, .float 0)] [] (tS s2) 242 KS) : PW g l room_1 (M_L_law nm) (FL g) 1182 [(3, .int x3), (2, .ref 193), (1, .ref 0), (0, .float 0)] [] (tS s) 242 KS := by
  obtain ⟨r, s1, s2, h1, h2, h3⟩ := H j s (gx g (x3 + 1).toNatClampNeg) (gx g (x3 + 2).toNatClampNeg) hj hI
  refine PW.aload_n 2 1 dL_law_1182 rfl rfl rfl ?_
  refine PW.aload_n 3 0 dL_law_1183 rfl rfl rfl ?_
  refine PW.iload_n 0 3 dL_law_1184 rfl rfl ?_
  refine PW.iconst (v := 1) dL_law_1185 (by decide) ?_
  refine PW.iadd dL_law_1186 ?_
  refine PW.sload (v := gx g (x3 + 1).toNatClampNeg) dL_law_1187 (hin 1 (by decide)) rfl ?_
  refine PW.aload_n 3 0 dL_law_1188 rfl rfl rfl ?_
  refine PW.iload_n 0 3 dL_law_1189 rfl rfl ?_
  refine PW.iconst (v := 2) dL_law_1190 (by decide) ?_
  refine PW.iadd dL_law_1191 ?_
  refine PW.sload (v := gx g (x3 + 2).toNatClampNeg) dL_law_1192 (hin 2 (by decide)) rfl ?_
  refine PW.callV (r := some (.int r)) (S' := tS s1) (ci := 11) (st := []) [.int (gx g (x3 + 1).toNatClampNeg), .int (gx g (x3 + 2).toNatClampNeg)] dL_law_1193 (pr_X11_span h1) MV_X11_span mL_L_128 (by decide) rfl LA_0 rfl rfl (Nat.le_of_ble_eq_true rfl) (by decide) (by decide) (Nat.le_of_ble_eq_true rfl) (Nat.le_of_ble_eq_true rfl) ?_
  show PW g l room_1 (M_L_law nm) (FL g) _ [(3, .int x3), (2, .ref 193), (1, .ref 0), (0, .float 0)] [.int r] (tS s1) 242 KS
  refine PW.aload_n 1 2 dL_law_1196 rfl rfl rfl ?_
  refine PW.aload_n 3 0 dL_law_1197 rfl rfl rfl ?_
  refine PW.iload_n 0 3 dL_law_1198 rfl rfl ?_
  refine PW.iconst (v := 1) dL_law_1199 (by decide) ?_
  refine PW.iadd dL_law_1200 ?_
  refine PW.sload (v := gx g (x3 + 1).toNatClampNeg) dL_law_1201 (hin 1 (by decide)) rfl ?_
  refine PW.aload_n 3 0 dL_law_1202 rfl rfl rfl ?_
  refine PW.iload_n 0 3 dL_law_1203 rfl rfl ?_
  refine PW.iconst (v := 2) dL_law_1204 (by decide) ?_
  refine PW.iadd dL_law_1205 ?_
  refine PW.sload (v := gx g (x3 + 2).toNatClampNeg) dL_law_1206 (hin 2 (by decide)) rfl ?_
  refine PW.callV (r := some (.int r)) (S' := tS s2) (ci := 12) (st := [.int r]) [.int (gx g (x3 + 1).toNatClampNeg), .int (gx g (x3 + 2).toNatClampNeg)] dL_law_1207 (pr_X12_span h2) MV_X12_span mL_L_131 (by decide) rfl LA_193 rfl rfl (Nat.le_of_ble_eq_true rfl) (by decide) (by decide) (Nat.le_of_ble_eq_true rfl) (Nat.le_of_ble_eq_true rfl) ?_
  show PW g l room_1 (M_L_law nm) (FL g) _ [(3, .int x3), (2, .ref 193), (1, .ref 0), (0, .float 0)] [.int r, .int r] (tS s2) 242 KS
  refine PW.icmp_eq (tgt := 1454) dL_law_1210 (by decide) (fun _ => ?_) (fun z => absurd rfl z)
  exact k s2 h3
set_option maxRecDepth 20000 in
set_option maxHeartbeats 4000000 in
theorem case_order {nm : String} {g : pG} {l : Launch} {Inv : Nat → cS → Prop} (H : Sp_order Inv) {j : Nat} (hj : j < 512) {s : cS} (hI : Inv j s) {x3 : Int32} (hin : ∀ (q : Int32), (0 ≤ q ∧ q ≤ 5) → vp_in (x3 + q) (gL g)) (k : ∀ s2, Inv (j + 1) s2 → PW g l room_1 (M_L_law nm) (FL g) 1454 [(3, .int x3), (2, .ref 193), (1, .ref 0), (0, .float 0)] [] (tS s2) 242 KS) : PW g l room_1 (M_L_law nm) (FL g) 1215 [(3, .int x3), (2, .ref 193), (1, .ref 0), (0, .float 0)] [] (tS s) 242 KS := by
  obtain ⟨r, s1, s2, h1, h2, h3⟩ := H j s (gx g (x3 + 1).toNatClampNeg) (gx g (x3 + 2).toNatClampNeg) hj hI
  refine PW.aload_n 2 1 dL_law_1215 rfl rfl rfl ?_
  refine PW.aload_n 3 0 dL_law_1216 rfl rfl rfl ?_
  refine PW.iload_n 0 3 dL_law_1217 rfl rfl ?_
  refine PW.iconst (v := 1) dL_law_1218 (by decide) ?_
  refine PW.iadd dL_law_1219 ?_
  refine PW.sload (v := gx g (x3 + 1).toNatClampNeg) dL_law_1220 (hin 1 (by decide)) rfl ?_
  refine PW.aload_n 3 0 dL_law_1221 rfl rfl rfl ?_
  refine PW.iload_n 0 3 dL_law_1222 rfl rfl ?_
  refine PW.iconst (v := 2) dL_law_1223 (by decide) ?_
  refine PW.iadd dL_law_1224 ?_
  refine PW.sload (v := gx g (x3 + 2).toNatClampNeg) dL_law_1225 (hin 2 (by decide)) rfl ?_
  refine PW.callV (r := some (.int r)) (S' := tS s1) (ci := 11) (st := []) [.int (gx g (x3 + 1).toNatClampNeg), .int (gx g (x3 + 2).toNatClampNeg)] dL_law_1226 (pr_X11_order h1) MV_X11_order mL_L_132 (by decide) rfl LA_0 rfl rfl (Nat.le_of_ble_eq_true rfl) (by decide) (by decide) (Nat.le_of_ble_eq_true rfl) (Nat.le_of_ble_eq_true rfl) ?_
  show PW g l room_1 (M_L_law nm) (FL g) _ [(3, .int x3), (2, .ref 193), (1, .ref 0), (0, .float 0)] [.int r] (tS s1) 242 KS
  refine PW.aload_n 1 2 dL_law_1229 rfl rfl rfl ?_
  refine PW.aload_n 3 0 dL_law_1230 rfl rfl rfl ?_
  refine PW.iload_n 0 3 dL_law_1231 rfl rfl ?_
  refine PW.iconst (v := 1) dL_law_1232 (by decide) ?_
  refine PW.iadd dL_law_1233 ?_
  refine PW.sload (v := gx g (x3 + 1).toNatClampNeg) dL_law_1234 (hin 1 (by decide)) rfl ?_
  refine PW.aload_n 3 0 dL_law_1235 rfl rfl rfl ?_
  refine PW.iload_n 0 3 dL_law_1236 rfl rfl ?_
  refine PW.iconst (v := 2) dL_law_1237 (by decide) ?_
  refine PW.iadd dL_law_1238 ?_
  refine PW.sload (v := gx g (x3 + 2).toNatClampNeg) dL_law_1239 (hin 2 (by decide)) rfl ?_
  refine PW.callV (r := some (.int r)) (S' := tS s2) (ci := 12) (st := [.int r]) [.int (gx g (x3 + 1).toNatClampNeg), .int (gx g (x3 + 2).toNatClampNeg)] dL_law_1240 (pr_X12_order h2) MV_X12_order mL_L_135 (by decide) rfl LA_193 rfl rfl (Nat.le_of_ble_eq_true rfl) (by decide) (by decide) (Nat.le_of_ble_eq_true rfl) (Nat.le_of_ble_eq_true rfl) ?_
  show PW g l room_1 (M_L_law nm) (FL g) _ [(3, .int x3), (2, .ref 193), (1, .ref 0), (0, .float 0)] [.int r, .int r] (tS s2) 242 KS
  refine PW.icmp_eq (tgt := 1454) dL_law_1243 (by decide) (fun _ => ?_) (fun z => absurd rfl z)
  exact k s2 h3
set_option maxRecDepth 20000 in
set_option maxHeartbeats 4000000 in
theorem case_cell {nm : String} {g : pG} {l : Launch} {Inv : Nat → cS → Prop} (H : Sp_cell Inv) {j : Nat} (hj : j < 512) {s : cS} (hI : Inv j s) {x3 : Int32} (hin : ∀ (q : Int32), (0 ≤ q ∧ q ≤ 5) → vp_in (x3 + q) (gL g)) (k : ∀ s2, Inv (j + 1) s2 → PW g l room_1 (M_L_law nm) (FL g) 1454 [(3, .int x3), (2, .ref 193), (1, .ref 0), (0, .float 0)] [] (tS s2) 242 KS) : PW g l room_1 (M_L_law nm) (FL g) 1248 [(3, .int x3), (2, .ref 193), (1, .ref 0), (0, .float 0)] [] (tS s) 242 KS := by
  obtain ⟨r, s1, s2, h1, h2, h3⟩ := H j s (gx g (x3 + 1).toNatClampNeg) (gx g (x3 + 2).toNatClampNeg) (gx g (x3 + 3).toNatClampNeg) hj hI
  refine PW.aload_n 2 1 dL_law_1248 rfl rfl rfl ?_
  refine PW.aload_n 3 0 dL_law_1249 rfl rfl rfl ?_
  refine PW.iload_n 0 3 dL_law_1250 rfl rfl ?_
  refine PW.iconst (v := 1) dL_law_1251 (by decide) ?_
  refine PW.iadd dL_law_1252 ?_
  refine PW.sload (v := gx g (x3 + 1).toNatClampNeg) dL_law_1253 (hin 1 (by decide)) rfl ?_
  refine PW.aload_n 3 0 dL_law_1254 rfl rfl rfl ?_
  refine PW.iload_n 0 3 dL_law_1255 rfl rfl ?_
  refine PW.iconst (v := 2) dL_law_1256 (by decide) ?_
  refine PW.iadd dL_law_1257 ?_
  refine PW.sload (v := gx g (x3 + 2).toNatClampNeg) dL_law_1258 (hin 2 (by decide)) rfl ?_
  refine PW.aload_n 3 0 dL_law_1259 rfl rfl rfl ?_
  refine PW.iload_n 0 3 dL_law_1260 rfl rfl ?_
  refine PW.iconst (v := 3) dL_law_1261 (by decide) ?_
  refine PW.iadd dL_law_1262 ?_
  refine PW.sload (v := gx g (x3 + 3).toNatClampNeg) dL_law_1263 (hin 3 (by decide)) rfl ?_
  refine PW.callV (r := some (.int r)) (S' := tS s1) (ci := 11) (st := []) [.int (gx g (x3 + 1).toNatClampNeg), .int (gx g (x3 + 2).toNatClampNeg), .int (gx g (x3 + 3).toNatClampNeg)] dL_law_1264 (pr_X11_cell h1) MV_X11_cell mL_L_136 (by decide) rfl LA_0 rfl rfl (Nat.le_of_ble_eq_true rfl) (by decide) (by decide) (Nat.le_of_ble_eq_true rfl) (Nat.le_of_ble_eq_true rfl) ?_
  show PW g l room_1 (M_L_law nm) (FL g) _ [(3, .int x3), (2, .ref 193), (1, .ref 0), (0, .float 0)] [.int r] (tS s1) 242 KS
  refine PW.aload_n 1 2 dL_law_1267 rfl rfl rfl ?_
  refine PW.aload_n 3 0 dL_law_1268 rfl rfl rfl ?_
  refine PW.iload_n 0 3 dL_law_1269 rfl rfl ?_
  refine PW.iconst (v := 1) dL_law_1270 (by decide) ?_
  refine PW.iadd dL_law_1271 ?_
  refine PW.sload (v := gx g (x3 + 1).toNatClampNeg) dL_law_1272 (hin 1 (by decide)) rfl ?_
  refine PW.aload_n 3 0 dL_law_1273 rfl rfl rfl ?_
  refine PW.iload_n 0 3 dL_law_1274 rfl rfl ?_
  refine PW.iconst (v := 2) dL_law_1275 (by decide) ?_
  refine PW.iadd dL_law_1276 ?_
  refine PW.sload (v := gx g (x3 + 2).toNatClampNeg) dL_law_1277 (hin 2 (by decide)) rfl ?_
  refine PW.aload_n 3 0 dL_law_1278 rfl rfl rfl ?_
  refine PW.iload_n 0 3 dL_law_1279 rfl rfl ?_
  refine PW.iconst (v := 3) dL_law_1280 (by decide) ?_
  refine PW.iadd dL_law_1281 ?_
  refine PW.sload (v := gx g (x3 + 3).toNatClampNeg) dL_law_1282 (hin 3 (by decide)) rfl ?_
  refine PW.callV (r := some (.int r)) (S' := tS s2) (ci := 12) (st := [.int r]) [.int (gx g (x3 + 1).toNatClampNeg), .int (gx g (x3 + 2).toNatClampNeg), .int (gx g (x3 + 3).toNatClampNeg)] dL_law_1283 (pr_X12_cell h2) MV_X12_cell mL_L_139 (by decide) rfl LA_193 rfl rfl (Nat.le_of_ble_eq_true rfl) (by decide) (by decide) (Nat.le_of_ble_eq_true rfl) (Nat.le_of_ble_eq_true rfl) ?_
  show PW g l room_1 (M_L_law nm) (FL g) _ [(3, .int x3), (2, .ref 193), (1, .ref 0), (0, .float 0)] [.int r, .int r] (tS s2) 242 KS
  refine PW.icmp_eq (tgt := 1454) dL_law_1286 (by decide) (fun _ => ?_) (fun z => absurd rfl z)
  exact k s2 h3
set_option maxRecDepth 20000 in
set_option maxHeartbeats 4000000 in
theorem case_nets {nm : String} {g : pG} {l : Launch} {Inv : Nat → cS → Prop} (H : Sp_nets Inv) {j : Nat} (hj : j < 512) {s : cS} (hI : Inv j s) {x3 : Int32} (hin : ∀ (q : Int32), (0 ≤ q ∧ q ≤ 5) → vp_in (x3 + q) (gL g)) (k : ∀ s2, Inv (j + 1) s2 → PW g l room_1 (M_L_law nm) (FL g) 1454 [(3, .int x3), (2, .ref 193), (1, .ref 0), (0, .float 0)] [] (tS s2) 242 KS) : PW g l room_1 (M_L_law nm) (FL g) 1291 [(3, .int x3), (2, .ref 193), (1, .ref 0), (0, .float 0)] [] (tS s) 242 KS := by
  obtain ⟨r, s1, s2, h1, h2, h3⟩ := H j s (gx g (x3 + 1).toNatClampNeg) (gx g (x3 + 2).toNatClampNeg) (gx g (x3 + 3).toNatClampNeg) hj hI
  refine PW.aload_n 2 1 dL_law_1291 rfl rfl rfl ?_
  refine PW.aload_n 3 0 dL_law_1292 rfl rfl rfl ?_
  refine PW.iload_n 0 3 dL_law_1293 rfl rfl ?_
  refine PW.iconst (v := 1) dL_law_1294 (by decide) ?_
  refine PW.iadd dL_law_1295 ?_
  refine PW.sload (v := gx g (x3 + 1).toNatClampNeg) dL_law_1296 (hin 1 (by decide)) rfl ?_
  refine PW.aload_n 3 0 dL_law_1297 rfl rfl rfl ?_
  refine PW.iload_n 0 3 dL_law_1298 rfl rfl ?_
  refine PW.iconst (v := 2) dL_law_1299 (by decide) ?_
  refine PW.iadd dL_law_1300 ?_
  refine PW.sload (v := gx g (x3 + 2).toNatClampNeg) dL_law_1301 (hin 2 (by decide)) rfl ?_
  refine PW.aload_n 3 0 dL_law_1302 rfl rfl rfl ?_
  refine PW.iload_n 0 3 dL_law_1303 rfl rfl ?_
  refine PW.iconst (v := 3) dL_law_1304 (by decide) ?_
  refine PW.iadd dL_law_1305 ?_
  refine PW.sload (v := gx g (x3 + 3).toNatClampNeg) dL_law_1306 (hin 3 (by decide)) rfl ?_
  refine PW.callV (r := some (.long r)) (S' := tS s1) (ci := 11) (st := []) [.int (gx g (x3 + 1).toNatClampNeg), .int (gx g (x3 + 2).toNatClampNeg), .int (gx g (x3 + 3).toNatClampNeg)] dL_law_1307 (pr_X11_nets h1) MV_X11_nets mL_L_140 (by decide) rfl LA_0 rfl rfl (Nat.le_of_ble_eq_true rfl) (by decide) (by decide) (Nat.le_of_ble_eq_true rfl) (Nat.le_of_ble_eq_true rfl) ?_
  show PW g l room_1 (M_L_law nm) (FL g) _ [(3, .int x3), (2, .ref 193), (1, .ref 0), (0, .float 0)] [.long r] (tS s1) 242 KS
  refine PW.aload_n 1 2 dL_law_1310 rfl rfl rfl ?_
  refine PW.aload_n 3 0 dL_law_1311 rfl rfl rfl ?_
  refine PW.iload_n 0 3 dL_law_1312 rfl rfl ?_
  refine PW.iconst (v := 1) dL_law_1313 (by decide) ?_
  refine PW.iadd dL_law_1314 ?_
  refine PW.sload (v := gx g (x3 + 1).toNatClampNeg) dL_law_1315 (hin 1 (by decide)) rfl ?_
  refine PW.aload_n 3 0 dL_law_1316 rfl rfl rfl ?_
  refine PW.iload_n 0 3 dL_law_1317 rfl rfl ?_
  refine PW.iconst (v := 2) dL_law_1318 (by decide) ?_
  refine PW.iadd dL_law_1319 ?_
  refine PW.sload (v := gx g (x3 + 2).toNatClampNeg) dL_law_1320 (hin 2 (by decide)) rfl ?_
  refine PW.aload_n 3 0 dL_law_1321 rfl rfl rfl ?_
  refine PW.iload_n 0 3 dL_law_1322 rfl rfl ?_
  refine PW.iconst (v := 3) dL_law_1323 (by decide) ?_
  refine PW.iadd dL_law_1324 ?_
  refine PW.sload (v := gx g (x3 + 3).toNatClampNeg) dL_law_1325 (hin 3 (by decide)) rfl ?_
  refine PW.callV (r := some (.long r)) (S' := tS s2) (ci := 12) (st := [.long r]) [.int (gx g (x3 + 1).toNatClampNeg), .int (gx g (x3 + 2).toNatClampNeg), .int (gx g (x3 + 3).toNatClampNeg)] dL_law_1326 (pr_X12_nets h2) MV_X12_nets mL_L_144 (by decide) rfl LA_193 rfl rfl (Nat.le_of_ble_eq_true rfl) (by decide) (by decide) (Nat.le_of_ble_eq_true rfl) (Nat.le_of_ble_eq_true rfl) ?_
  show PW g l room_1 (M_L_law nm) (FL g) _ [(3, .int x3), (2, .ref 193), (1, .ref 0), (0, .float 0)] [.long r, .long r] (tS s2) 242 KS
  refine PW.lcmp dL_law_1329 ?_
  refine PW.if_eq (tgt := 1454) dL_law_1330 (by decide) (fun _ => ?_) (fun z => absurd (lg_cmp_self r) z)
  exact k s2 h3
set_option maxRecDepth 20000 in
set_option maxHeartbeats 4000000 in
theorem case_fly {nm : String} {g : pG} {l : Launch} {Inv : Nat → cS → Prop} (H : Sp_fly Inv) {j : Nat} (hj : j < 512) {s : cS} (hI : Inv j s) {x3 : Int32} (hin : ∀ (q : Int32), (0 ≤ q ∧ q ≤ 5) → vp_in (x3 + q) (gL g)) (k : ∀ s2, Inv (j + 1) s2 → PW g l room_1 (M_L_law nm) (FL g) 1454 [(3, .int x3), (2, .ref 193), (1, .ref 0), (0, .float 0)] [] (tS s2) 242 KS) : PW g l room_1 (M_L_law nm) (FL g) 1335 [(3, .int x3), (2, .ref 193), (1, .ref 0), (0, .float 0)] [] (tS s) 242 KS := by
  obtain ⟨r, s1, s2, h1, h2, h3⟩ := H j s (gx g (x3 + 1).toNatClampNeg) (gx g (x3 + 2).toNatClampNeg) (gx g (x3 + 3).toNatClampNeg) (gx g (x3 + 4).toNatClampNeg) (gx g (x3 + 5).toNatClampNeg) hj hI
  refine PW.aload_n 2 1 dL_law_1335 rfl rfl rfl ?_
  refine PW.aload_n 3 0 dL_law_1336 rfl rfl rfl ?_
  refine PW.iload_n 0 3 dL_law_1337 rfl rfl ?_
  refine PW.iconst (v := 1) dL_law_1338 (by decide) ?_
  refine PW.iadd dL_law_1339 ?_
  refine PW.sload (v := gx g (x3 + 1).toNatClampNeg) dL_law_1340 (hin 1 (by decide)) rfl ?_
  refine PW.aload_n 3 0 dL_law_1341 rfl rfl rfl ?_
  refine PW.iload_n 0 3 dL_law_1342 rfl rfl ?_
  refine PW.iconst (v := 2) dL_law_1343 (by decide) ?_
  refine PW.iadd dL_law_1344 ?_
  refine PW.sload (v := gx g (x3 + 2).toNatClampNeg) dL_law_1345 (hin 2 (by decide)) rfl ?_
  refine PW.aload_n 3 0 dL_law_1346 rfl rfl rfl ?_
  refine PW.iload_n 0 3 dL_law_1347 rfl rfl ?_
  refine PW.iconst (v := 3) dL_law_1348 (by decide) ?_
  refine PW.iadd dL_law_1349 ?_
  refine PW.sload (v := gx g (x3 + 3).toNatClampNeg) dL_law_1350 (hin 3 (by decide)) rfl ?_
  refine PW.aload_n 3 0 dL_law_1351 rfl rfl rfl ?_
  refine PW.iload_n 0 3 dL_law_1352 rfl rfl ?_
  refine PW.iconst (v := 4) dL_law_1353 (by decide) ?_
  refine PW.iadd dL_law_1354 ?_
  refine PW.sload (v := gx g (x3 + 4).toNatClampNeg) dL_law_1355 (hin 4 (by decide)) rfl ?_
  refine PW.aload_n 3 0 dL_law_1356 rfl rfl rfl ?_
  refine PW.iload_n 0 3 dL_law_1357 rfl rfl ?_
  refine PW.iconst (v := 5) dL_law_1358 (by decide) ?_
  refine PW.iadd dL_law_1359 ?_
  refine PW.sload (v := gx g (x3 + 5).toNatClampNeg) dL_law_1360 (hin 5 (by decide)) rfl ?_
  refine PW.callV (r := some (.int r)) (S' := tS s1) (ci := 11) (st := []) [.int (gx g (x3 + 1).toNatClampNeg), .int (gx g (x3 + 2).toNatClampNeg), .int (gx g (x3 + 3).toNatClampNeg), .int (gx g (x3 + 4).toNatClampNeg), .int (gx g (x3 + 5).toNatClampNeg)] dL_law_1361 (pr_X11_fly h1) MV_X11_fly mL_L_145 (by decide) rfl LA_0 rfl rfl (Nat.le_of_ble_eq_true rfl) (by decide) (by decide) (Nat.le_of_ble_eq_true rfl) (Nat.le_of_ble_eq_true rfl) ?_
  show PW g l room_1 (M_L_law nm) (FL g) _ [(3, .int x3), (2, .ref 193), (1, .ref 0), (0, .float 0)] [.int r] (tS s1) 242 KS
  refine PW.aload_n 1 2 dL_law_1364 rfl rfl rfl ?_
  refine PW.aload_n 3 0 dL_law_1365 rfl rfl rfl ?_
  refine PW.iload_n 0 3 dL_law_1366 rfl rfl ?_
  refine PW.iconst (v := 1) dL_law_1367 (by decide) ?_
  refine PW.iadd dL_law_1368 ?_
  refine PW.sload (v := gx g (x3 + 1).toNatClampNeg) dL_law_1369 (hin 1 (by decide)) rfl ?_
  refine PW.aload_n 3 0 dL_law_1370 rfl rfl rfl ?_
  refine PW.iload_n 0 3 dL_law_1371 rfl rfl ?_
  refine PW.iconst (v := 2) dL_law_1372 (by decide) ?_
  refine PW.iadd dL_law_1373 ?_
  refine PW.sload (v := gx g (x3 + 2).toNatClampNeg) dL_law_1374 (hin 2 (by decide)) rfl ?_
  refine PW.aload_n 3 0 dL_law_1375 rfl rfl rfl ?_
  refine PW.iload_n 0 3 dL_law_1376 rfl rfl ?_
  refine PW.iconst (v := 3) dL_law_1377 (by decide) ?_
  refine PW.iadd dL_law_1378 ?_
  refine PW.sload (v := gx g (x3 + 3).toNatClampNeg) dL_law_1379 (hin 3 (by decide)) rfl ?_
  refine PW.aload_n 3 0 dL_law_1380 rfl rfl rfl ?_
  refine PW.iload_n 0 3 dL_law_1381 rfl rfl ?_
  refine PW.iconst (v := 4) dL_law_1382 (by decide) ?_
  refine PW.iadd dL_law_1383 ?_
  refine PW.sload (v := gx g (x3 + 4).toNatClampNeg) dL_law_1384 (hin 4 (by decide)) rfl ?_
  refine PW.aload_n 3 0 dL_law_1385 rfl rfl rfl ?_
  refine PW.iload_n 0 3 dL_law_1386 rfl rfl ?_
  refine PW.iconst (v := 5) dL_law_1387 (by decide) ?_
  refine PW.iadd dL_law_1388 ?_
  refine PW.sload (v := gx g (x3 + 5).toNatClampNeg) dL_law_1389 (hin 5 (by decide)) rfl ?_
  refine PW.callV (r := some (.int r)) (S' := tS s2) (ci := 12) (st := [.int r]) [.int (gx g (x3 + 1).toNatClampNeg), .int (gx g (x3 + 2).toNatClampNeg), .int (gx g (x3 + 3).toNatClampNeg), .int (gx g (x3 + 4).toNatClampNeg), .int (gx g (x3 + 5).toNatClampNeg)] dL_law_1390 (pr_X12_fly h2) MV_X12_fly mL_L_148 (by decide) rfl LA_193 rfl rfl (Nat.le_of_ble_eq_true rfl) (by decide) (by decide) (Nat.le_of_ble_eq_true rfl) (Nat.le_of_ble_eq_true rfl) ?_
  show PW g l room_1 (M_L_law nm) (FL g) _ [(3, .int x3), (2, .ref 193), (1, .ref 0), (0, .float 0)] [.int r, .int r] (tS s2) 242 KS
  refine PW.icmp_eq (tgt := 1454) dL_law_1393 (by decide) (fun _ => ?_) (fun z => absurd rfl z)
  exact k s2 h3
set_option maxRecDepth 20000 in
set_option maxHeartbeats 4000000 in
theorem case_check {nm : String} {g : pG} {l : Launch} {Inv : Nat → cS → Prop} (H : Sp_check Inv) {j : Nat} (hj : j < 512) {s : cS} (hI : Inv j s) {x3 : Int32} (hin : ∀ (q : Int32), (0 ≤ q ∧ q ≤ 5) → vp_in (x3 + q) (gL g)) (k : ∀ s2, Inv (j + 1) s2 → PW g l room_1 (M_L_law nm) (FL g) 1454 [(3, .int x3), (2, .ref 193), (1, .ref 0), (0, .float 0)] [] (tS s2) 242 KS) : PW g l room_1 (M_L_law nm) (FL g) 1398 [(3, .int x3), (2, .ref 193), (1, .ref 0), (0, .float 0)] [] (tS s) 242 KS := by
  obtain ⟨r, s1, s2, h1, h2, h3⟩ := H j s (gx g (x3 + 1).toNatClampNeg) (gx g (x3 + 2).toNatClampNeg) hj hI
  refine PW.aload_n 2 1 dL_law_1398 rfl rfl rfl ?_
  refine PW.aload_n 3 0 dL_law_1399 rfl rfl rfl ?_
  refine PW.iload_n 0 3 dL_law_1400 rfl rfl ?_
  refine PW.iconst (v := 1) dL_law_1401 (by decide) ?_
  refine PW.iadd dL_law_1402 ?_
  refine PW.sload (v := gx g (x3 + 1).toNatClampNeg) dL_law_1403 (hin 1 (by decide)) rfl ?_
  refine PW.aload_n 3 0 dL_law_1404 rfl rfl rfl ?_
  refine PW.iload_n 0 3 dL_law_1405 rfl rfl ?_
  refine PW.iconst (v := 2) dL_law_1406 (by decide) ?_
  refine PW.iadd dL_law_1407 ?_
  refine PW.sload (v := gx g (x3 + 2).toNatClampNeg) dL_law_1408 (hin 2 (by decide)) rfl ?_
  refine PW.callV (r := some (.int r)) (S' := tS s1) (ci := 11) (st := []) [.int (gx g (x3 + 1).toNatClampNeg), .int (gx g (x3 + 2).toNatClampNeg)] dL_law_1409 (pr_X11_check h1) MV_X11_check mL_L_149 (by decide) rfl LA_0 rfl rfl (Nat.le_of_ble_eq_true rfl) (by decide) (by decide) (Nat.le_of_ble_eq_true rfl) (Nat.le_of_ble_eq_true rfl) ?_
  show PW g l room_1 (M_L_law nm) (FL g) _ [(3, .int x3), (2, .ref 193), (1, .ref 0), (0, .float 0)] [.int r] (tS s1) 242 KS
  refine PW.aload_n 1 2 dL_law_1412 rfl rfl rfl ?_
  refine PW.aload_n 3 0 dL_law_1413 rfl rfl rfl ?_
  refine PW.iload_n 0 3 dL_law_1414 rfl rfl ?_
  refine PW.iconst (v := 1) dL_law_1415 (by decide) ?_
  refine PW.iadd dL_law_1416 ?_
  refine PW.sload (v := gx g (x3 + 1).toNatClampNeg) dL_law_1417 (hin 1 (by decide)) rfl ?_
  refine PW.aload_n 3 0 dL_law_1418 rfl rfl rfl ?_
  refine PW.iload_n 0 3 dL_law_1419 rfl rfl ?_
  refine PW.iconst (v := 2) dL_law_1420 (by decide) ?_
  refine PW.iadd dL_law_1421 ?_
  refine PW.sload (v := gx g (x3 + 2).toNatClampNeg) dL_law_1422 (hin 2 (by decide)) rfl ?_
  refine PW.callV (r := some (.int r)) (S' := tS s2) (ci := 12) (st := [.int r]) [.int (gx g (x3 + 1).toNatClampNeg), .int (gx g (x3 + 2).toNatClampNeg)] dL_law_1423 (pr_X12_check h2) MV_X12_check mL_L_152 (by decide) rfl LA_193 rfl rfl (Nat.le_of_ble_eq_true rfl) (by decide) (by decide) (Nat.le_of_ble_eq_true rfl) (Nat.le_of_ble_eq_true rfl) ?_
  show PW g l room_1 (M_L_law nm) (FL g) _ [(3, .int x3), (2, .ref 193), (1, .ref 0), (0, .float 0)] [.int r, .int r] (tS s2) 242 KS
  refine PW.icmp_eq (tgt := 1454) dL_law_1426 (by decide) (fun _ => ?_) (fun z => absurd rfl z)
  exact k s2 h3
set_option maxRecDepth 20000 in
set_option maxHeartbeats 4000000 in
theorem case_count {nm : String} {g : pG} {l : Launch} {Inv : Nat → cS → Prop} (H : Sp_count Inv) {j : Nat} (hj : j < 512) {s : cS} (hI : Inv j s) {x3 : Int32} (hin : ∀ (q : Int32), (0 ≤ q ∧ q ≤ 5) → vp_in (x3 + q) (gL g)) (k : ∀ s2, Inv (j + 1) s2 → PW g l room_1 (M_L_law nm) (FL g) 1454 [(3, .int x3), (2, .ref 193), (1, .ref 0), (0, .float 0)] [] (tS s2) 242 KS) : PW g l room_1 (M_L_law nm) (FL g) 1431 [(3, .int x3), (2, .ref 193), (1, .ref 0), (0, .float 0)] [] (tS s) 242 KS := by
  obtain ⟨r, s1, s2, h1, h2, h3⟩ := H j s (gx g (x3 + 1).toNatClampNeg) hj hI
  refine PW.aload_n 2 1 dL_law_1431 rfl rfl rfl ?_
  refine PW.aload_n 3 0 dL_law_1432 rfl rfl rfl ?_
  refine PW.iload_n 0 3 dL_law_1433 rfl rfl ?_
  refine PW.iconst (v := 1) dL_law_1434 (by decide) ?_
  refine PW.iadd dL_law_1435 ?_
  refine PW.sload (v := gx g (x3 + 1).toNatClampNeg) dL_law_1436 (hin 1 (by decide)) rfl ?_
  refine PW.callV (r := some (.int r)) (S' := tS s1) (ci := 11) (st := []) [.int (gx g (x3 + 1).toNatClampNeg)] dL_law_1437 (pr_X11_count h1) MV_X11_count mL_L_153 (by decide) rfl LA_0 rfl rfl (Nat.le_of_ble_eq_true rfl) (by decide) (by decide) (Nat.le_of_ble_eq_true rfl) (Nat.le_of_ble_eq_true rfl) ?_
  show PW g l room_1 (M_L_law nm) (FL g) _ [(3, .int x3), (2, .ref 193), (1, .ref 0), (0, .float 0)] [.int r] (tS s1) 242 KS
  refine PW.aload_n 1 2 dL_law_1440 rfl rfl rfl ?_
  refine PW.aload_n 3 0 dL_law_1441 rfl rfl rfl ?_
  refine PW.iload_n 0 3 dL_law_1442 rfl rfl ?_
  refine PW.iconst (v := 1) dL_law_1443 (by decide) ?_
  refine PW.iadd dL_law_1444 ?_
  refine PW.sload (v := gx g (x3 + 1).toNatClampNeg) dL_law_1445 (hin 1 (by decide)) rfl ?_
  refine PW.callV (r := some (.int r)) (S' := tS s2) (ci := 12) (st := [.int r]) [.int (gx g (x3 + 1).toNatClampNeg)] dL_law_1446 (pr_X12_count h2) MV_X12_count mL_L_156 (by decide) rfl LA_193 rfl rfl (Nat.le_of_ble_eq_true rfl) (by decide) (by decide) (Nat.le_of_ble_eq_true rfl) (Nat.le_of_ble_eq_true rfl) ?_
  show PW g l room_1 (M_L_law nm) (FL g) _ [(3, .int x3), (2, .ref 193), (1, .ref 0), (0, .float 0)] [.int r, .int r] (tS s2) 242 KS
  refine PW.icmp_eq (tgt := 1454) dL_law_1449 (by decide) (fun _ => ?_) (fun z => absurd rfl z)
  exact k s2 h3
theorem law_room {L j : Nat} (hL : L ≤ 3072) (h1 : 6 * j ≤ L) (c : ¬ Int32.ofNat L - 6 < nI (6 * j)) : 6 * j + 6 ≤ L := by
  have e1 : (nI (6 * j)).toInt = ((6 * j : Nat) : Int) := nI_toInt (by omega)
  have e2 : (Int32.ofNat L).toInt = (L : Int) := nI_toInt (by omega)
  have e3 : (Int32.ofNat L - 6).toInt = (L : Int) - 6 := by
    rw [Int32.toInt_sub, e2]
    show Int.bmod ((L : Int) - 6) (2 ^ 32) = _
    rw [Int.bmod_eq_of_le (by omega) (by omega)]
  have h : ¬ (Int32.ofNat L - 6).toInt < (nI (6 * j)).toInt := fun q => c (Int32.lt_iff_toInt_lt.mpr q)
  rw [e1, e3] at h
  omega
theorem law_in {L j : Nat} (h6 : 6 * j + 6 ≤ L) (hL : L ≤ 3072) (q : Int32) (hq : 0 ≤ q ∧ q ≤ 5) : vp_in (nI (6 * j) + q) L := by
  obtain ⟨i, hi, rfl⟩ := nI_of2 (n := 5) (M := 5) rfl (Int32.not_lt.mpr hq.1) hq.2
  exact nIadd (by omega) hL
theorem law_in0 {L j : Nat} (h6 : 6 * j + 6 ≤ L) (hL : L ≤ 3072) : vp_in (nI (6 * j)) L := vp_in_nI (by omega) (by omega)
theorem law_inc (j : Nat) : nI (6 * j) + Int32.ofInt 6 = nI (6 * (j + 1)) := nI_add (6 * j) 6
set_option maxRecDepth 20000 in
set_option maxHeartbeats 4000000 in
theorem law_loop {nm : String} {g : pG} {l : Launch} {Inv : Nat → cS → Prop} (H : Steps Inv) (hUp : ∀ k s, Inv k s → Inv (k + 1) s) (hL : gL g ≤ 3072) : ∀ (n j : Nat) (s : cS), 6 * j ≤ gL g → 513 ≤ j + n → Inv j s → PW g l room_1 (M_L_law nm) (FL g) 18 [(3, .int (nI (6 * j))), (2, .ref 193), (1, .ref 0), (0, .float 0)] [] (tS s) 242 KS := by
  intro n
  induction n with
  | zero =>
    intro j s h1 h2
    omega
  | succ n ih =>
    intro j s h1 h2 hI
    refine PW.iload_n 0 3 dL_law_18 rfl rfl ?_
    refine PW.aload_n 3 0 dL_law_19 rfl rfl rfl ?_
    refine PW.slen dL_law_20 ?_
    refine PW.bipush (v := 6) dL_law_21 (by decide) ?_
    refine PW.isub dL_law_23 ?_
    refine PW.icmp_gt (tgt := 1460) dL_law_24 (by decide) (fun _ => ?_) (fun c1 => ?_)
    · refine PW.iconst (v := 1) dL_law_1460 (by decide) ?_
      exact PW.lawret dL_law_1461 (Nat.le_of_ble_eq_true rfl) (Nat.le_of_ble_eq_true rfl)
    · have h6 : 6 * j + 6 ≤ gL g := law_room hL h1 c1
      have hin : ∀ (q : Int32), (0 ≤ q ∧ q ≤ 5) → vp_in (nI (6 * j) + q) (gL g) := law_in h6 hL
      have hj : j < 512 := by omega
      have k : ∀ s2, Inv (j + 1) s2 → PW g l room_1 (M_L_law nm) (FL g) 1454 [(3, .int (nI (6 * j))), (2, .ref 193), (1, .ref 0), (0, .float 0)] [] (tS s2) 242 KS := by
        intro s2 h3
        refine PW.iinc (v := nI (6 * (j + 1))) 0 dL_law_1454 rfl (law_inc j) (Nat.le_of_ble_eq_true rfl) rfl ?_
        refine PW.goto (tgt := 18) dL_law_1457 (by decide) ?_
        exact ih (j + 1) s2 (by omega) (by omega) h3
      refine PW.aload_n 3 0 dL_law_27 rfl rfl rfl ?_
      refine PW.iload_n 0 3 dL_law_28 rfl rfl ?_
      refine PW.sload (v := gx g (nI (6 * j)).toNatClampNeg) dL_law_29 (law_in0 h6 hL) rfl ?_
      refine PW.bipush (v := 63) dL_law_30 (by decide) ?_
      refine PW.iand dL_law_32 ?_
      generalize gx g (nI (6 * j)).toNatClampNeg &&& 63 = y
      by_cases c_0 : y = 0
      · exact PW.tswI (off := 147) (tgt := 180) dL_law_33 (by rw [c_0]; decide) (by rw [c_0]; decide) (by rw [c_0]; first | rfl | decide) (by decide) (case_corner (H.1) hj hI hin k)
      by_cases c_1 : y = 1
      · exact PW.tswI (off := 200) (tgt := 233) dL_law_33 (by rw [c_1]; decide) (by rw [c_1]; decide) (by rw [c_1]; first | rfl | decide) (by decide) (case_life (H.2.1) hj hI hin k)
      by_cases c_2 : y = 2
      · exact PW.tswI (off := 243) (tgt := 276) dL_law_33 (by rw [c_2]; decide) (by rw [c_2]; decide) (by rw [c_2]; first | rfl | decide) (by decide) (case_feed (H.2.2.1) hj hI hin k)
      by_cases c_3 : y = 3
      · exact PW.tswI (off := 306) (tgt := 339) dL_law_33 (by rw [c_3]; decide) (by rw [c_3]; decide) (by rw [c_3]; first | rfl | decide) (by decide) (case_law (H.2.2.2.1) hj hI hin k)
      by_cases c_4 : y = 4
      · exact PW.tswI (off := 329) (tgt := 362) dL_law_33 (by rw [c_4]; decide) (by rw [c_4]; decide) (by rw [c_4]; first | rfl | decide) (by decide) (case_program (H.2.2.2.2.1) hj hI hin k)
      by_cases c_5 : y = 5
      · exact PW.tswI (off := 362) (tgt := 395) dL_law_33 (by rw [c_5]; decide) (by rw [c_5]; decide) (by rw [c_5]; first | rfl | decide) (by decide) (case_pull (H.2.2.2.2.2.1) hj hI hin k)
      by_cases c_6 : y = 6
      · exact PW.tswI (off := 405) (tgt := 438) dL_law_33 (by rw [c_6]; decide) (by rw [c_6]; decide) (by rw [c_6]; first | rfl | decide) (by decide) (case_hull (H.2.2.2.2.2.2.1) hj hI hin k)
      by_cases c_7 : y = 7
      · exact PW.tswI (off := 428) (tgt := 461) dL_law_33 (by rw [c_7]; decide) (by rw [c_7]; decide) (by rw [c_7]; first | rfl | decide) (by decide) (case_flown (H.2.2.2.2.2.2.2.1) hj hI hin k)
      by_cases c_8 : y = 8
      · exact PW.tswI (off := 471) (tgt := 504) dL_law_33 (by rw [c_8]; decide) (by rw [c_8]; decide) (by rw [c_8]; first | rfl | decide) (by decide) (case_hullIs (H.2.2.2.2.2.2.2.2.1) hj hI hin k)
      by_cases c_9 : y = 9
      · exact PW.tswI (off := 504) (tgt := 537) dL_law_33 (by rw [c_9]; decide) (by rw [c_9]; decide) (by rw [c_9]; first | rfl | decide) (by decide) (case_cornerIs (H.2.2.2.2.2.2.2.2.2.1) hj hI hin k)
      by_cases c_10 : y = 10
      · exact PW.tswI (off := 547) (tgt := 580) dL_law_33 (by rw [c_10]; decide) (by rw [c_10]; decide) (by rw [c_10]; first | rfl | decide) (by decide) (case_runs (H.2.2.2.2.2.2.2.2.2.2.1) hj hI hin k)
      by_cases c_11 : y = 11
      · exact PW.tswI (off := 600) (tgt := 633) dL_law_33 (by rw [c_11]; decide) (by rw [c_11]; decide) (by rw [c_11]; first | rfl | decide) (by decide) (case_odds (H.2.2.2.2.2.2.2.2.2.2.2.1) hj hI hin k)
      by_cases c_12 : y = 12
      · exact PW.tswI (off := 654) (tgt := 687) dL_law_33 (by rw [c_12]; decide) (by rw [c_12]; decide) (by rw [c_12]; first | rfl | decide) (by decide) (case_left (H.2.2.2.2.2.2.2.2.2.2.2.2.1) hj hI hin k)
      by_cases c_13 : y = 13
      · exact PW.tswI (off := 708) (tgt := 741) dL_law_33 (by rw [c_13]; decide) (by rw [c_13]; decide) (by rw [c_13]; first | rfl | decide) (by decide) (case_likely (H.2.2.2.2.2.2.2.2.2.2.2.2.2.1) hj hI hin k)
      by_cases c_14 : y = 14
      · exact PW.tswI (off := 761) (tgt := 794) dL_law_33 (by rw [c_14]; decide) (by rw [c_14]; decide) (by rw [c_14]; first | rfl | decide) (by decide) (case_off (H.2.2.2.2.2.2.2.2.2.2.2.2.2.2.1) hj hI hin k)
      by_cases c_15 : y = 15
      · exact PW.tswI (off := 804) (tgt := 837) dL_law_33 (by rw [c_15]; decide) (by rw [c_15]; decide) (by rw [c_15]; first | rfl | decide) (by decide) (case_trial (H.2.2.2.2.2.2.2.2.2.2.2.2.2.2.2.1) hj hI hin k)
      by_cases c_16 : y = 16
      · exact PW.tswI (off := 867) (tgt := 900) dL_law_33 (by rw [c_16]; decide) (by rw [c_16]; decide) (by rw [c_16]; first | rfl | decide) (by decide) (case_says (H.2.2.2.2.2.2.2.2.2.2.2.2.2.2.2.2.1) hj hI hin k)
      by_cases c_17 : y = 17
      · exact PW.tswI (off := 901) (tgt := 934) dL_law_33 (by rw [c_17]; decide) (by rw [c_17]; decide) (by rw [c_17]; first | rfl | decide) (by decide) (case_cheapest (H.2.2.2.2.2.2.2.2.2.2.2.2.2.2.2.2.2.1) hj hI hin k)
      by_cases c_18 : y = 18
      · exact PW.tswI (off := 924) (tgt := 957) dL_law_33 (by rw [c_18]; decide) (by rw [c_18]; decide) (by rw [c_18]; first | rfl | decide) (by decide) (case_story (H.2.2.2.2.2.2.2.2.2.2.2.2.2.2.2.2.2.2.1) hj hI hin k)
      by_cases c_19 : y = 19
      · exact PW.tswI (off := 947) (tgt := 980) dL_law_33 (by rw [c_19]; decide) (by rw [c_19]; decide) (by rw [c_19]; first | rfl | decide) (by decide) (case_find (H.2.2.2.2.2.2.2.2.2.2.2.2.2.2.2.2.2.2.2.1) hj hI hin k)
      by_cases c_20 : y = 20
      · exact PW.tswI (off := 960) (tgt := 993) dL_law_33 (by rw [c_20]; decide) (by rw [c_20]; decide) (by rw [c_20]; first | rfl | decide) (by decide) (case_tells (H.2.2.2.2.2.2.2.2.2.2.2.2.2.2.2.2.2.2.2.2.1) hj hI hin k)
      by_cases c_21 : y = 21
      · exact PW.tswI (off := 1003) (tgt := 1036) dL_law_33 (by rw [c_21]; decide) (by rw [c_21]; decide) (by rw [c_21]; first | rfl | decide) (by decide) (case_seen (H.2.2.2.2.2.2.2.2.2.2.2.2.2.2.2.2.2.2.2.2.2.1) hj hI hin k)
      by_cases c_22 : y = 22
      · exact PW.tswI (off := 1036) (tgt := 1069) dL_law_33 (by rw [c_22]; decide) (by rw [c_22]; decide) (by rw [c_22]; first | rfl | decide) (by decide) (case_weighs (H.2.2.2.2.2.2.2.2.2.2.2.2.2.2.2.2.2.2.2.2.2.2.1) hj hI hin k)
      by_cases c_23 : y = 23
      · exact PW.tswI (off := 1060) (tgt := 1093) dL_law_33 (by rw [c_23]; decide) (by rw [c_23]; decide) (by rw [c_23]; first | rfl | decide) (by decide) (case_moves (H.2.2.2.2.2.2.2.2.2.2.2.2.2.2.2.2.2.2.2.2.2.2.2.1) hj hI hin k)
      by_cases c_24 : y = 24
      · exact PW.tswI (off := 1073) (tgt := 1106) dL_law_33 (by rw [c_24]; decide) (by rw [c_24]; decide) (by rw [c_24]; first | rfl | decide) (by decide) (case_wind (H.2.2.2.2.2.2.2.2.2.2.2.2.2.2.2.2.2.2.2.2.2.2.2.2.1) hj hI hin k)
      by_cases c_25 : y = 25
      · exact PW.tswI (off := 1116) (tgt := 1149) dL_law_33 (by rw [c_25]; decide) (by rw [c_25]; decide) (by rw [c_25]; first | rfl | decide) (by decide) (case_lies (H.2.2.2.2.2.2.2.2.2.2.2.2.2.2.2.2.2.2.2.2.2.2.2.2.2.1) hj hI hin k)
      by_cases c_26 : y = 26
      · exact PW.tswI (off := 1149) (tgt := 1182) dL_law_33 (by rw [c_26]; decide) (by rw [c_26]; decide) (by rw [c_26]; first | rfl | decide) (by decide) (case_span (H.2.2.2.2.2.2.2.2.2.2.2.2.2.2.2.2.2.2.2.2.2.2.2.2.2.2.1) hj hI hin k)
      by_cases c_27 : y = 27
      · exact PW.tswI (off := 1182) (tgt := 1215) dL_law_33 (by rw [c_27]; decide) (by rw [c_27]; decide) (by rw [c_27]; first | rfl | decide) (by decide) (case_order (H.2.2.2.2.2.2.2.2.2.2.2.2.2.2.2.2.2.2.2.2.2.2.2.2.2.2.2.1) hj hI hin k)
      by_cases c_28 : y = 28
      · exact PW.tswI (off := 1215) (tgt := 1248) dL_law_33 (by rw [c_28]; decide) (by rw [c_28]; decide) (by rw [c_28]; first | rfl | decide) (by decide) (case_cell (H.2.2.2.2.2.2.2.2.2.2.2.2.2.2.2.2.2.2.2.2.2.2.2.2.2.2.2.2.1) hj hI hin k)
      by_cases c_29 : y = 29
      · exact PW.tswI (off := 1258) (tgt := 1291) dL_law_33 (by rw [c_29]; decide) (by rw [c_29]; decide) (by rw [c_29]; first | rfl | decide) (by decide) (case_nets (H.2.2.2.2.2.2.2.2.2.2.2.2.2.2.2.2.2.2.2.2.2.2.2.2.2.2.2.2.2.1) hj hI hin k)
      by_cases c_30 : y = 30
      · exact PW.tswI (off := 1302) (tgt := 1335) dL_law_33 (by rw [c_30]; decide) (by rw [c_30]; decide) (by rw [c_30]; first | rfl | decide) (by decide) (case_fly (H.2.2.2.2.2.2.2.2.2.2.2.2.2.2.2.2.2.2.2.2.2.2.2.2.2.2.2.2.2.2.1) hj hI hin k)
      by_cases c_31 : y = 31
      · exact PW.tswI (off := 1365) (tgt := 1398) dL_law_33 (by rw [c_31]; decide) (by rw [c_31]; decide) (by rw [c_31]; first | rfl | decide) (by decide) (case_check (H.2.2.2.2.2.2.2.2.2.2.2.2.2.2.2.2.2.2.2.2.2.2.2.2.2.2.2.2.2.2.2.1) hj hI hin k)
      by_cases c_32 : y = 32
      · exact PW.tswI (off := 1398) (tgt := 1431) dL_law_33 (by rw [c_32]; decide) (by rw [c_32]; decide) (by rw [c_32]; first | rfl | decide) (by decide) (case_count (H.2.2.2.2.2.2.2.2.2.2.2.2.2.2.2.2.2.2.2.2.2.2.2.2.2.2.2.2.2.2.2.2) hj hI hin k)
      have hout : y.toInt < 0 ∨ 32 < y.toInt := sw_out (fun q h1 h2 e => by
        have hq : q = 0 ∨ q = 1 ∨ q = 2 ∨ q = 3 ∨ q = 4 ∨ q = 5 ∨ q = 6 ∨ q = 7 ∨ q = 8 ∨ q = 9 ∨ q = 10 ∨ q = 11 ∨ q = 12 ∨ q = 13 ∨ q = 14 ∨ q = 15 ∨ q = 16 ∨ q = 17 ∨ q = 18 ∨ q = 19 ∨ q = 20 ∨ q = 21 ∨ q = 22 ∨ q = 23 ∨ q = 24 ∨ q = 25 ∨ q = 26 ∨ q = 27 ∨ q = 28 ∨ q = 29 ∨ q = 30 ∨ q = 31 ∨ q = 32 := by omega
        rcases hq with rfl | rfl | rfl | rfl | rfl | rfl | rfl | rfl | rfl | rfl | rfl | rfl | rfl | rfl | rfl | rfl | rfl | rfl | rfl | rfl | rfl | rfl | rfl | rfl | rfl | rfl | rfl | rfl | rfl | rfl | rfl | rfl | rfl
        · exact c_0 (sw_c e (by decide))
        · exact c_1 (sw_c e (by decide))
        · exact c_2 (sw_c e (by decide))
        · exact c_3 (sw_c e (by decide))
        · exact c_4 (sw_c e (by decide))
        · exact c_5 (sw_c e (by decide))
        · exact c_6 (sw_c e (by decide))
        · exact c_7 (sw_c e (by decide))
        · exact c_8 (sw_c e (by decide))
        · exact c_9 (sw_c e (by decide))
        · exact c_10 (sw_c e (by decide))
        · exact c_11 (sw_c e (by decide))
        · exact c_12 (sw_c e (by decide))
        · exact c_13 (sw_c e (by decide))
        · exact c_14 (sw_c e (by decide))
        · exact c_15 (sw_c e (by decide))
        · exact c_16 (sw_c e (by decide))
        · exact c_17 (sw_c e (by decide))
        · exact c_18 (sw_c e (by decide))
        · exact c_19 (sw_c e (by decide))
        · exact c_20 (sw_c e (by decide))
        · exact c_21 (sw_c e (by decide))
        · exact c_22 (sw_c e (by decide))
        · exact c_23 (sw_c e (by decide))
        · exact c_24 (sw_c e (by decide))
        · exact c_25 (sw_c e (by decide))
        · exact c_26 (sw_c e (by decide))
        · exact c_27 (sw_c e (by decide))
        · exact c_28 (sw_c e (by decide))
        · exact c_29 (sw_c e (by decide))
        · exact c_30 (sw_c e (by decide))
        · exact c_31 (sw_c e (by decide))
        · exact c_32 (sw_c e (by decide)))
      exact PW.tswD (tgt := 1454) dL_law_33 hout (by decide) (k s (hUp j s hI))
