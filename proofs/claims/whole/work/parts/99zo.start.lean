/-! the claim out of the walk of the law's body (what stands here but whole_start is the printed form) -/
def lw_P (b : Addr) (xs : List Int32) (args : Array Value) (s : State) : Prop := args = #[.ref b] ∧ s.IntsAt b xs ∧ xs.length ≤ 3072 ∧ (Jvm.Cond.and given_1 narrow_1).before args s = true
def lw_Q (_ : Array Value) (s : State) (o : Outcome) (t : State) : Prop := o = .returned (some (.int 1)) ∧ Framed s o t [] 600000 7302250
def lw_Z (below : List Frame) (a : Array Value) (s : State) : State → Prop := fun t => ∃ o, t.status = .running ∧ Ended t below o ∧ lw_Q a s o t
/-- the law's own end, with 1 on the stack, nothing written that was there before, its room as the claim has it -/
theorem lw_ret {p : Program} {l : Launch} {e : Env} {s : State} {m : MethodId} {below : List Frame} {meth : Method} {c : Code} {b : Nat} (hx : p.tables.exec = Jvm.exec) (hb : c.code = code) (hr : meth.sig.returnType = ret) (hlocks : meth.locks = false) {pc : Nat} {H : Heap} {ls : Array Slot} (hdg : decode code pc = .ok (.ireturn, 1)) : W p l e room_1 s m #[Value.ref b] below meth c H [] 600000 7302250 (lw_Z below #[Value.ref b] s) (F0 m pc ls [.int 1]) := by
  intro T hT X
  obtain ⟨fs, hret, hrun, hended, hW, hframe⟩ := X.leave (v := some (.int 1)) (hlocks := hlocks) (fun h => by rw [hr] at h; cases h)
  have hmeth' : T.vm.method? m = some meth := X.method'
  refine ⟨T.setFrames fs, ?_, .returned (some (.int 1)), hrun, hended, rfl, ⟨_, rfl⟩, hW, hframe⟩
  jvm_step X.here [X.here.top, hx, hb, hdg, hmeth', hr, ret, narrow_b1]
  (try refine ⟨rfl, ?_⟩); (try refine ⟨rfl, ?_⟩)
  first | (intro acts; rw [hret _ acts rfl rfl rfl]) | rw [hret _ _ rfl rfl rfl]
  exact Steps.refl _
/-- what holds at the law's entry: the machine, the code, the tables' words (any of lw_tbl by 'hts w (by decide +kernel)'), the script of L ints xs at the cell b, what the Statement gives of the start (any of its parts by flat_of_before) -/
def lw_At (p : Program) (s : State) (m : MethodId) (meth : Method) (c : Code) (b L : Nat) (xs : Nat → Int32) : Prop :=
  p.tables.exec = Jvm.exec ∧ c.code = code ∧ meth.sig.returnType = ret ∧ c.maxLocals = 4 ∧ s.vm.findClass R_law = some m.cls ∧ (∀ w ∈ lw_tbl, w.before #[Value.ref b] s = true) ∧ va_X b L xs s s.heap ∧ b < s.heap.size ∧ meth.locks = false ∧ (Jvm.Cond.and given_1 narrow_1).before #[Value.ref b] s = true ∧ meth.name = x.name ∧ (Jvm.Cond.code x code maxLocals ret).before #[Value.ref b] s = true
set_option maxRecDepth 100000 in
theorem nt_code : (am_kd 308).2.1 = code := rfl
set_option maxRecDepth 100000 in
theorem nt_name : (am_kd 308).1 = x := rfl
set_option maxRecDepth 100000 in
theorem nt_ml : am_ml 308 = 4 := rfl
set_option maxRecDepth 100000 in
theorem nt_rt : am_rt 308 = ret := rfl
set_option maxRecDepth 100000 in
theorem nt_cm : am_cm 308 = Jvm.Cond.code x code maxLocals ret := rfl
theorem nt_end {i : Instr} {st : List Value} (h : am_end (am_rt 308) i st = some (some (.int 1))) : i = .ireturn ∧ st = [.int 1] := by
  rw [nt_rt] at h
  cases i with
  | ireturn =>
    unfold am_end ret at h
    simp only at h
    split at h
    · split at h
      · cases h; exact ⟨rfl, rfl⟩
      · cases h
    · cases h
  | return_ =>
    exfalso
    unfold am_end ret at h
    simp at h
  | lreturn =>
    exfalso
    unfold am_end ret at h
    simp at h
  | areturn =>
    exfalso
    unfold am_end ret at h
    simp at h
  | _ => cases h
/-- from the entry, for every script of at most 3072 ints, the law comes to its end with true -/
theorem whole_start (G : am_good) {p : Program} {e : Env} {s : State} {m : MethodId} {below : List Frame} {meth : Method} {c : Code} (l : Launch) {b L : Nat} {xs : Nat → Int32} (hL : L ≤ 3072) (C0 : lw_At p s m meth c b L xs) : W p l e room_1 s m #[Value.ref b] below meth c s.heap [] 0 0 (lw_Z below #[Value.ref b] s) (entryFrame m ([Value.ref b] : List Value).toArray 4) := by
  obtain ⟨hx, hb, hr, hml, hown, hts, hX, hbl, hlocks, hgv, hname, hcode⟩ := id C0
  obtain ⟨X, e1, e2, e3, KS⟩ := nt_K hts hgv hX hbl
  obtain ⟨n, σ2, hrun⟩ := law_run (S := xS X) (by rw [e3]; exact hL)
  have hF : am_hF X := KS.2.2.2.2.2.2.2.1
  have hvs : ([.retAddr 1000] : List Value).map (am_tv X) = [.ref b] := by rw [← e2]; rfl
  have hsl : (am_sl [.retAddr 1000]).length ≤ am_ml 308 := by decide +kernel
  have hLR : am_LR X (am_in 308 [.retAddr 1000]) ((lg_sl ([.ref b] : List Value) ++ List.replicate (4 - (lg_sl ([.ref b] : List Value)).length) Slot.unset).toArray) (am_ml 308) := by
    have h := am_in_LR hF (m := 308) hsl
    rw [hvs, nt_ml] at h
    rw [nt_ml]
    exact h
  have hP : va_P (xD X) am_vcl (am_ws X []) s.heap := fun k q h => by simp [am_ws] at h
  have hts2 : ∀ w ∈ am_cm 308 :: am_gd, w.before #[Value.ref b] s = true := fun w hw => by
    rcases List.mem_cons.mp hw with rfl | h
    · rw [nt_cm]; exact hcode
    · exact hts w (List.mem_filter.mp h).1
  rw [lg_entry_eq]
  refine am_walk (p := p) (l := l) (e := e) (R := room_1) (s := s) (mi := m) (args := #[Value.ref b]) (below := below) (meth := meth) (c := c) (Q := lw_Z below #[Value.ref b] s) (X := X) G (d := 111) (fun d1 _ => am_met G X l d1) (m := 308) (by omega) hx (by rw [nt_code]; exact hb) (by rw [nt_ml]; exact hml) (by rw [nt_name]; exact hown) (by rw [nt_name]; exact hname) hts2 KS (Nat.le_of_ble_eq_true rfl) (Nat.le_of_ble_eq_true rfl) (r := some (.int 1)) (M1 := bm_mk σ2) (cellsE := 238) (slotsE := am_sz bm_ly) (Nat.le_of_ble_eq_true rfl) nt_room (fun pc1 ls1 st1 H1 locs1 i hdec hend g1 g2 g3 => ?_)
    n 0 (am_in 308 [.retAddr 1000]) [] [] s.heap [] 0 0 _ hrun hLR hP e1.symm va_S.rf (by rw [nt_mklen] <;> rfl) (by rw [nt_mksz, show am_sz [] = 0 from rfl, Nat.sub_zero, Nat.zero_add])
  obtain ⟨rfl, rfl⟩ := nt_end hend
  refine va_forget (fun q hq => ?_) ?_
  · rw [← e1]
    exact g3.2.2 q hq
  · refine W.widen (k := 600000) (n := 7302250) (Nat.le_of_ble_eq_true rfl) nt_room ?_
    exact lw_ret hx hb hr hlocks (by rw [nt_code] at hdec; exact hdec)
