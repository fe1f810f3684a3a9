section MLOOP
variable {S : am_S} {d : Nat} {σ : bm_S} {T : Nat → Int32} {n K : Nat} {g r R : Nat → Int32} {C : List Int32}
theorem m189 (h : tx T n σ) (hK : tkK (qN T n) K) (hKn : K ≤ n) {i : Nat} (k : RK K i R C) (hq : ¬ qN T n i = 21) (m : MT T n i g) (c : CD C r) (hr : RLo R r) : ∃ g1 r1, bm_call S (d + 41) 189 [.ref 218] (st2 σ g r) = some (none, st2 σ g1 r1) ∧ FH g g1 ∧ LNO T n (lnz (qN T n) (vN T n) K i R C) g1 r1 := by
  have e11 : ∀ g r, (st2 σ g r).1 218 11 = g 11 := fun g r => by rw [s2_16]
  have e9 : ∀ g r, (st2 σ g r).1 218 9 = g 9 := fun g r => by rw [s2_16]
  have kv : krT 2 = 2 ∧ krT 3 = 3 ∧ krT 8 = 8 ∧ krT 9 = 9 ∧ krT 10 = 10 := by decide +kernel
  obtain ⟨v2, v3, v8, v9, v10⟩ := kv
  have z := m.1
  have k9 := m.2.1
  obtain ⟨⟨M, hM, eM⟩, ⟨L, hL, eL⟩, hC, hi⟩ := k
  have iK := lt_K hK hi hq
  have cM : cN (R 3) = M := by rw [eM]; exact cN_nI (by omega)
  have cL : cN (R 25) = L := by rw [eL]; exact cN_nI (by omega)
  have yes : ∀ w, qN T n i = w → bm_call S (d + 40) 173 [.ref 218, .int (krT w)] (st2 σ g r) = some (some (.int 1), st2 σ g r) := fun w hw => ye_173 m hw
  have no : ∀ w, w < 35 → ¬ qN T n i = w → bm_call S (d + 40) 173 [.ref 218, .int (krT w)] (st2 σ g r) = some (some (.int 0), st2 σ g r) := fun w hw a => no_173 m hw a
  unfold lnz
  rw [cM, cL]
  by_cases a2 : qN T n i = 2
  · have y := yes 2 a2
    rw [v2] at y
    obtain ⟨g1, r1, k1, f1, o1⟩ := m186 (S := S) (d := d + 32) (C := C) h hM m (by rw [a2]; decide) c hr eM
    rw [if_pos a2]
    refine ⟨g1, r1, ?_, f1.h, o1⟩
    simp (decide := true) only [e189, g189_0, g189_8, g189_13, g189_16, g189_20, g189_102, bm_run_ite, Option.toList_some, Option.bind_some, Option.toList_some, Option.toList_none, List.cons_append, List.nil_append, List.append_nil, eq_self, not_true_eq_false, not_false_eq_true, ite_true, ite_false, ↓reduceIte, Nat.reduceLT, Nat.reduceEqDiff, Nat.reduceAdd, or_true, true_or, or_false, false_or, e11, z, y, k1]
  rw [if_neg a2]
  have n2 := no 2 (by decide) a2
  rw [v2] at n2
  by_cases a3 : qN T n i = 3
  · have y := yes 3 a3
    rw [v3] at y
    obtain ⟨g1, r1, k1, f1, o1⟩ := m187 (S := S) (d := d + 32) (C := C) h hM hL m (by rw [a3]; decide) c hr eM eL
    rw [if_pos a3]
    refine ⟨g1, r1, ?_, f1.h, o1⟩
    simp (decide := true) only [e189, g189_0, g189_8, g189_13, g189_23, g189_28, g189_31, g189_35, g189_102, bm_run_ite, Option.toList_some, Option.bind_some, Option.toList_some, Option.toList_none, List.cons_append, List.nil_append, List.append_nil, eq_self, not_true_eq_false, not_false_eq_true, ite_true, ite_false, ↓reduceIte, Nat.reduceLT, Nat.reduceEqDiff, Nat.reduceAdd, or_true, true_or, or_false, false_or, e11, z, n2, y, k1]
  rw [if_neg a3]
  have n3 := no 3 (by decide) a3
  rw [v3] at n3
  by_cases a8 : qN T n i = 8
  · have y := yes 8 a8
    rw [v8] at y
    obtain ⟨g1, r1, k1, f1, o1⟩ := m188 (S := S) (d := d) (C := C) h hK hKn false iK hC m c hr
    have e0 : g 9 - 8 = bI false := by rw [k9, a8, v8]; decide
    rw [if_pos a8]
    refine ⟨g1, r1, ?_, f1, o1⟩
    simp (decide := true) only [e189, g189_0, g189_8, g189_13, g189_23, g189_28, g189_38, g189_44, g189_56, g189_67, g189_102, bm_run_ite, Option.toList_some, Option.bind_some, Option.toList_some, Option.toList_none, List.cons_append, List.nil_append, List.append_nil, eq_self, not_true_eq_false, not_false_eq_true, ite_true, ite_false, ↓reduceIte, Nat.reduceLT, Nat.reduceEqDiff, Nat.reduceAdd, or_true, true_or, or_false, false_or, e11, z, n2, n3, y, e9, e0, k1]
  rw [if_neg a8]
  have n8 := no 8 (by decide) a8
  rw [v8] at n8
  by_cases a9 : qN T n i = 9
  · have y := yes 9 a9
    rw [v9] at y
    obtain ⟨g1, r1, k1, f1, o1⟩ := m188 (S := S) (d := d) (C := C) h hK hKn true iK hC m c hr
    have e0 : g 9 - 8 = bI true := by rw [k9, a9, v9]; decide
    rw [if_pos a9]
    refine ⟨g1, r1, ?_, f1, o1⟩
    simp (decide := true) only [e189, g189_0, g189_8, g189_13, g189_23, g189_28, g189_38, g189_44, g189_47, g189_53, g189_56, g189_67, g189_102, bm_run_ite, Option.toList_some, Option.bind_some, Option.toList_some, Option.toList_none, List.cons_append, List.nil_append, List.append_nil, eq_self, not_true_eq_false, not_false_eq_true, ite_true, ite_false, ↓reduceIte, Nat.reduceLT, Nat.reduceEqDiff, Nat.reduceAdd, or_true, true_or, or_false, false_or, e11, z, n2, n3, n8, y, e9, e0, k1]
  rw [if_neg a9]
  have n9 := no 9 (by decide) a9
  rw [v9] at n9
  by_cases a10 : qN T n i = 10
  · obtain ⟨g1, k1, m1, f1⟩ := m174y (S := S) (d := d + 33) (r := r) h m (w := 10) (by decide) a10
    rw [v10] at k1
    obtain ⟨w, g2, k2, m2, f2, hw⟩ := mnm (S := S) (d := d + 33) (r := r) h (lo := 0) (hi := 999) (x := Sum.inl (i + 1)) m1
    rw [if_pos a10]
    have run : bm_call S (d + 41) 189 [.ref 218] (st2 σ g r) = some (none, st2 σ g2 (upd r 22 w)) := by
      simp (decide := true) only [e189, g189_0, g189_8, g189_13, g189_23, g189_28, g189_38, g189_44, g189_47, g189_53, g189_70, g189_76, g189_79, g189_93, g189_102, bm_run_ite, Option.toList_some, Option.bind_some, Option.toList_some, Option.toList_none, List.cons_append, List.nil_append, List.append_nil, eq_self, not_true_eq_false, not_false_eq_true, ite_true, ite_false, ↓reduceIte, Nat.reduceLT, Nat.reduceEqDiff, Nat.reduceAdd, or_true, true_or, or_false, false_or, e11, z, n2, n3, n8, n9, k1, k2, s2_wr]
      rfl
    refine ⟨g2, upd r 22 w, run, (f1.tr f2).h, ?_⟩
    unfold frz
    cases hx : nmx (qN T n) (vN T n) 0 999 (Sum.inl (i + 1)) with
    | inl j =>
      rw [hx] at m2
      have ew := hw j hx
      rw [ew]
      exact ⟨m2, c.up (by omega) _, hr.up _ _⟩
    | inr e =>
      obtain ⟨w2, j⟩ := e
      rw [hx] at m2
      exact m2
  · have k1 := m174n (S := S) (d := d + 39) (σ := σ) (r := r) (not_k m (w := 10) (by decide) a10)
    rw [v10] at k1
    obtain ⟨g2, k2, m2, f2⟩ := m172t (S := S) (d := d + 40) (σ := σ) (r := r) m (w := 2) (by decide)
    rw [if_neg a10]
    refine ⟨g2, r, ?_, f2.h, m2⟩
    simp (decide := true) only [e189, g189_0, g189_8, g189_13, g189_23, g189_28, g189_38, g189_44, g189_47, g189_53, g189_70, g189_76, g189_97, g189_102, bm_run_ite, Option.toList_some, Option.bind_some, Option.toList_some, Option.toList_none, List.cons_append, List.nil_append, List.append_nil, eq_self, not_true_eq_false, not_false_eq_true, ite_true, ite_false, ↓reduceIte, Nat.reduceLT, Nat.reduceEqDiff, Nat.reduceAdd, or_true, true_or, or_false, false_or, e11, z, n2, n3, n8, n9, k1, k2]
theorem m190 (h : tx T n σ) {x : lnR} (m : LNO T n x g r) : ∃ g1 r1, bm_call S (d + 8) 190 [.ref 218] (st2 σ g r) = some (none, st2 σ g1 r1) ∧ FH g g1 ∧ LNO T n (edz (qN T n) x) g1 r1 := by
  have v23 : krT 23 = 30 := by decide +kernel
  have e0 : ∀ g r, (st2 σ g r).1 222 0 = r 0 := fun g r => by rw [s2_20]
  rcases x with ⟨j, R, C⟩ | ⟨w, j⟩
  · obtain ⟨m1, m2, m3⟩ := m
    show ∃ g1 r1, _ ∧ _ ∧ LNO T n (if qN T n j = 23 then Sum.inl (j + 1, upd R 0 (R 0 + 1), C) else Sum.inr (if qN T n j = 22 then 1 else 2, j)) g1 r1
    by_cases q : qN T n j = 23
    · obtain ⟨g1, k1, y1, f1⟩ := m174y (S := S) (d := d) (r := r) h m1 (w := 23) (by decide) q
      rw [v23] at k1
      rw [if_pos q]
      refine ⟨g1, upd r 0 (r 0 + 1), ?_, f1.h, y1, m2.up (by omega) _, ?_⟩
      · simp (decide := true) only [e190, g190_0, g190_6, g190_14, bm_run_ite, Option.toList_some, Option.bind_some, Option.toList_some, Option.toList_none, List.cons_append, List.nil_append, List.append_nil, eq_self, not_true_eq_false, not_false_eq_true, ite_true, ite_false, ↓reduceIte, Nat.reduceLT, Nat.reduceEqDiff, Nat.reduceAdd, or_true, true_or, or_false, false_or, k1, e0, s2_wr]
      · have : r 0 = R 0 := m3 0 (by omega)
        rw [this]
        exact m3.up _ _
    · have k1 := m174n (S := S) (d := d + 6) (σ := σ) (r := r) (not_k m1 (w := 23) (by decide) q)
      rw [v23] at k1
      obtain ⟨g2, k2, y2, f2⟩ := m172t (S := S) (d := d + 7) (σ := σ) (r := r) m1 (w := 2) (by decide)
      rw [if_neg q]
      refine ⟨g2, upd r 0 (r 0 + 1), ?_, f2.h, y2⟩
      simp (decide := true) only [e190, g190_0, g190_6, g190_9, g190_14, bm_run_ite, Option.toList_some, Option.bind_some, Option.toList_some, Option.toList_none, List.cons_append, List.nil_append, List.append_nil, eq_self, not_true_eq_false, not_false_eq_true, ite_true, ite_false, ↓reduceIte, Nat.reduceLT, Nat.reduceEqDiff, Nat.reduceAdd, or_true, true_or, or_false, false_or, k1, k2, e0, s2_wr]
  · have n0 : ¬ g 11 = 0 := MF.n0 (show MF T n w j g from m)
    refine ⟨g, upd r 0 (r 0 + 1), ?_, FH.rfl g, m⟩
    simp (decide := true) only [e190, g190_0, g190_6, g190_9, g190_14, bm_run_ite, Option.toList_some, Option.bind_some, Option.toList_some, Option.toList_none, List.cons_append, List.nil_append, List.append_nil, eq_self, not_true_eq_false, not_false_eq_true, ite_true, ite_false, ↓reduceIte, Nat.reduceLT, Nat.reduceEqDiff, Nat.reduceAdd, or_true, true_or, or_false, false_or, m174e (S := S) (d := d + 6) (σ := σ) (r := r) n0 30, m172e (S := S) (d := d + 7) (σ := σ) (r := r) n0 2, e0, s2_wr]
/-- the reference reads line by line -/
theorem m191l (h : tx T n σ) (hK : tkK (qN T n) K) (hKn : K ≤ n) {o1 : Option Value} : ∀ f i R C g r, K + 1 ≤ i + f → RK K i R C → MT T n i g → CD C r → RLo R r → ∃ g1 r1, bm_run S (d + 42) 191 108 [some (.ref 218), o1, none] [] (st2 σ g r) = bm_run S (d + 42) 191 135 [some (.ref 218), o1, none] [] (st2 σ g1 r1) ∧ FH g g1 ∧ LNO T n (lsz (qN T n) (vN T n) K f i R C) g1 r1 := by
  have e11 : ∀ g r, (st2 σ g r).1 218 11 = g 11 := fun g r => by rw [s2_16]
  have e9 : ∀ g r, (st2 σ g r).1 218 9 = g 9 := fun g r => by rw [s2_16]
  have v21 : krT 21 = 24 := by decide +kernel
  intro f
  induction f with
  | zero => intro i R C g r hf k; have := k.2.2.2; omega
  | succ f ih =>
    intro i R C g r hf k m c hr
    have z := m.1
    have k9 := m.2.1
    rw [lsz]
    by_cases q : qN T n i = 21
    · have e24 : g 9 = 24 := by rw [k9, q, v21]
      rw [if_pos q]
      refine ⟨g, r, ?_, FH.rfl g, m, c, hr⟩
      rw [g191_108]
      simp (decide := true) only [bm_run_ite, Option.toList_some, Option.bind_some, Option.toList_some, Option.toList_none, List.cons_append, List.nil_append, List.append_nil, eq_self, not_true_eq_false, not_false_eq_true, ite_true, ite_false, ↓reduceIte, Nat.reduceLT, Nat.reduceEqDiff, Nat.reduceAdd, or_true, true_or, or_false, false_or, e11, z, g191_115, e9, e24]
    · have e24 : ¬ g 9 = 24 := by rw [k9, ← v21]; exact fun y => q ((kr_inj _ q_lt 21 (by decide)).mp y)
      rw [if_neg q]
      obtain ⟨g1, r1, k1, f1, ox⟩ := m189 (S := S) (d := d) h hK hKn k q m c hr
      obtain ⟨g2, r2, k2, f2, o2⟩ := m190 (S := S) (d := d + 33) h ox
      have st : bm_run S (d + 42) 191 108 [some (.ref 218), o1, none] [] (st2 σ g r) = bm_run S (d + 42) 191 108 [some (.ref 218), o1, none] [] (st2 σ g2 r2) := by
        rw [g191_108]
        simp (decide := true) only [bm_run_ite, Option.toList_some, Option.bind_some, Option.toList_some, Option.toList_none, List.cons_append, List.nil_append, List.append_nil, eq_self, not_true_eq_false, not_false_eq_true, ite_true, ite_false, ↓reduceIte, Nat.reduceLT, Nat.reduceEqDiff, Nat.reduceAdd, or_true, true_or, or_false, false_or, e11, z, g191_115, e9, e24, g191_124, k1, g191_128, k2, g191_132]
      cases hx : edz (qN T n) (lnz (qN T n) (vN T n) K i R C) with
      | inr e =>
        obtain ⟨w, j⟩ := e
        rw [hx] at o2
        have n0 : ¬ g2 11 = 0 := MF.n0 (show MF T n w j g2 from o2)
        refine ⟨g2, r2, st.trans ?_, f1.tr f2, o2⟩
        rw [g191_108]
        simp (decide := true) only [bm_run_ite, Option.toList_some, Option.bind_some, Option.toList_some, Option.toList_none, List.cons_append, List.nil_append, List.append_nil, eq_self, not_true_eq_false, not_false_eq_true, ite_true, ite_false, ↓reduceIte, Nat.reduceLT, Nat.reduceEqDiff, Nat.reduceAdd, or_true, true_or, or_false, false_or, e11, n0]
      | inl p =>
        obtain ⟨j, R2, C2⟩ := p
        rw [hx] at o2
        obtain ⟨n1, n2, n3⟩ := o2
        have kp : i < j ∧ RK K j R2 C2 := by
          cases hy : lnz (qN T n) (vN T n) K i R C with
          | inr e => rw [hy] at hx; cases hx
          | inl p =>
            obtain ⟨j1, R1, C1⟩ := p
            rw [hy] at hx
            obtain ⟨x1, ⟨M, y1, y2⟩, ⟨L, y3, y4⟩, y5, y6⟩ := lnz_keep hK k q hy
            change (if qN T n j1 = 23 then Sum.inl (j1 + 1, upd R1 0 (R1 0 + 1), C1) else Sum.inr (if qN T n j1 = 22 then 1 else 2, j1)) = Sum.inl (j, R2, C2) at hx
            by_cases q23 : qN T n j1 = 23
            · rw [if_pos q23] at hx
              have e := Sum.inl.inj hx
              have e1 : j1 + 1 = j := congrArg Prod.fst e
              have e2 : upd R1 0 (R1 0 + 1) = R2 := congrArg (fun z => z.2.1) e
              have e3 : C1 = C2 := congrArg (fun z => z.2.2) e
              have jK := lt_K hK y6 (by rw [q23]; decide)
              subst e1 e2 e3
              exact ⟨by omega, ⟨M, y1, by rw [upd_n _ _ (by decide)]; exact y2⟩, ⟨L, y3, by rw [upd_n _ _ (by decide)]; exact y4⟩, by omega, by omega⟩
            · rw [if_neg q23] at hx; cases hx
        obtain ⟨g3, r3, k3, f3, o3⟩ := ih j R2 C2 g2 r2 (by omega) kp.2 n1 n2 n3
        exact ⟨g3, r3, st.trans k3, (f1.tr f2).tr f3, o3⟩
end MLOOP
