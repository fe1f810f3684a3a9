section MLEW
variable {S : am_S} {d : Nat} {σ : bm_S} {T : Nat → Int32} {n K : Nat} {time : Bool}
theorem FG.t {g g1 : Nat → Int32} (f : FG g g1) {b : Int32} (h : g 15 = b) : g1 15 = b := by rw [f 15 (by decide) (by decide) (by decide) (by decide) (by decide) (by decide)]; exact h
theorem m182l (h : tx T n σ) (hK : tkK (qN T n) K) (hKn : K ≤ n) {op : Int32} {D : Nat} {gc : Nat → List Int32 → pzR} (hD : 8 ≤ D) (gr : ∀ i C, i ≤ K → grz i C K (gc i C)) (hc : ∀ i C g r, i ≤ K → C.length ≤ i → MT T n i g → CD C r → g 15 = bI time → MC S D T n σ 181 op (gc i C) g r) : ∀ R j C g r o2, j ≤ K → K + 1 ≤ j + R → C.length ≤ j → MT T n j g → CD C r → g 15 = bI time → ∃ g1 r1, bm_run S (D + 1) 182 5 [some (.ref 218), some (.int op), o2] [] (st2 σ g r) = some (none, st2 σ g1 r1) ∧ FG g g1 ∧ FR r r1 ∧ MO T n (lpz (qN T n) 3 gc R j C) g1 r1 := by
  have h9 := h.1
  obtain ⟨D, rfl⟩ : ∃ e, D = e + 8 := ⟨D - 8, by omega⟩
  have e25 : krT 25 = 32 := by decide +kernel
  have e26 : krT 26 = 33 := by decide +kernel
  intro R
  induction R with
  | zero => intro j C g r o2 hj hR; omega
  | succ R ih =>
    intro j C g r o2 hj hR hC m c ht
    have e9 : (st2 σ g r).1 218 9 = g 9 := by rw [s2_16]
    -- a sign to join by
    have go : ∀ code : Int32, opz 3 (qN T n j) = code → ¬ code = 0 → ¬ qN T n j = 21 → bm_run S (D + 9) 182 5 [some (.ref 218), some (.int op), o2] [] (st2 σ g r) = bm_run S (D + 9) 182 41 [some (.ref 218), some (.int op), o2] [.int code] (st2 σ g r) → ∃ g1 r1, bm_run S (D + 9) 182 5 [some (.ref 218), some (.int op), o2] [] (st2 σ g r) = some (none, st2 σ g1 r1) ∧ FG g g1 ∧ FR r r1 ∧ MO T n (lpz (qN T n) 3 gc (R + 1) j C) g1 r1 := by
      intro code eo hcd h21 run
      have jK : j < K := lt_K hK hj h21
      obtain ⟨g1, k1, m1, f1⟩ := m171t (S := S) (d := D + 2) (r := r) h m
      obtain ⟨g2, r2, k2, f2, y2, o2b⟩ := hc (j + 1) C g1 r (by omega) (by omega) m1 c (f1.t ht)
      rw [lpz, if_neg (by rw [eo]; exact hcd), eo]
      have gj := gr (j + 1) C (by omega)
      have h15 : g2 15 = bI time := f2.t (f1.t ht)
      cases hx : gc (j + 1) C with
      | inl a =>
        obtain ⟨j2, C2⟩ := a
        rw [hx] at o2b
        obtain ⟨n1, n2, n3⟩ := o2b
        obtain ⟨z1, z2, E, z3, z4⟩ := gj j2 C2 hx
        have lC : C2.length + 1 ≤ j2 := by rw [z3, List.length_append]; omega
        obtain ⟨r3, k3, c3, y3⟩ := m178 (S := S) (d := D + 8) (σ := σ) n1.1 n2 (by omega) code
        obtain ⟨g4, r4, k4, f4, y4, o4⟩ := ih j2 (C2 ++ [code]) g2 r3 (some (.int code)) z2 (by omega) (by rw [List.length_append]; exact lC) n1 c3 h15
        refine ⟨g4, r4, run.trans ?_, (f1.tr f2).tr f4, (y2.tr y3).tr y4, o4⟩
        rw [← k4, g182_41]
        simp (decide := true) only [bm_run_ite, Option.toList_some, Option.bind_some, Option.toList_some, Option.toList_none, List.cons_append, List.nil_append, List.append_nil, eq_self, not_true_eq_false, not_false_eq_true, ite_true, ite_false, ↓reduceIte, Nat.reduceLT, Nat.reduceEqDiff, Nat.reduceAdd, or_true, true_or, or_false, false_or, k1, g182_46, k2, g182_51, k3, g182_56]
      | inr a =>
        obtain ⟨w, j2⟩ := a
        rw [hx] at o2b
        have b0 : ¬ g2 11 = 0 := MF.n0 (show MF T n w j2 g2 from o2b)
        refine ⟨g2, r2, run.trans ?_, f1.tr f2, y2, o2b⟩
        have k8 := m178e (S := S) (d := D + 8) (σ := σ) (r := r2) b0 code
        have k9 := m173e (S := S) (d := D + 8) (σ := σ) (r := r2) b0
        rw [g182_41]
        simp (decide := true) only [bm_run_ite, Option.toList_some, Option.bind_some, Option.toList_some, Option.toList_none, List.cons_append, List.nil_append, List.append_nil, eq_self, not_true_eq_false, not_false_eq_true, ite_true, ite_false, ↓reduceIte, Nat.reduceLT, Nat.reduceEqDiff, Nat.reduceAdd, or_true, true_or, or_false, false_or, k1, g182_46, k2, g182_51, k8, g182_56, g182_5, k9, g182_11, g182_14, g182_20, g182_59]
    by_cases q : qN T n j = 25
    · have k1 := ye_173 (S := S) (d := D + 8) (σ := σ) (r := r) m q
      rw [e25] at k1
      have e9b : g 9 = 32 := by rw [m.2.1, q, e25]
      refine go 3000 (by rw [q]; decide) (by decide) (by rw [q]; decide) ?_
      rw [g182_5]
      simp (decide := true) only [bm_run_ite, Option.toList_some, Option.bind_some, Option.toList_some, Option.toList_none, List.cons_append, List.nil_append, List.append_nil, eq_self, not_true_eq_false, not_false_eq_true, ite_true, ite_false, ↓reduceIte, Nat.reduceLT, Nat.reduceEqDiff, Nat.reduceAdd, or_true, true_or, or_false, false_or, k1, g182_11, g182_23, e9, e9b, g182_32]
    · have k1 := no_173 (S := S) (d := D + 8) (σ := σ) (r := r) m (w := 25) (by decide) q
      rw [e25] at k1
      by_cases q2 : qN T n j = 26
      · have k2 := ye_173 (S := S) (d := D + 8) (σ := σ) (r := r) m q2
        rw [e26] at k2
        have e9b : g 9 = 33 := by rw [m.2.1, q2, e26]
        refine go 3001 (by rw [q2]; decide) (by decide) (by rw [q2]; decide) ?_
        rw [g182_5]
        simp (decide := true) only [bm_run_ite, Option.toList_some, Option.bind_some, Option.toList_some, Option.toList_none, List.cons_append, List.nil_append, List.append_nil, eq_self, not_true_eq_false, not_false_eq_true, ite_true, ite_false, ↓reduceIte, Nat.reduceLT, Nat.reduceEqDiff, Nat.reduceAdd, or_true, true_or, or_false, false_or, k1, g182_11, g182_14, k2, g182_20, g182_23, e9, e9b, g182_38]
      · have k2 := no_173 (S := S) (d := D + 8) (σ := σ) (r := r) m (w := 26) (by decide) q2
        rw [e26] at k2
        have eo : opz 3 (qN T n j) = 0 := by unfold opz; simp [q, q2]
        rw [lpz, if_pos eo]
        refine ⟨g, r, ?_, FG.rfl g, FR.rfl r, m, c, hC⟩
        rw [g182_5]
        simp (decide := true) only [bm_run_ite, Option.toList_some, Option.bind_some, Option.toList_some, Option.toList_none, List.cons_append, List.nil_append, List.append_nil, eq_self, not_true_eq_false, not_false_eq_true, ite_true, ite_false, ↓reduceIte, Nat.reduceLT, Nat.reduceEqDiff, Nat.reduceAdd, or_true, true_or, or_false, false_or, k1, g182_11, g182_14, k2, g182_20, g182_59]
/-- a word that stands for a number -/
theorem m177 {i : Nat} {g r : Nat → Int32} (ht : g 15 = bI time) : bm_call S d 177 [.ref 218, .int (krT (qN T n i))] (st2 σ g r) = some (some (.int (if awz time (qN T n i) = 0 then Int32.ofInt (-1) else awz time (qN T n i) - 1000)), st2 σ g r) := by
  have e15 : (st2 σ g r).1 218 15 = bI time := by rw [s2_16]; exact ht
  have hq := q_lt (T := T) (n := n) (i := i)
  have kv : krT 10 = 10 ∧ krT 11 = 11 ∧ krT 12 = 12 ∧ krT 13 = 13 ∧ krT 14 = 14 ∧ krT 15 = 15 := by decide +kernel
  generalize qN T n i = q at *
  by_cases a0 : q = 10
  · subst a0
    simp (decide := true) only [e177, g177_0, g177_6, bm_run_ite, Option.toList_some, Option.bind_some, Option.toList_some, Option.toList_none, List.cons_append, List.nil_append, List.append_nil, eq_self, not_true_eq_false, not_false_eq_true, ite_true, ite_false, ↓reduceIte, Nat.reduceLT, Nat.reduceEqDiff, Nat.reduceAdd, or_true, true_or, or_false, false_or, kv, awz]
    rfl
  by_cases a1 : q = 11
  · subst a1
    simp (decide := true) only [e177, g177_0, g177_8, g177_14, bm_run_ite, Option.toList_some, Option.bind_some, Option.toList_some, Option.toList_none, List.cons_append, List.nil_append, List.append_nil, eq_self, not_true_eq_false, not_false_eq_true, ite_true, ite_false, ↓reduceIte, Nat.reduceLT, Nat.reduceEqDiff, Nat.reduceAdd, or_true, true_or, or_false, false_or, kv, awz]
    rfl
  have n0 : ¬ krT q = 10 := fun z => a0 ((kr_inj q hq 10 (by decide)).mp (z.trans kv.1.symm))
  have n1 : ¬ krT q = 11 := fun z => a1 ((kr_inj q hq 11 (by decide)).mp (z.trans kv.2.1.symm))
  have n2 : ¬ q = 12 → ¬ krT q = 12 := fun a z => a ((kr_inj q hq 12 (by decide)).mp (z.trans kv.2.2.1.symm))
  have n3 : ¬ q = 13 → ¬ krT q = 13 := fun a z => a ((kr_inj q hq 13 (by decide)).mp (z.trans kv.2.2.2.1.symm))
  have n4 : ¬ q = 14 → ¬ krT q = 14 := fun a z => a ((kr_inj q hq 14 (by decide)).mp (z.trans kv.2.2.2.2.1.symm))
  have n5 : ¬ q = 15 → ¬ krT q = 15 := fun a z => a ((kr_inj q hq 15 (by decide)).mp (z.trans kv.2.2.2.2.2.symm))
  cases time
  · by_cases b : q = 12
    · subst b
      simp (decide := true) only [e177, g177_0, g177_8, g177_16, g177_23, g177_29, g177_34, bm_run_ite, Option.toList_some, Option.bind_some, Option.toList_some, Option.toList_none, List.cons_append, List.nil_append, List.append_nil, eq_self, not_true_eq_false, not_false_eq_true, ite_true, ite_false, ↓reduceIte, Nat.reduceLT, Nat.reduceEqDiff, Nat.reduceAdd, or_true, true_or, or_false, false_or, kv, e15, bI_itn, awz]
      rfl
    · have nb := n2 b
      simp (decide := true) only [e177, g177_0, g177_8, g177_16, g177_23, g177_33, g177_34, bm_run_ite, Option.toList_some, Option.bind_some, Option.toList_some, Option.toList_none, List.cons_append, List.nil_append, List.append_nil, eq_self, not_true_eq_false, not_false_eq_true, ite_true, ite_false, ↓reduceIte, Nat.reduceLT, Nat.reduceEqDiff, Nat.reduceAdd, or_true, true_or, or_false, false_or, n0, n1, nb, a0, a1, b, e15, bI_itn, awz, ite_self]
  · by_cases b : q = 13
    · subst b
      simp (decide := true) only [e177, g177_0, g177_8, g177_16, g177_35, g177_41, g177_66, bm_run_ite, Option.toList_some, Option.bind_some, Option.toList_some, Option.toList_none, List.cons_append, List.nil_append, List.append_nil, eq_self, not_true_eq_false, not_false_eq_true, ite_true, ite_false, ↓reduceIte, Nat.reduceLT, Nat.reduceEqDiff, Nat.reduceAdd, or_true, true_or, or_false, false_or, kv, e15, bI_itn, awz]
      rfl
    by_cases b2 : q = 14
    · subst b2
      simp (decide := true) only [e177, g177_0, g177_8, g177_16, g177_35, g177_45, g177_51, g177_66, bm_run_ite, Option.toList_some, Option.bind_some, Option.toList_some, Option.toList_none, List.cons_append, List.nil_append, List.append_nil, eq_self, not_true_eq_false, not_false_eq_true, ite_true, ite_false, ↓reduceIte, Nat.reduceLT, Nat.reduceEqDiff, Nat.reduceAdd, or_true, true_or, or_false, false_or, kv, e15, bI_itn, awz]
      rfl
    by_cases b3 : q = 15
    · subst b3
      simp (decide := true) only [e177, g177_0, g177_8, g177_16, g177_35, g177_45, g177_55, g177_61, g177_66, bm_run_ite, Option.toList_some, Option.bind_some, Option.toList_some, Option.toList_none, List.cons_append, List.nil_append, List.append_nil, eq_self, not_true_eq_false, not_false_eq_true, ite_true, ite_false, ↓reduceIte, Nat.reduceLT, Nat.reduceEqDiff, Nat.reduceAdd, or_true, true_or, or_false, false_or, kv, e15, bI_itn, awz]
      rfl
    have nb := n3 b
    have nb2 := n4 b2
    have nb3 := n5 b3
    simp (decide := true) only [e177, g177_0, g177_8, g177_16, g177_35, g177_45, g177_55, g177_65, g177_66, bm_run_ite, Option.toList_some, Option.bind_some, Option.toList_some, Option.toList_none, List.cons_append, List.nil_append, List.append_nil, eq_self, not_true_eq_false, not_false_eq_true, ite_true, ite_false, ↓reduceIte, Nat.reduceLT, Nat.reduceEqDiff, Nat.reduceAdd, or_true, true_or, or_false, false_or, n0, n1, nb, nb2, nb3, a0, a1, b, b2, b3, e15, bI_itn, awz, ite_self]
theorem awz_v {time : Bool} {q : Nat} : awz time q = 0 ∨ awz time q = 1000 ∨ awz time q = 1001 ∨ awz time q = 1002 ∨ awz time q = 1003 ∨ awz time q = 1004 ∨ awz time q = 1005 := by
  unfold awz
  cases time <;> (repeat' split) <;> simp
/-- an atom -/
theorem m180t (h : tx T n σ) (hK : tkK (qN T n) K) (hKn : K ≤ n) {D f op i : Nat} {C : List Int32} {g r : Nat → Int32} (hD : 8 ≤ D) (ho : op ≤ 6) (hi : i ≤ K) (hCi : C.length ≤ i) (m : MT T n i g) (c : CD C r) (ht : g 15 = bI time) (hc : op < 6 → ∀ i C g r, i ≤ K → C.length ≤ i → MT T n i g → CD C r → g 15 = bI time → MC S D T n σ 182 (nI (op + 1)) (pz time (qN T n) (vN T n) (K + 1) f 3 (op + 1) i C) g r) : MC S (D + 1) T n σ 180 (nI op) (pz time (qN T n) (vN T n) (K + 1) (f + 1) 5 op i C) g r := by
  have h9 := h.1
  obtain ⟨D, rfl⟩ : ∃ e, D = e + 8 := ⟨D - 8, by omega⟩
  have v20 : krT 20 = 23 := by decide +kernel
  have v28 : krT 28 = 35 := by decide +kernel
  have v29 : krT 29 = 36 := by decide +kernel
  have e9 : (st2 σ g r).1 218 9 = krT (qN T n i) := by rw [s2_16]; exact m.2.1
  have e11 : ∀ g, (st2 σ g r).1 218 11 = g 11 := fun g => by rw [s2_16]
  have e10 : (st2 σ g r).1 218 10 = g 10 := by rw [s2_16]
  have m0 := m.1
  rw [pz, if_pos rfl]
  by_cases q : qN T n i = 20
  · have k1 := ye_173 (S := S) (d := D + 8) (σ := σ) (r := r) m q
    rw [v20] at k1
    have iK : i < K := lt_K hK hi (by rw [q]; decide)
    obtain ⟨r1, k2, c2, y2⟩ := m178 (S := S) (d := D + 8) (σ := σ) m.1 c (by omega) (g 10)
    obtain ⟨g3, k3, m3, f3⟩ := m171t (S := S) (d := D + 2) (r := r1) h m
    rw [if_pos q]
    rw [m.2.2.2.2.2 q] at c2
    refine ⟨g3, r1, ?_, f3, y2, m3, c2, by rw [List.length_append]; show C.length + 1 ≤ i + 1; omega⟩
    simp (decide := true) only [e180, g180_0, g180_6, g180_9, g180_17, g180_21, g180_113, bm_run_ite, Option.toList_some, Option.bind_some, Option.toList_some, Option.toList_none, List.cons_append, List.nil_append, List.append_nil, eq_self, not_true_eq_false, not_false_eq_true, ite_true, ite_false, ↓reduceIte, Nat.reduceLT, Nat.reduceEqDiff, Nat.reduceAdd, or_true, true_or, or_false, false_or, k1, e10, k2, k3]
  · have k1 := no_173 (S := S) (d := D + 8) (σ := σ) (r := r) m (w := 20) (by decide) q
    rw [v20] at k1
    have k7 := m177 (S := S) (d := D + 8) (σ := σ) (T := T) (n := n) (i := i) (r := r) ht
    rw [if_neg q]
    by_cases qa : awz time (qN T n i) = 0
    · rw [if_neg (not_not_intro qa)]
      rw [if_pos qa] at k7
      have go : bm_call S (D + 9) 180 [.ref 218, .int (nI op)] (st2 σ g r) = bm_run S (D + 9) 180 66 [some (.ref 218), some (.int (nI op))] [] (st2 σ g r) := by
        simp (decide := true) only [e180, g180_0, g180_6, g180_24, g180_31, g180_39, bm_run_ite, Option.toList_some, Option.bind_some, Option.toList_some, Option.toList_none, List.cons_append, List.nil_append, List.append_nil, eq_self, not_true_eq_false, not_false_eq_true, ite_true, ite_false, ↓reduceIte, Nat.reduceLT, Nat.reduceEqDiff, Nat.reduceAdd, or_true, true_or, or_false, false_or, k1, e11, m0, e9, k7]
      by_cases q3 : qN T n i = 28
      · have k3 := ye_173 (S := S) (d := D + 8) (σ := σ) (r := r) m q3
        rw [v28] at k3
        have iK : i < K := lt_K hK hi (by rw [q3]; decide)
        rw [if_pos q3]
        rcases m179 (S := S) (d := D + 1) (r := r) h m ho (by rw [q3]; decide) with ⟨o6, g1, k4, m4, f4⟩ | ⟨o6, g1, k4, m4, f4⟩
        · rw [if_neg (show ¬ 6 ≤ op by omega)]
          obtain ⟨g2, r2, k5, f5, y5, o5⟩ := hc o6 (i + 1) C g1 r (by omega) (by omega) m4 c (f4.t ht)
          cases hx : pz time (qN T n) (vN T n) (K + 1) f 3 (op + 1) (i + 1) C with
          | inl a =>
            obtain ⟨j2, C2⟩ := a
            rw [hx] at o5
            obtain ⟨n1, n2, n3⟩ := o5
            show MC S (D + 9) T n σ 180 (nI op) (tkz (qN T n) 29 j2 C2) g r
            unfold tkz
            by_cases q4 : qN T n j2 = 29
            · obtain ⟨g3, k6, m6, f6⟩ := m174y (S := S) (d := D + 1) (r := r2) h n1 (w := 29) (by decide) q4
              rw [v29] at k6
              rw [if_pos q4]
              refine ⟨g3, r2, go.trans ?_, (f4.tr f5).tr f6, y5, m6, n2, by omega⟩
              rw [g180_66]
              simp (decide := true) only [bm_run_ite, Option.toList_some, Option.bind_some, Option.toList_some, Option.toList_none, List.cons_append, List.nil_append, List.append_nil, eq_self, not_true_eq_false, not_false_eq_true, ite_true, ite_false, ↓reduceIte, Nat.reduceLT, Nat.reduceEqDiff, Nat.reduceAdd, or_true, true_or, or_false, false_or, k3, g180_72, g180_75, k4, g180_80, g180_84, nI_1, k5, g180_91, k6, g180_97, g180_113]
            · have k6 := m174n (S := S) (d := D + 7) (σ := σ) (r := r2) (not_k n1 (w := 29) (by decide) q4)
              rw [v29] at k6
              obtain ⟨g3, k8, m8, f8⟩ := m172t (S := S) (d := D + 8) (σ := σ) (r := r2) n1 (w := 2) (by decide)
              rw [if_neg q4]
              refine ⟨g3, r2, go.trans ?_, (f4.tr f5).tr f8, y5, m8⟩
              rw [g180_66]
              simp (decide := true) only [bm_run_ite, Option.toList_some, Option.bind_some, Option.toList_some, Option.toList_none, List.cons_append, List.nil_append, List.append_nil, eq_self, not_true_eq_false, not_false_eq_true, ite_true, ite_false, ↓reduceIte, Nat.reduceLT, Nat.reduceEqDiff, Nat.reduceAdd, or_true, true_or, or_false, false_or, k3, g180_72, g180_75, k4, g180_80, g180_84, nI_1, k5, g180_91, k6, g180_97, g180_100, k8, g180_105, g180_113]
          | inr a =>
            obtain ⟨w, j2⟩ := a
            rw [hx] at o5
            have b0 : ¬ g2 11 = 0 := MF.n0 (show MF T n w j2 g2 from o5)
            have k6 := m174e (S := S) (d := D + 7) (σ := σ) (r := r2) b0 36
            have k8 := m172e (S := S) (d := D + 8) (σ := σ) (r := r2) b0 2
            refine ⟨g2, r2, go.trans ?_, f4.tr f5, y5, o5⟩
            rw [g180_66]
            simp (decide := true) only [bm_run_ite, Option.toList_some, Option.bind_some, Option.toList_some, Option.toList_none, List.cons_append, List.nil_append, List.append_nil, eq_self, not_true_eq_false, not_false_eq_true, ite_true, ite_false, ↓reduceIte, Nat.reduceLT, Nat.reduceEqDiff, Nat.reduceAdd, or_true, true_or, or_false, false_or, k3, g180_72, g180_75, k4, g180_80, g180_84, nI_1, k5, g180_91, k6, g180_97, g180_100, k8, g180_105, g180_113]
        · rw [if_pos (show 6 ≤ op by omega)]
          refine ⟨g1, r, go.trans ?_, f4, FR.rfl r, m4⟩
          rw [g180_66]
          simp (decide := true) only [bm_run_ite, Option.toList_some, Option.bind_some, Option.toList_some, Option.toList_none, List.cons_append, List.nil_append, List.append_nil, eq_self, not_true_eq_false, not_false_eq_true, ite_true, ite_false, ↓reduceIte, Nat.reduceLT, Nat.reduceEqDiff, Nat.reduceAdd, or_true, true_or, or_false, false_or, k3, g180_72, g180_75, k4, g180_80, g180_83]
      · have k3 := no_173 (S := S) (d := D + 8) (σ := σ) (r := r) m (w := 28) (by decide) q3
        rw [v28] at k3
        obtain ⟨g3, k8, m8, f8⟩ := m172t (S := S) (d := D + 8) (σ := σ) (r := r) m (w := 2) (by decide)
        rw [if_neg q3]
        refine ⟨g3, r, go.trans ?_, f8, FR.rfl r, m8⟩
        rw [g180_66]
        simp (decide := true) only [bm_run_ite, Option.toList_some, Option.bind_some, Option.toList_some, Option.toList_none, List.cons_append, List.nil_append, List.append_nil, eq_self, not_true_eq_false, not_false_eq_true, ite_true, ite_false, ↓reduceIte, Nat.reduceLT, Nat.reduceEqDiff, Nat.reduceAdd, or_true, true_or, or_false, false_or, k3, g180_72, g180_108, k8, g180_113]
    · rw [if_pos qa]
      rw [if_neg qa] at k7
      have iK : i < K := lt_K hK hi (fun z => qa (by rw [z]; rfl))
      obtain ⟨r1, k2, c2, y2⟩ := m178 (S := S) (d := D + 8) (σ := σ) m.1 c (by omega) (awz time (qN T n i))
      obtain ⟨g3, k3, m3, f3⟩ := m171t (S := S) (d := D + 2) (r := r1) h m
      have n1 : ¬ awz time (qN T n i) - 1000 = Int32.ofInt (-1) := by rcases awz_v (time := time) (q := qN T n i) with z | z | z | z | z | z | z <;> first | exact absurd z qa | (rw [z]; decide)
      have ad : (1000 : Int32) + (awz time (qN T n i) - 1000) = awz time (qN T n i) := by rcases awz_v (time := time) (q := qN T n i) with z | z | z | z | z | z | z <;> first | exact absurd z qa | (rw [z]; decide)
      refine ⟨g3, r1, ?_, f3, y2, m3, c2, by rw [List.length_append]; show C.length + 1 ≤ i + 1; omega⟩
      simp (decide := true) only [e180, g180_0, g180_6, g180_24, g180_31, g180_39, g180_43, g180_55, g180_59, g180_63, g180_113, bm_run_ite, Option.toList_some, Option.bind_some, Option.toList_some, Option.toList_none, List.cons_append, List.nil_append, List.append_nil, eq_self, not_true_eq_false, not_false_eq_true, ite_true, ite_false, ↓reduceIte, Nat.reduceLT, Nat.reduceEqDiff, Nat.reduceAdd, or_true, true_or, or_false, false_or, k1, e11, m0, e9, k7, n1, ad, k2, k3]
end MLEW
