section MLEV
variable {S : am_S} {d : Nat} {σ : bm_S} {T : Nat → Int32} {n K : Nat} {time : Bool}
theorem krv : krT 0 = 0 ∧ krT 16 = 16 ∧ krT 17 = 17 ∧ krT 18 = 18 ∧ krT 20 = 23 ∧ krT 25 = 32 ∧ krT 26 = 33 ∧ krT 27 = 34 ∧ krT 28 = 35 ∧ krT 29 = 36 ∧ krT 30 = 37 ∧ krT 31 = 38 ∧ krT 32 = 39 ∧ krT 33 = 40 ∧ krT 34 = 41 := by decide +kernel
theorem not_k {i w : Nat} {g : Nat → Int32} (m : MT T n i g) (hw : w < 35) (h : ¬ qN T n i = w) : ¬ (g 11 = 0 ∧ g 9 = krT w) := fun z => h ((kr_inj _ q_lt w hw).mp (m.2.1.symm.trans z.2))
theorem no_173 {i w : Nat} {g r : Nat → Int32} (m : MT T n i g) (hw : w < 35) (h : ¬ qN T n i = w) : bm_call S d 173 [.ref 218, .int (krT w)] (st2 σ g r) = some (some (.int 0), st2 σ g r) := by
  have k3 := m173 (S := S) (d := d) (σ := σ) (g := g) (r := r) (krT w)
  rw [m.1, m.2.1] at k3
  have e : ¬ krT (qN T n i) = krT w := fun z => h ((kr_inj _ q_lt w hw).mp z)
  rw [decide_eq_false e, Bool.and_false] at k3
  exact k3
theorem ye_173 {i w : Nat} {g r : Nat → Int32} (m : MT T n i g) (h : qN T n i = w) : bm_call S d 173 [.ref 218, .int (krT w)] (st2 σ g r) = some (some (.int 1), st2 σ g r) := by
  have k3 := m173 (S := S) (d := d) (σ := σ) (g := g) (r := r) (krT w)
  rw [m.1, m.2.1, h] at k3
  simp only [decide_true, Bool.and_true] at k3
  exact k3
theorem MF.n0 {w : Int32} {i : Nat} {g : Nat → Int32} (m : MF T n w i g) : ¬ g 11 = 0 := by rw [m.1]; exact m.2.1
theorem m181l (h : tx T n σ) (hK : tkK (qN T n) K) (hKn : K ≤ n) {op : Int32} {D : Nat} {gc : Nat → List Int32 → pzR} (hD : 8 ≤ D) (gr : ∀ i C, i ≤ K → grz i C K (gc i C)) (hc : ∀ i C g r, i ≤ K → C.length ≤ i → MT T n i g → CD C r → g 15 = bI time → MC S D T n σ 180 op (gc i C) g r) : ∀ R j C g r, j ≤ K → K + 1 ≤ j + R → C.length ≤ j → MT T n j g → CD C r → g 15 = bI time → ∃ g1 r1, bm_run S (D + 1) 181 5 [some (.ref 218), some (.int op)] [] (st2 σ g r) = some (none, st2 σ g1 r1) ∧ FG g g1 ∧ FR r r1 ∧ MO T n (lpz (qN T n) 4 gc R j C) g1 r1 := by
  have h9 := h.1
  obtain ⟨D, rfl⟩ : ∃ e, D = e + 8 := ⟨D - 8, by omega⟩
  have ew : krT 27 = 34 := by decide +kernel
  intro R
  induction R with
  | zero => intro j C g r hj hR; omega
  | succ R ih =>
    intro j C g r hj hR hC m c ht
    by_cases q : qN T n j = 27
    · obtain ⟨g1, k1, m1, f1⟩ := m174y (S := S) (d := D + 1) (r := r) h m (w := 27) (by decide) q
      rw [ew] at k1
      have jK : j < K := lt_K hK hj (by rw [q]; decide)
      have eo : opz 4 (qN T n j) = 3002 := by rw [q]; decide
      obtain ⟨g2, r2, k2, f2, y2, o2⟩ := hc (j + 1) C g1 r (by omega) (by omega) m1 c (by rw [f1 15 (by decide) (by decide) (by decide) (by decide) (by decide) (by decide)]; exact ht)
      rw [lpz, if_neg (by rw [eo]; decide), eo]
      have gj := gr (j + 1) C (by omega)
      have h15 : g2 15 = bI time := by rw [f2 15 (by decide) (by decide) (by decide) (by decide) (by decide) (by decide), f1 15 (by decide) (by decide) (by decide) (by decide) (by decide) (by decide)]; exact ht
      cases hx : gc (j + 1) C with
      | inl a =>
        obtain ⟨j2, C2⟩ := a
        rw [hx] at o2
        obtain ⟨n1, n2, n3⟩ := o2
        obtain ⟨z1, z2, E, z3, z4⟩ := gj j2 C2 hx
        have lC : C2.length + 1 ≤ j2 := by rw [z3, List.length_append]; omega
        obtain ⟨r3, k3, c3, y3⟩ := m178 (S := S) (d := D + 8) (σ := σ) n1.1 n2 (by omega) 3002
        obtain ⟨g4, r4, k4, f4, y4, o4⟩ := ih j2 (C2 ++ [3002]) g2 r3 z2 (by omega) (by rw [List.length_append]; exact lC) n1 c3 h15
        refine ⟨g4, r4, ?_, (f1.tr f2).tr f4, (y2.tr y3).tr y4, o4⟩
        rw [← k4, g181_5]
        simp (decide := true) only [bm_run_ite, Option.toList_some, Option.bind_some, Option.toList_some, Option.toList_none, List.cons_append, List.nil_append, List.append_nil, eq_self, not_true_eq_false, not_false_eq_true, ite_true, ite_false, ↓reduceIte, Nat.reduceLT, Nat.reduceEqDiff, Nat.reduceAdd, or_true, true_or, or_false, false_or, k1, g181_11, g181_14, k2, g181_19, k3, g181_26]
      | inr a =>
        obtain ⟨w, j2⟩ := a
        rw [hx] at o2
        have b0 : ¬ g2 11 = 0 := MF.n0 (show MF T n w j2 g2 from o2)
        refine ⟨g2, r2, ?_, f1.tr f2, y2, o2⟩
        have k8 := m178e (S := S) (d := D + 8) (σ := σ) (r := r2) b0 3002
        have k9 := m174e (S := S) (d := D + 7) (σ := σ) (r := r2) b0 34
        rw [g181_5]
        simp (decide := true) only [bm_run_ite, Option.toList_some, Option.bind_some, Option.toList_some, Option.toList_none, List.cons_append, List.nil_append, List.append_nil, eq_self, not_true_eq_false, not_false_eq_true, ite_true, ite_false, ↓reduceIte, Nat.reduceLT, Nat.reduceEqDiff, Nat.reduceAdd, or_true, true_or, or_false, false_or, k1, g181_11, g181_14, k2, g181_19, k8, g181_26, g181_5, k9, g181_29]
    · have k1 := m174n (S := S) (d := D + 7) (σ := σ) (r := r) (not_k m (w := 27) (by decide) q)
      rw [ew] at k1
      have eo : opz 4 (qN T n j) = 0 := by unfold opz; simp [q]
      rw [lpz, if_pos eo]
      refine ⟨g, r, ?_, FG.rfl g, FR.rfl r, m, c, hC⟩
      rw [g181_5]
      simp (decide := true) only [bm_run_ite, Option.toList_some, Option.bind_some, Option.toList_some, Option.toList_none, List.cons_append, List.nil_append, List.append_nil, eq_self, not_true_eq_false, not_false_eq_true, ite_true, ite_false, ↓reduceIte, Nat.reduceLT, Nat.reduceEqDiff, Nat.reduceAdd, or_true, true_or, or_false, false_or, k1, g181_11, g181_29]
theorem m184l (h : tx T n σ) (hK : tkK (qN T n) K) (hKn : K ≤ n) {op : Int32} {D : Nat} {gc : Nat → List Int32 → pzR} (hD : 8 ≤ D) (gr : ∀ i C, i ≤ K → grz i C K (gc i C)) (hc : ∀ i C g r, i ≤ K → C.length ≤ i → MT T n i g → CD C r → g 15 = bI time → MC S D T n σ 183 op (gc i C) g r) : ∀ R j C g r, j ≤ K → K + 1 ≤ j + R → C.length ≤ j → MT T n j g → CD C r → g 15 = bI time → ∃ g1 r1, bm_run S (D + 1) 184 5 [some (.ref 218), some (.int op)] [] (st2 σ g r) = some (none, st2 σ g1 r1) ∧ FG g g1 ∧ FR r r1 ∧ MO T n (lpz (qN T n) 1 gc R j C) g1 r1 := by
  have h9 := h.1
  obtain ⟨D, rfl⟩ : ∃ e, D = e + 8 := ⟨D - 8, by omega⟩
  have ew : krT 16 = 16 := by decide +kernel
  intro R
  induction R with
  | zero => intro j C g r hj hR; omega
  | succ R ih =>
    intro j C g r hj hR hC m c ht
    by_cases q : qN T n j = 16
    · obtain ⟨g1, k1, m1, f1⟩ := m174y (S := S) (d := D + 1) (r := r) h m (w := 16) (by decide) q
      rw [ew] at k1
      have jK : j < K := lt_K hK hj (by rw [q]; decide)
      have eo : opz 1 (qN T n j) = 3007 := by rw [q]; decide
      obtain ⟨g2, r2, k2, f2, y2, o2⟩ := hc (j + 1) C g1 r (by omega) (by omega) m1 c (by rw [f1 15 (by decide) (by decide) (by decide) (by decide) (by decide) (by decide)]; exact ht)
      rw [lpz, if_neg (by rw [eo]; decide), eo]
      have gj := gr (j + 1) C (by omega)
      have h15 : g2 15 = bI time := by rw [f2 15 (by decide) (by decide) (by decide) (by decide) (by decide) (by decide), f1 15 (by decide) (by decide) (by decide) (by decide) (by decide) (by decide)]; exact ht
      cases hx : gc (j + 1) C with
      | inl a =>
        obtain ⟨j2, C2⟩ := a
        rw [hx] at o2
        obtain ⟨n1, n2, n3⟩ := o2
        obtain ⟨z1, z2, E, z3, z4⟩ := gj j2 C2 hx
        have lC : C2.length + 1 ≤ j2 := by rw [z3, List.length_append]; omega
        obtain ⟨r3, k3, c3, y3⟩ := m178 (S := S) (d := D + 8) (σ := σ) n1.1 n2 (by omega) 3007
        obtain ⟨g4, r4, k4, f4, y4, o4⟩ := ih j2 (C2 ++ [3007]) g2 r3 z2 (by omega) (by rw [List.length_append]; exact lC) n1 c3 h15
        refine ⟨g4, r4, ?_, (f1.tr f2).tr f4, (y2.tr y3).tr y4, o4⟩
        rw [← k4, g184_5]
        simp (decide := true) only [bm_run_ite, Option.toList_some, Option.bind_some, Option.toList_some, Option.toList_none, List.cons_append, List.nil_append, List.append_nil, eq_self, not_true_eq_false, not_false_eq_true, ite_true, ite_false, ↓reduceIte, Nat.reduceLT, Nat.reduceEqDiff, Nat.reduceAdd, or_true, true_or, or_false, false_or, k1, g184_11, g184_14, k2, g184_19, k3, g184_26]
      | inr a =>
        obtain ⟨w, j2⟩ := a
        rw [hx] at o2
        have b0 : ¬ g2 11 = 0 := MF.n0 (show MF T n w j2 g2 from o2)
        refine ⟨g2, r2, ?_, f1.tr f2, y2, o2⟩
        have k8 := m178e (S := S) (d := D + 8) (σ := σ) (r := r2) b0 3007
        have k9 := m174e (S := S) (d := D + 7) (σ := σ) (r := r2) b0 16
        rw [g184_5]
        simp (decide := true) only [bm_run_ite, Option.toList_some, Option.bind_some, Option.toList_some, Option.toList_none, List.cons_append, List.nil_append, List.append_nil, eq_self, not_true_eq_false, not_false_eq_true, ite_true, ite_false, ↓reduceIte, Nat.reduceLT, Nat.reduceEqDiff, Nat.reduceAdd, or_true, true_or, or_false, false_or, k1, g184_11, g184_14, k2, g184_19, k8, g184_26, g184_5, k9, g184_29]
    · have k1 := m174n (S := S) (d := D + 7) (σ := σ) (r := r) (not_k m (w := 16) (by decide) q)
      rw [ew] at k1
      have eo : opz 1 (qN T n j) = 0 := by unfold opz; simp [q]
      rw [lpz, if_pos eo]
      refine ⟨g, r, ?_, FG.rfl g, FR.rfl r, m, c, hC⟩
      rw [g184_5]
      simp (decide := true) only [bm_run_ite, Option.toList_some, Option.bind_some, Option.toList_some, Option.toList_none, List.cons_append, List.nil_append, List.append_nil, eq_self, not_true_eq_false, not_false_eq_true, ite_true, ite_false, ↓reduceIte, Nat.reduceLT, Nat.reduceEqDiff, Nat.reduceAdd, or_true, true_or, or_false, false_or, k1, g184_11, g184_29]
theorem m185l (h : tx T n σ) (hK : tkK (qN T n) K) (hKn : K ≤ n) {op : Int32} {D : Nat} {gc : Nat → List Int32 → pzR} (hD : 8 ≤ D) (gr : ∀ i C, i ≤ K → grz i C K (gc i C)) (hc : ∀ i C g r, i ≤ K → C.length ≤ i → MT T n i g → CD C r → g 15 = bI time → MC S D T n σ 184 op (gc i C) g r) : ∀ R j C g r, j ≤ K → K + 1 ≤ j + R → C.length ≤ j → MT T n j g → CD C r → g 15 = bI time → ∃ g1 r1, bm_run S (D + 1) 185 5 [some (.ref 218), some (.int op)] [] (st2 σ g r) = some (none, st2 σ g1 r1) ∧ FG g g1 ∧ FR r r1 ∧ MO T n (lpz (qN T n) 0 gc R j C) g1 r1 := by
  have h9 := h.1
  obtain ⟨D, rfl⟩ : ∃ e, D = e + 8 := ⟨D - 8, by omega⟩
  have ew : krT 17 = 17 := by decide +kernel
  intro R
  induction R with
  | zero => intro j C g r hj hR; omega
  | succ R ih =>
    intro j C g r hj hR hC m c ht
    by_cases q : qN T n j = 17
    · obtain ⟨g1, k1, m1, f1⟩ := m174y (S := S) (d := D + 1) (r := r) h m (w := 17) (by decide) q
      rw [ew] at k1
      have jK : j < K := lt_K hK hj (by rw [q]; decide)
      have eo : opz 0 (qN T n j) = 3008 := by rw [q]; decide
      obtain ⟨g2, r2, k2, f2, y2, o2⟩ := hc (j + 1) C g1 r (by omega) (by omega) m1 c (by rw [f1 15 (by decide) (by decide) (by decide) (by decide) (by decide) (by decide)]; exact ht)
      rw [lpz, if_neg (by rw [eo]; decide), eo]
      have gj := gr (j + 1) C (by omega)
      have h15 : g2 15 = bI time := by rw [f2 15 (by decide) (by decide) (by decide) (by decide) (by decide) (by decide), f1 15 (by decide) (by decide) (by decide) (by decide) (by decide) (by decide)]; exact ht
      cases hx : gc (j + 1) C with
      | inl a =>
        obtain ⟨j2, C2⟩ := a
        rw [hx] at o2
        obtain ⟨n1, n2, n3⟩ := o2
        obtain ⟨z1, z2, E, z3, z4⟩ := gj j2 C2 hx
        have lC : C2.length + 1 ≤ j2 := by rw [z3, List.length_append]; omega
        obtain ⟨r3, k3, c3, y3⟩ := m178 (S := S) (d := D + 8) (σ := σ) n1.1 n2 (by omega) 3008
        obtain ⟨g4, r4, k4, f4, y4, o4⟩ := ih j2 (C2 ++ [3008]) g2 r3 z2 (by omega) (by rw [List.length_append]; exact lC) n1 c3 h15
        refine ⟨g4, r4, ?_, (f1.tr f2).tr f4, (y2.tr y3).tr y4, o4⟩
        rw [← k4, g185_5]
        simp (decide := true) only [bm_run_ite, Option.toList_some, Option.bind_some, Option.toList_some, Option.toList_none, List.cons_append, List.nil_append, List.append_nil, eq_self, not_true_eq_false, not_false_eq_true, ite_true, ite_false, ↓reduceIte, Nat.reduceLT, Nat.reduceEqDiff, Nat.reduceAdd, or_true, true_or, or_false, false_or, k1, g185_11, g185_14, k2, g185_19, k3, g185_26]
      | inr a =>
        obtain ⟨w, j2⟩ := a
        rw [hx] at o2
        have b0 : ¬ g2 11 = 0 := MF.n0 (show MF T n w j2 g2 from o2)
        refine ⟨g2, r2, ?_, f1.tr f2, y2, o2⟩
        have k8 := m178e (S := S) (d := D + 8) (σ := σ) (r := r2) b0 3008
        have k9 := m174e (S := S) (d := D + 7) (σ := σ) (r := r2) b0 17
        rw [g185_5]
        simp (decide := true) only [bm_run_ite, Option.toList_some, Option.bind_some, Option.toList_some, Option.toList_none, List.cons_append, List.nil_append, List.append_nil, eq_self, not_true_eq_false, not_false_eq_true, ite_true, ite_false, ↓reduceIte, Nat.reduceLT, Nat.reduceEqDiff, Nat.reduceAdd, or_true, true_or, or_false, false_or, k1, g185_11, g185_14, k2, g185_19, k8, g185_26, g185_5, k9, g185_29]
    · have k1 := m174n (S := S) (d := D + 7) (σ := σ) (r := r) (not_k m (w := 17) (by decide) q)
      rw [ew] at k1
      have eo : opz 0 (qN T n j) = 0 := by unfold opz; simp [q]
      rw [lpz, if_pos eo]
      refine ⟨g, r, ?_, FG.rfl g, FR.rfl r, m, c, hC⟩
      rw [g185_5]
      simp (decide := true) only [bm_run_ite, Option.toList_some, Option.bind_some, Option.toList_some, Option.toList_none, List.cons_append, List.nil_append, List.append_nil, eq_self, not_true_eq_false, not_false_eq_true, ite_true, ite_false, ↓reduceIte, Nat.reduceLT, Nat.reduceEqDiff, Nat.reduceAdd, or_true, true_or, or_false, false_or, k1, g185_11, g185_29]
end MLEV
