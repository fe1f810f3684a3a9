section MLEX
variable {S : am_S} {d : Nat} {σ : bm_S} {T : Nat → Int32} {n K : Nat} {time : Bool}
theorem m183t (h : tx T n σ) (hK : tkK (qN T n) K) (hKn : K ≤ n) {D f op i : Nat} {C : List Int32} {g r : Nat → Int32} (hD : 8 ≤ D) (ho : op ≤ 6) (hi : i ≤ K) (hCi : C.length ≤ i) (m : MT T n i g) (c : CD C r) (ht : g 15 = bI time) (hc3 : op < 6 → ∀ i C g r, i ≤ K → C.length ≤ i → MT T n i g → CD C r → g 15 = bI time → MC S D T n σ 183 (nI (op + 1)) (pz time (qN T n) (vN T n) (K + 1) f 2 (op + 1) i C) g r) (hc5 : op < 6 → ∀ i C g r, i ≤ K → C.length ≤ i → MT T n i g → CD C r → g 15 = bI time → MC S D T n σ 185 (nI (op + 1)) (pz time (qN T n) (vN T n) (K + 1) f 0 (op + 1) i C) g r) (hc2 : ∀ i C g r, i ≤ K → C.length ≤ i → MT T n i g → CD C r → g 15 = bI time → MC S D T n σ 182 (nI op) (pz time (qN T n) (vN T n) (K + 1) f 3 op i C) g r) : MC S (D + 1) T n σ 183 (nI op) (pz time (qN T n) (vN T n) (K + 1) (f + 1) 2 op i C) g r := by
  have h9 := h.1
  obtain ⟨D, rfl⟩ : ∃ e, D = e + 8 := ⟨D - 8, by omega⟩
  have v18 : krT 18 = 18 := by decide +kernel
  have v30 : krT 30 = 37 := by decide +kernel
  have v31 : krT 31 = 38 := by decide +kernel
  have v32 : krT 32 = 39 := by decide +kernel
  have v33 : krT 33 = 40 := by decide +kernel
  have v34 : krT 34 = 41 := by decide +kernel
  rw [pz, if_neg (by decide), if_pos rfl]
  by_cases q : qN T n i = 18
  · have k1 := ye_173 (S := S) (d := D + 8) (σ := σ) (r := r) m q
    rw [v18] at k1
    have iK : i < K := lt_K hK hi (by rw [q]; decide)
    rw [if_pos q]
    rcases m179 (S := S) (d := D + 1) (r := r) h m ho (by rw [q]; decide) with ⟨o6, g1, k4, m4, f4⟩ | ⟨o6, g1, k4, m4, f4⟩
    · rw [if_neg (show ¬ 6 ≤ op by omega)]
      obtain ⟨g2, r2, k5, f5, y5, o5⟩ := hc3 o6 (i + 1) C g1 r (by omega) (by omega) m4 c (f4.t ht)
      have gj := pz_gr (time := time) (v := vN T n) (R := K + 1) hK f 2 (op + 1) (i + 1) C (by omega)
      cases hx : pz time (qN T n) (vN T n) (K + 1) f 2 (op + 1) (i + 1) C with
      | inl a =>
        obtain ⟨j2, C2⟩ := a
        rw [hx] at o5
        obtain ⟨n1, n2, n3⟩ := o5
        obtain ⟨z1, z2, E, z3, z4⟩ := gj j2 C2 hx
        have lC : C2.length + 1 ≤ j2 := by rw [z3, List.length_append]; omega
        obtain ⟨r3, k6, c3, y3⟩ := m178 (S := S) (d := D + 8) (σ := σ) n1.1 n2 (by omega) 3006
        refine ⟨g2, r3, ?_, f4.tr f5, y5.tr y3, n1, c3, by rw [List.length_append]; exact lC⟩
        simp (decide := true) only [e183, g183_0, g183_6, g183_9, g183_14, g183_18, g183_25, g183_32, bm_run_ite, Option.toList_some, Option.bind_some, Option.toList_some, Option.toList_none, List.cons_append, List.nil_append, List.append_nil, eq_self, not_true_eq_false, not_false_eq_true, ite_true, ite_false, ↓reduceIte, Nat.reduceLT, Nat.reduceEqDiff, Nat.reduceAdd, or_true, true_or, or_false, false_or, k1, k4, nI_1, k5, k6]
      | inr a =>
        obtain ⟨w, j2⟩ := a
        rw [hx] at o5
        have b0 : ¬ g2 11 = 0 := MF.n0 (show MF T n w j2 g2 from o5)
        have k6 := m178e (S := S) (d := D + 8) (σ := σ) (r := r2) b0 3006
        refine ⟨g2, r2, ?_, f4.tr f5, y5, o5⟩
        simp (decide := true) only [e183, g183_0, g183_6, g183_9, g183_14, g183_18, g183_25, g183_32, bm_run_ite, Option.toList_some, Option.bind_some, Option.toList_some, Option.toList_none, List.cons_append, List.nil_append, List.append_nil, eq_self, not_true_eq_false, not_false_eq_true, ite_true, ite_false, ↓reduceIte, Nat.reduceLT, Nat.reduceEqDiff, Nat.reduceAdd, or_true, true_or, or_false, false_or, k1, k4, nI_1, k5, k6]
    · rw [if_pos (show 6 ≤ op by omega)]
      refine ⟨g1, r, ?_, f4, FR.rfl r, m4⟩
      simp (decide := true) only [e183, g183_0, g183_6, g183_9, g183_14, g183_17, bm_run_ite, Option.toList_some, Option.bind_some, Option.toList_some, Option.toList_none, List.cons_append, List.nil_append, List.append_nil, eq_self, not_true_eq_false, not_false_eq_true, ite_true, ite_false, ↓reduceIte, Nat.reduceLT, Nat.reduceEqDiff, Nat.reduceAdd, or_true, true_or, or_false, false_or, k1, k4]
  rw [if_neg q]
  have k1 := no_173 (S := S) (d := D + 8) (σ := σ) (r := r) m (w := 18) (by decide) q
  rw [v18] at k1
  by_cases q2 : qN T n i = 30
  · have k2 := ye_173 (S := S) (d := D + 8) (σ := σ) (r := r) m q2
    rw [v30] at k2
    have iK : i < K := lt_K hK hi (by rw [q2]; decide)
    rw [if_pos q2]
    rcases m179 (S := S) (d := D + 1) (r := r) h m ho (by rw [q2]; decide) with ⟨o6, g1, k4, m4, f4⟩ | ⟨o6, g1, k4, m4, f4⟩
    · rw [if_neg (show ¬ 6 ≤ op by omega)]
      obtain ⟨g2, r2, k5, f5, y5, o5⟩ := hc5 o6 (i + 1) C g1 r (by omega) (by omega) m4 c (f4.t ht)
      cases hx : pz time (qN T n) (vN T n) (K + 1) f 0 (op + 1) (i + 1) C with
      | inl a =>
        obtain ⟨j2, C2⟩ := a
        rw [hx] at o5
        obtain ⟨n1, n2, n3⟩ := o5
        show MC S (D + 9) T n σ 183 (nI op) (tkz (qN T n) 31 j2 C2) g r
        unfold tkz
        by_cases q4 : qN T n j2 = 31
        · obtain ⟨g3, k6, m6, f6⟩ := m174y (S := S) (d := D + 1) (r := r2) h n1 (w := 31) (by decide) q4
          rw [v31] at k6
          rw [if_pos q4]
          refine ⟨g3, r2, ?_, (f4.tr f5).tr f6, y5, m6, n2, by omega⟩
          simp (decide := true) only [e183, g183_0, g183_6, g183_33, g183_39, g183_42, g183_47, g183_51, g183_58, g183_64, g183_72, bm_run_ite, Option.toList_some, Option.bind_some, Option.toList_some, Option.toList_none, List.cons_append, List.nil_append, List.append_nil, eq_self, not_true_eq_false, not_false_eq_true, ite_true, ite_false, ↓reduceIte, Nat.reduceLT, Nat.reduceEqDiff, Nat.reduceAdd, or_true, true_or, or_false, false_or, k1, k2, k4, nI_1, k5, k6]
        · have k6 := m174n (S := S) (d := D + 7) (σ := σ) (r := r2) (not_k n1 (w := 31) (by decide) q4)
          rw [v31] at k6
          obtain ⟨g3, k8, m8, f8⟩ := m172t (S := S) (d := D + 8) (σ := σ) (r := r2) n1 (w := 2) (by decide)
          rw [if_neg q4]
          refine ⟨g3, r2, ?_, (f4.tr f5).tr f8, y5, m8⟩
          simp (decide := true) only [e183, g183_0, g183_6, g183_33, g183_39, g183_42, g183_47, g183_51, g183_58, g183_64, g183_67, g183_72, bm_run_ite, Option.toList_some, Option.bind_some, Option.toList_some, Option.toList_none, List.cons_append, List.nil_append, List.append_nil, eq_self, not_true_eq_false, not_false_eq_true, ite_true, ite_false, ↓reduceIte, Nat.reduceLT, Nat.reduceEqDiff, Nat.reduceAdd, or_true, true_or, or_false, false_or, k1, k2, k4, nI_1, k5, k6, k8]
      | inr a =>
        obtain ⟨w, j2⟩ := a
        rw [hx] at o5
        have b0 : ¬ g2 11 = 0 := MF.n0 (show MF T n w j2 g2 from o5)
        have k6 := m174e (S := S) (d := D + 7) (σ := σ) (r := r2) b0 38
        have k8 := m172e (S := S) (d := D + 8) (σ := σ) (r := r2) b0 2
        refine ⟨g2, r2, ?_, f4.tr f5, y5, o5⟩
        simp (decide := true) only [e183, g183_0, g183_6, g183_33, g183_39, g183_42, g183_47, g183_51, g183_58, g183_64, g183_67, g183_72, bm_run_ite, Option.toList_some, Option.bind_some, Option.toList_some, Option.toList_none, List.cons_append, List.nil_append, List.append_nil, eq_self, not_true_eq_false, not_false_eq_true, ite_true, ite_false, ↓reduceIte, Nat.reduceLT, Nat.reduceEqDiff, Nat.reduceAdd, or_true, true_or, or_false, false_or, k1, k2, k4, nI_1, k5, k6, k8]
    · rw [if_pos (show 6 ≤ op by omega)]
      refine ⟨g1, r, ?_, f4, FR.rfl r, m4⟩
      simp (decide := true) only [e183, g183_0, g183_6, g183_33, g183_39, g183_42, g183_47, g183_50, bm_run_ite, Option.toList_some, Option.bind_some, Option.toList_some, Option.toList_none, List.cons_append, List.nil_append, List.append_nil, eq_self, not_true_eq_false, not_false_eq_true, ite_true, ite_false, ↓reduceIte, Nat.reduceLT, Nat.reduceEqDiff, Nat.reduceAdd, or_true, true_or, or_false, false_or, k1, k2, k4]
  rw [if_neg q2]
  have k2 := no_173 (S := S) (d := D + 8) (σ := σ) (r := r) m (w := 30) (by decide) q2
  rw [v30] at k2
  obtain ⟨g2, r2, k5, f5, y5, o5⟩ := hc2 i C g r hi hCi m c ht
  have gj := pz_gr (time := time) (v := vN T n) (R := K + 1) hK f 3 op i C hi
  have err : ∀ (w : Int32) (j : Nat) (gx rx : Nat → Int32), MF T n w j gx → FG g gx → FR r rx → bm_call S (D + 9) 183 [.ref 218, .int (nI op)] (st2 σ g r) = bm_run S (D + 9) 183 151 [some (.ref 218), some (.int (nI op)), some (.int 3005)] [] (st2 σ gx rx) → MC S (D + 9) T n σ 183 (nI op) (Sum.inr (w, j)) g r := by
    intro w j gx rx mf fx yx run
    have b0 := MF.n0 mf
    have k6 := m182e (S := S) (d := D + 5) (σ := σ) (r := rx) b0 (nI op)
    have k8 := m178e (S := S) (d := D + 8) (σ := σ) (r := rx) b0 3005
    refine ⟨gx, rx, run.trans ?_, fx, yx, mf⟩
    rw [g183_151]
    simp (decide := true) only [bm_run_ite, Option.toList_some, Option.bind_some, Option.toList_some, Option.toList_none, List.cons_append, List.nil_append, List.append_nil, eq_self, not_true_eq_false, not_false_eq_true, ite_true, ite_false, ↓reduceIte, Nat.reduceLT, Nat.reduceEqDiff, Nat.reduceAdd, or_true, true_or, or_false, false_or, k6, g183_156, k8, g183_161]
  cases hx : pz time (qN T n) (vN T n) (K + 1) f 3 op i C with
  | inl a =>
    obtain ⟨j2, C2⟩ := a
    rw [hx] at o5
    obtain ⟨n1, n2, n3⟩ := o5
    obtain ⟨z1, z2, E, z3, z4⟩ := gj j2 C2 hx
    show MC S (D + 9) T n σ 183 (nI op) (if cpz (qN T n j2) = 0 then rfz (qN T n) j2 2 else bdz (pz time (qN T n) (vN T n) (K + 1) f 3 op (j2 + 1) C2) (fun j2b C2b => Sum.inl (j2b, C2b ++ [cpz (qN T n j2)]))) g r
    have go : bm_call S (D + 9) 183 [.ref 218, .int (nI op)] (st2 σ g r) = bm_run S (D + 9) 183 78 [some (.ref 218), some (.int (nI op)), none] [] (st2 σ g2 r2) := by
      simp (decide := true) only [e183, g183_0, g183_6, g183_33, g183_39, g183_73, bm_run_ite, Option.toList_some, Option.bind_some, Option.toList_some, Option.toList_none, List.cons_append, List.nil_append, List.append_nil, eq_self, not_true_eq_false, not_false_eq_true, ite_true, ite_false, ↓reduceIte, Nat.reduceLT, Nat.reduceEqDiff, Nat.reduceAdd, or_true, true_or, or_false, false_or, k1, k2, k5]
    -- a comparing
    have cmp : ∀ code : Int32, cpz (qN T n j2) = code → ¬ code = 0 → ¬ qN T n j2 = 21 → bm_run S (D + 9) 183 78 [some (.ref 218), some (.int (nI op)), none] [] (st2 σ g2 r2) = bm_run S (D + 9) 183 139 [some (.ref 218), some (.int (nI op)), some (.int code)] [] (st2 σ g2 r2) → MC S (D + 9) T n σ 183 (nI op) (if cpz (qN T n j2) = 0 then rfz (qN T n) j2 2 else bdz (pz time (qN T n) (vN T n) (K + 1) f 3 op (j2 + 1) C2) (fun j2b C2b => Sum.inl (j2b, C2b ++ [cpz (qN T n j2)]))) g r := by
      intro code e0 e1 e21 run
      have jK : j2 < K := lt_K hK z2 e21
      obtain ⟨g3, k6, m6, f6⟩ := m171t (S := S) (d := D + 2) (r := r2) h n1
      obtain ⟨g4, r4, k7, f7, y7, o7⟩ := hc2 (j2 + 1) C2 g3 r2 (by omega) (by omega) m6 n2 (f6.t (f5.t ht))
      have gj2 := pz_gr (time := time) (v := vN T n) (R := K + 1) hK f 3 op (j2 + 1) C2 (by omega)
      rw [e0, if_neg e1]
      cases hy : pz time (qN T n) (vN T n) (K + 1) f 3 op (j2 + 1) C2 with
      | inl b =>
        obtain ⟨j3, C3⟩ := b
        rw [hy] at o7
        obtain ⟨p1, p2, p3⟩ := o7
        obtain ⟨w1, w2, E2, w3, w4⟩ := gj2 j3 C3 hy
        have lC : C3.length + 1 ≤ j3 := by rw [w3, z3]; simp only [List.length_append]; omega
        obtain ⟨r5, k8, c5, y8⟩ := m178 (S := S) (d := D + 8) (σ := σ) p1.1 p2 (by omega) code
        refine ⟨g4, r5, go.trans (run.trans ?_), (f5.tr f6).tr f7, (y5.tr y7).tr y8, p1, c5, by rw [List.length_append]; exact lC⟩
        rw [g183_139]
        simp (decide := true) only [bm_run_ite, Option.toList_some, Option.bind_some, Option.toList_some, Option.toList_none, List.cons_append, List.nil_append, List.append_nil, eq_self, not_true_eq_false, not_false_eq_true, ite_true, ite_false, ↓reduceIte, Nat.reduceLT, Nat.reduceEqDiff, Nat.reduceAdd, or_true, true_or, or_false, false_or, k6, g183_143, g183_151, k7, g183_156, k8, g183_161]
      | inr b =>
        obtain ⟨w, j3⟩ := b
        rw [hy] at o7
        have b0 : ¬ g4 11 = 0 := MF.n0 (show MF T n w j3 g4 from o7)
        have k8 := m178e (S := S) (d := D + 8) (σ := σ) (r := r4) b0 code
        refine ⟨g4, r4, go.trans (run.trans ?_), (f5.tr f6).tr f7, y5.tr y7, o7⟩
        rw [g183_139]
        simp (decide := true) only [bm_run_ite, Option.toList_some, Option.bind_some, Option.toList_some, Option.toList_none, List.cons_append, List.nil_append, List.append_nil, eq_self, not_true_eq_false, not_false_eq_true, ite_true, ite_false, ↓reduceIte, Nat.reduceLT, Nat.reduceEqDiff, Nat.reduceAdd, or_true, true_or, or_false, false_or, k6, g183_143, g183_151, k7, g183_156, k8, g183_161]
    by_cases a1 : qN T n j2 = 32
    · have x1 := ye_173 (S := S) (d := D + 8) (σ := σ) (r := r2) n1 a1
      rw [v32] at x1
      refine cmp 3003 (by rw [a1]; decide) (by decide) (by rw [a1]; decide) ?_
      rw [g183_78]
      simp (decide := true) only [bm_run_ite, Option.toList_some, Option.bind_some, Option.toList_some, Option.toList_none, List.cons_append, List.nil_append, List.append_nil, eq_self, not_true_eq_false, not_false_eq_true, ite_true, ite_false, ↓reduceIte, Nat.reduceLT, Nat.reduceEqDiff, Nat.reduceAdd, or_true, true_or, or_false, false_or, x1, g183_84, g183_87, g183_111, g183_118]
    have x1 := no_173 (S := S) (d := D + 8) (σ := σ) (r := r2) n1 (w := 32) (by decide) a1
    rw [v32] at x1
    by_cases a2 : qN T n j2 = 33
    · have x2 := ye_173 (S := S) (d := D + 8) (σ := σ) (r := r2) n1 a2
      rw [v33] at x2
      refine cmp 3004 (by rw [a2]; decide) (by decide) (by rw [a2]; decide) ?_
      rw [g183_78]
      simp (decide := true) only [bm_run_ite, Option.toList_some, Option.bind_some, Option.toList_some, Option.toList_none, List.cons_append, List.nil_append, List.append_nil, eq_self, not_true_eq_false, not_false_eq_true, ite_true, ite_false, ↓reduceIte, Nat.reduceLT, Nat.reduceEqDiff, Nat.reduceAdd, or_true, true_or, or_false, false_or, x1, g183_84, g183_93, x2, g183_99, g183_102, g183_111, g183_118, g183_121, g183_127]
    have x2 := no_173 (S := S) (d := D + 8) (σ := σ) (r := r2) n1 (w := 33) (by decide) a2
    rw [v33] at x2
    by_cases a3 : qN T n j2 = 34
    · have x3 := ye_173 (S := S) (d := D + 8) (σ := σ) (r := r2) n1 a3
      rw [v34] at x3
      refine cmp 3005 (by rw [a3]; decide) (by decide) (by rw [a3]; decide) ?_
      rw [g183_78]
      simp (decide := true) only [bm_run_ite, Option.toList_some, Option.bind_some, Option.toList_some, Option.toList_none, List.cons_append, List.nil_append, List.append_nil, eq_self, not_true_eq_false, not_false_eq_true, ite_true, ite_false, ↓reduceIte, Nat.reduceLT, Nat.reduceEqDiff, Nat.reduceAdd, or_true, true_or, or_false, false_or, x1, g183_84, g183_93, x2, g183_99, g183_108, g183_111, g183_118, g183_121, g183_127, g183_130, x3, g183_136]
    have x3 := no_173 (S := S) (d := D + 8) (σ := σ) (r := r2) n1 (w := 34) (by decide) a3
    rw [v34] at x3
    have e0 : cpz (qN T n j2) = 0 := by unfold cpz; rw [if_neg a1, if_neg a2, if_neg a3]
    obtain ⟨g3, k8, m8, f8⟩ := m172t (S := S) (d := D + 8) (σ := σ) (r := r2) n1 (w := 2) (by decide)
    rw [if_pos e0]
    refine err _ _ g3 r2 m8 (f5.tr f8) y5 (go.trans ?_)
    rw [g183_78]
    simp (decide := true) only [bm_run_ite, Option.toList_some, Option.bind_some, Option.toList_some, Option.toList_none, List.cons_append, List.nil_append, List.append_nil, eq_self, not_true_eq_false, not_false_eq_true, ite_true, ite_false, ↓reduceIte, Nat.reduceLT, Nat.reduceEqDiff, Nat.reduceAdd, or_true, true_or, or_false, false_or, x1, g183_84, g183_93, x2, g183_99, g183_108, g183_111, g183_118, g183_121, g183_127, g183_130, x3, g183_136, g183_146, k8]
  | inr a =>
    obtain ⟨w, j2⟩ := a
    rw [hx] at o5
    have b0 : ¬ g2 11 = 0 := MF.n0 (show MF T n w j2 g2 from o5)
    have x0 := m173e (S := S) (d := D + 8) (σ := σ) (r := r2) b0
    have k8 := m172e (S := S) (d := D + 8) (σ := σ) (r := r2) b0 2
    refine err w j2 g2 r2 o5 f5 y5 ?_
    simp (decide := true) only [e183, g183_0, g183_6, g183_33, g183_39, g183_73, bm_run_ite, Option.toList_some, Option.bind_some, Option.toList_some, Option.toList_none, List.cons_append, List.nil_append, List.append_nil, eq_self, not_true_eq_false, not_false_eq_true, ite_true, ite_false, ↓reduceIte, Nat.reduceLT, Nat.reduceEqDiff, Nat.reduceAdd, or_true, true_or, or_false, false_or, k1, k2, k5, g183_78, x0, g183_84, g183_93, g183_99, g183_108, g183_111, g183_118, g183_121, g183_127, g183_130, g183_136, g183_146, k8]
/-- the reference reads as both read -/
theorem MRd (h : tx T n σ) (hK : tkK (qN T n) K) (hKn : K ≤ n) : ∀ f lvl op i C g r, lvl ≤ 5 → op ≤ 6 → muz lvl op < f → i ≤ K → C.length ≤ i → MT T n i g → CD C r → g 15 = bI time → MC S (d + f + 8) T n σ (185 - lvl) (nI op) (pz time (qN T n) (vN T n) (K + 1) f lvl op i C) g r := by
  intro f
  induction f with
  | zero => intro lvl op i C g r h1 h2 h3; omega
  | succ f ih =>
    intro lvl op i C g r h1 h2 h3 hi hC m c ht
    unfold muz at h3 ih
    rcases (show lvl = 5 ∨ lvl = 2 ∨ lvl = 0 ∨ lvl = 1 ∨ lvl = 3 ∨ lvl = 4 by omega) with e | e | e | e | e | e
    · subst e
      exact m180t (D := d + f + 8) h hK hKn (by omega) h2 hi hC m c ht (fun ho i C g r a b x y z => ih 3 (op + 1) i C g r (by omega) (by omega) (by omega) a b x y z)
    · subst e
      exact m183t (D := d + f + 8) h hK hKn (by omega) h2 hi hC m c ht (fun ho i C g r a b x y z => ih 2 (op + 1) i C g r (by omega) (by omega) (by omega) a b x y z) (fun ho i C g r a b x y z => ih 0 (op + 1) i C g r (by omega) (by omega) (by omega) a b x y z) (fun i C g r a b x y z => ih 3 op i C g r (by omega) (by omega) (by omega) a b x y z)
    · subst e
      have ch : ∀ i C g r, i ≤ K → C.length ≤ i → MT T n i g → CD C r → g 15 = bI time → MC S (d + f + 8) T n σ 184 (nI op) (pz time (qN T n) (vN T n) (K + 1) f 1 op i C) g r := fun i C g r a b x y z => ih 1 op i C g r (by omega) h2 (by omega) a b x y z
      have gr : ∀ i C, i ≤ K → grz i C K (pz time (qN T n) (vN T n) (K + 1) f 1 op i C) := fun i C hi => pz_gr hK f 1 op i C hi
      obtain ⟨g2, r2, k5, f2, y2, o5⟩ := ch i C g r hi hC m c ht
      rw [pz, if_neg (by decide), if_neg (by decide)]
      show MC S (d + f + 9) T n σ 185 (nI op) (bdz (pz time (qN T n) (vN T n) (K + 1) f 1 op i C) (lpz (qN T n) 0 (fun j C1 => pz time (qN T n) (vN T n) (K + 1) f 1 op j C1) (K + 1))) g r
      cases hx : pz time (qN T n) (vN T n) (K + 1) f 1 op i C with
      | inl a =>
        obtain ⟨j, C1⟩ := a
        rw [hx] at o5
        obtain ⟨n1, n2, n3⟩ := o5
        obtain ⟨z1, z2, _⟩ := gr i C hi j C1 hx
        obtain ⟨g3, r3, k6, f3, y3, o6⟩ := m185l (D := d + f + 8) h hK hKn (by omega) gr ch (K + 1) j C1 g2 r2 z2 (by omega) n3 n1 n2 (f2.t ht)
        refine ⟨g3, r3, ?_, f2.tr f3, y2.tr y3, o6⟩
        rw [← k6]
        simp (decide := true) only [e185, g185_0, bm_run_ite, Option.toList_some, Option.bind_some, Option.toList_some, Option.toList_none, List.cons_append, List.nil_append, List.append_nil, eq_self, not_true_eq_false, not_false_eq_true, ite_true, ite_false, ↓reduceIte, Nat.reduceLT, Nat.reduceEqDiff, Nat.reduceAdd, or_true, true_or, or_false, false_or, k5]
      | inr a =>
        obtain ⟨w, j⟩ := a
        rw [hx] at o5
        have b0 : ¬ g2 11 = 0 := MF.n0 (show MF T n w j g2 from o5)
        have k9 := m174e (S := S) (d := d + f + 7) (σ := σ) (r := r2) b0 17
        refine ⟨g2, r2, ?_, f2, y2, o5⟩
        simp (decide := true) only [e185, g185_0, bm_run_ite, Option.toList_some, Option.bind_some, Option.toList_some, Option.toList_none, List.cons_append, List.nil_append, List.append_nil, eq_self, not_true_eq_false, not_false_eq_true, ite_true, ite_false, ↓reduceIte, Nat.reduceLT, Nat.reduceEqDiff, Nat.reduceAdd, or_true, true_or, or_false, false_or, k5, g185_5, k9, g185_11, g185_29]
    · subst e
      have ch : ∀ i C g r, i ≤ K → C.length ≤ i → MT T n i g → CD C r → g 15 = bI time → MC S (d + f + 8) T n σ 183 (nI op) (pz time (qN T n) (vN T n) (K + 1) f 2 op i C) g r := fun i C g r a b x y z => ih 2 op i C g r (by omega) h2 (by omega) a b x y z
      have gr : ∀ i C, i ≤ K → grz i C K (pz time (qN T n) (vN T n) (K + 1) f 2 op i C) := fun i C hi => pz_gr hK f 2 op i C hi
      obtain ⟨g2, r2, k5, f2, y2, o5⟩ := ch i C g r hi hC m c ht
      rw [pz, if_neg (by decide), if_neg (by decide)]
      show MC S (d + f + 9) T n σ 184 (nI op) (bdz (pz time (qN T n) (vN T n) (K + 1) f 2 op i C) (lpz (qN T n) 1 (fun j C1 => pz time (qN T n) (vN T n) (K + 1) f 2 op j C1) (K + 1))) g r
      cases hx : pz time (qN T n) (vN T n) (K + 1) f 2 op i C with
      | inl a =>
        obtain ⟨j, C1⟩ := a
        rw [hx] at o5
        obtain ⟨n1, n2, n3⟩ := o5
        obtain ⟨z1, z2, _⟩ := gr i C hi j C1 hx
        obtain ⟨g3, r3, k6, f3, y3, o6⟩ := m184l (D := d + f + 8) h hK hKn (by omega) gr ch (K + 1) j C1 g2 r2 z2 (by omega) n3 n1 n2 (f2.t ht)
        refine ⟨g3, r3, ?_, f2.tr f3, y2.tr y3, o6⟩
        rw [← k6]
        simp (decide := true) only [e184, g184_0, bm_run_ite, Option.toList_some, Option.bind_some, Option.toList_some, Option.toList_none, List.cons_append, List.nil_append, List.append_nil, eq_self, not_true_eq_false, not_false_eq_true, ite_true, ite_false, ↓reduceIte, Nat.reduceLT, Nat.reduceEqDiff, Nat.reduceAdd, or_true, true_or, or_false, false_or, k5]
      | inr a =>
        obtain ⟨w, j⟩ := a
        rw [hx] at o5
        have b0 : ¬ g2 11 = 0 := MF.n0 (show MF T n w j g2 from o5)
        have k9 := m174e (S := S) (d := d + f + 7) (σ := σ) (r := r2) b0 16
        refine ⟨g2, r2, ?_, f2, y2, o5⟩
        simp (decide := true) only [e184, g184_0, bm_run_ite, Option.toList_some, Option.bind_some, Option.toList_some, Option.toList_none, List.cons_append, List.nil_append, List.append_nil, eq_self, not_true_eq_false, not_false_eq_true, ite_true, ite_false, ↓reduceIte, Nat.reduceLT, Nat.reduceEqDiff, Nat.reduceAdd, or_true, true_or, or_false, false_or, k5, g184_5, k9, g184_11, g184_29]
    · subst e
      have ch : ∀ i C g r, i ≤ K → C.length ≤ i → MT T n i g → CD C r → g 15 = bI time → MC S (d + f + 8) T n σ 181 (nI op) (pz time (qN T n) (vN T n) (K + 1) f 4 op i C) g r := fun i C g r a b x y z => ih 4 op i C g r (by omega) h2 (by omega) a b x y z
      have gr : ∀ i C, i ≤ K → grz i C K (pz time (qN T n) (vN T n) (K + 1) f 4 op i C) := fun i C hi => pz_gr hK f 4 op i C hi
      obtain ⟨g2, r2, k5, f2, y2, o5⟩ := ch i C g r hi hC m c ht
      rw [pz, if_neg (by decide), if_neg (by decide)]
      show MC S (d + f + 9) T n σ 182 (nI op) (bdz (pz time (qN T n) (vN T n) (K + 1) f 4 op i C) (lpz (qN T n) 3 (fun j C1 => pz time (qN T n) (vN T n) (K + 1) f 4 op j C1) (K + 1))) g r
      cases hx : pz time (qN T n) (vN T n) (K + 1) f 4 op i C with
      | inl a =>
        obtain ⟨j, C1⟩ := a
        rw [hx] at o5
        obtain ⟨n1, n2, n3⟩ := o5
        obtain ⟨z1, z2, _⟩ := gr i C hi j C1 hx
        obtain ⟨g3, r3, k6, f3, y3, o6⟩ := m182l (D := d + f + 8) h hK hKn (by omega) gr ch (K + 1) j C1 g2 r2 none z2 (by omega) n3 n1 n2 (f2.t ht)
        refine ⟨g3, r3, ?_, f2.tr f3, y2.tr y3, o6⟩
        rw [← k6]
        simp (decide := true) only [e182, g182_0, bm_run_ite, Option.toList_some, Option.bind_some, Option.toList_some, Option.toList_none, List.cons_append, List.nil_append, List.append_nil, eq_self, not_true_eq_false, not_false_eq_true, ite_true, ite_false, ↓reduceIte, Nat.reduceLT, Nat.reduceEqDiff, Nat.reduceAdd, or_true, true_or, or_false, false_or, k5]
      | inr a =>
        obtain ⟨w, j⟩ := a
        rw [hx] at o5
        have b0 : ¬ g2 11 = 0 := MF.n0 (show MF T n w j g2 from o5)
        have k9 := m173e (S := S) (d := d + f + 8) (σ := σ) (r := r2) b0
        refine ⟨g2, r2, ?_, f2, y2, o5⟩
        simp (decide := true) only [e182, g182_0, bm_run_ite, Option.toList_some, Option.bind_some, Option.toList_some, Option.toList_none, List.cons_append, List.nil_append, List.append_nil, eq_self, not_true_eq_false, not_false_eq_true, ite_true, ite_false, ↓reduceIte, Nat.reduceLT, Nat.reduceEqDiff, Nat.reduceAdd, or_true, true_or, or_false, false_or, k5, g182_5, k9, g182_11, g182_14, g182_20, g182_59]
    · subst e
      have ch : ∀ i C g r, i ≤ K → C.length ≤ i → MT T n i g → CD C r → g 15 = bI time → MC S (d + f + 8) T n σ 180 (nI op) (pz time (qN T n) (vN T n) (K + 1) f 5 op i C) g r := fun i C g r a b x y z => ih 5 op i C g r (by omega) h2 (by omega) a b x y z
      have gr : ∀ i C, i ≤ K → grz i C K (pz time (qN T n) (vN T n) (K + 1) f 5 op i C) := fun i C hi => pz_gr hK f 5 op i C hi
      obtain ⟨g2, r2, k5, f2, y2, o5⟩ := ch i C g r hi hC m c ht
      rw [pz, if_neg (by decide), if_neg (by decide)]
      show MC S (d + f + 9) T n σ 181 (nI op) (bdz (pz time (qN T n) (vN T n) (K + 1) f 5 op i C) (lpz (qN T n) 4 (fun j C1 => pz time (qN T n) (vN T n) (K + 1) f 5 op j C1) (K + 1))) g r
      cases hx : pz time (qN T n) (vN T n) (K + 1) f 5 op i C with
      | inl a =>
        obtain ⟨j, C1⟩ := a
        rw [hx] at o5
        obtain ⟨n1, n2, n3⟩ := o5
        obtain ⟨z1, z2, _⟩ := gr i C hi j C1 hx
        obtain ⟨g3, r3, k6, f3, y3, o6⟩ := m181l (D := d + f + 8) h hK hKn (by omega) gr ch (K + 1) j C1 g2 r2 z2 (by omega) n3 n1 n2 (f2.t ht)
        refine ⟨g3, r3, ?_, f2.tr f3, y2.tr y3, o6⟩
        rw [← k6]
        simp (decide := true) only [e181, g181_0, bm_run_ite, Option.toList_some, Option.bind_some, Option.toList_some, Option.toList_none, List.cons_append, List.nil_append, List.append_nil, eq_self, not_true_eq_false, not_false_eq_true, ite_true, ite_false, ↓reduceIte, Nat.reduceLT, Nat.reduceEqDiff, Nat.reduceAdd, or_true, true_or, or_false, false_or, k5]
      | inr a =>
        obtain ⟨w, j⟩ := a
        rw [hx] at o5
        have b0 : ¬ g2 11 = 0 := MF.n0 (show MF T n w j g2 from o5)
        have k9 := m174e (S := S) (d := d + f + 7) (σ := σ) (r := r2) b0 34
        refine ⟨g2, r2, ?_, f2, y2, o5⟩
        simp (decide := true) only [e181, g181_0, bm_run_ite, Option.toList_some, Option.bind_some, Option.toList_some, Option.toList_none, List.cons_append, List.nil_append, List.append_nil, eq_self, not_true_eq_false, not_false_eq_true, ite_true, ite_false, ↓reduceIte, Nat.reduceLT, Nat.reduceEqDiff, Nat.reduceAdd, or_true, true_or, or_false, false_or, k5, g181_5, k9, g181_11, g181_29]
end MLEX
