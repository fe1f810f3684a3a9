section COUNT
variable {S : am_S} {d : Nat} {σ : bm_S} {M L : Nat}
theorem m285 (h : MR M L σ) : bm_call S (d + 1) 285 [.ref 218] σ = some (some (.int (orS (oB (σ.1 219)) L)), σ) := by
  have hL := h.L12
  simp only [e285, g285_0]
  refine (loop_eq (fun k => bm_run S (d + 1) 285 4 [some (.ref 218), some (.int (orS (oB (σ.1 219)) k)), some (.int (nI k))] [] σ) L ?_).trans ?_
  · intro k hk
    rw [g285_4]
    simp (disch := omega) only [bm_run_ite, Option.toList_some, Option.bind_some, Option.toList_some, Option.toList_none, List.cons_append, List.nil_append, List.append_nil, eq_self, not_true_eq_false, not_false_eq_true, ite_true, ite_false, ↓reduceIte, Nat.reduceLT, Nat.reduceEqDiff, Nat.reduceAdd, or_true, true_or, or_false, false_or, nI_clamp2, nI_lt0F, nI_leT, nI_leF, nI_ltT, nI_ltF, n_leF, n_leT, nI_1, kA6, kA8, kA10, kA22, kA26, kA32, kA44, kA56, kA68, kA80, kA93, kA163, kA794, not_or, or_self, and_self, and_true, true_and, g285_0, g285_15, g285_21, g285_24, g285_30, g285_31, g285_39, h.l, m202 (show k < 12 by omega), bI_ite]
    cases hp : oB (σ.1 219) k
    · simp only [orS, hp, Bool.false_eq_true, ite_false]
    · simp only [orS, hp, ite_true]; rfl
  · rw [g285_4]
    simp (disch := omega) only [bm_run_ite, Option.toList_some, Option.bind_some, Option.toList_some, Option.toList_none, List.cons_append, List.nil_append, List.append_nil, eq_self, not_true_eq_false, not_false_eq_true, ite_true, ite_false, ↓reduceIte, Nat.reduceLT, Nat.reduceEqDiff, Nat.reduceAdd, or_true, true_or, or_false, false_or, nI_clamp2, nI_lt0F, nI_leT, nI_leF, nI_ltT, nI_ltF, n_leF, n_leT, nI_1, kA6, kA8, kA10, kA22, kA26, kA32, kA44, kA56, kA68, kA80, kA93, kA163, kA794, not_or, or_self, and_self, and_true, true_and, g285_39, h.l]
theorem m286 (h : MR M L σ) : bm_call S d 286 [.ref 218] σ = some (some (.int (smS (fun m => σ.1 219 (26 + m)) M)), σ) := by
  have hM := h.M6
  simp only [e286, g286_0]
  refine (loop_eq (fun k => bm_run S d 286 4 [some (.ref 218), some (.int (smS (fun m => σ.1 219 (26 + m)) k)), some (.int (nI k))] [] σ) M ?_).trans ?_
  · intro k hk
    rw [g286_4]
    simp (disch := omega) only [bm_run_ite, Option.toList_some, Option.bind_some, Option.toList_some, Option.toList_none, List.cons_append, List.nil_append, List.append_nil, eq_self, not_true_eq_false, not_false_eq_true, ite_true, ite_false, ↓reduceIte, Nat.reduceLT, Nat.reduceEqDiff, Nat.reduceAdd, or_true, true_or, or_false, false_or, nI_clamp2, nI_lt0F, nI_leT, nI_leF, nI_ltT, nI_ltF, n_leF, n_leT, nI_1, kA6, kA8, kA10, kA22, kA26, kA32, kA44, kA56, kA68, kA80, kA93, kA163, kA794, not_or, or_self, and_self, and_true, true_and, g286_14, h.m, smS]
  · rw [g286_4]
    simp (disch := omega) only [bm_run_ite, Option.toList_some, Option.bind_some, Option.toList_some, Option.toList_none, List.cons_append, List.nil_append, List.append_nil, eq_self, not_true_eq_false, not_false_eq_true, ite_true, ite_false, ↓reduceIte, Nat.reduceLT, Nat.reduceEqDiff, Nat.reduceAdd, or_true, true_or, or_false, false_or, nI_clamp2, nI_lt0F, nI_leT, nI_leF, nI_ltT, nI_ltF, n_leF, n_leT, nI_1, kA6, kA8, kA10, kA22, kA26, kA32, kA44, kA56, kA68, kA80, kA93, kA163, kA794, not_or, or_self, and_self, and_true, true_and, g286_32, h.m]
theorem p_fault (h : RS M L σ) (w : Int32) : PR S (d + 10) 111 192 [.int w] σ := by
  obtain ⟨f1, f2⟩ := h.2.2.2.2.2
  refine PR.of (v := .int (if w = 0 then σ.1 218 13 else if w = 1 then σ.1 218 14 else Int32.ofInt (-1))) h ⟨σ, ?_, Kp.rfl σ⟩ ?_
  · by_cases w0 : w = 0
    · subst w0; simp (decide := true) only [e111, g111_0, g111_4, g111_9, g111_14, g111_21, g111_22, bm_run_ite, Option.toList_some, Option.bind_some, Option.toList_some, Option.toList_none, List.cons_append, List.nil_append, List.append_nil, eq_self, not_true_eq_false, not_false_eq_true, ite_true, ite_false, ↓reduceIte, Nat.reduceLT, Nat.reduceEqDiff, Nat.reduceAdd, or_true, true_or, or_false, false_or, f1]
    · by_cases w1 : w = 1
      · subst w1; simp (decide := true) only [e111, g111_0, g111_4, g111_9, g111_14, g111_21, g111_22, bm_run_ite, Option.toList_some, Option.bind_some, Option.toList_some, Option.toList_none, List.cons_append, List.nil_append, List.append_nil, eq_self, not_true_eq_false, not_false_eq_true, ite_true, ite_false, ↓reduceIte, Nat.reduceLT, Nat.reduceEqDiff, Nat.reduceAdd, or_true, true_or, or_false, false_or, f2]
      · simp only [e111, g111_0, g111_4, g111_9, g111_14, g111_21, g111_22, bm_run_ite, Option.toList_some, Option.bind_some, Option.toList_some, Option.toList_none, List.cons_append, List.nil_append, List.append_nil, eq_self, not_true_eq_false, not_false_eq_true, ite_true, ite_false, ↓reduceIte, Nat.reduceLT, Nat.reduceEqDiff, Nat.reduceAdd, or_true, true_or, or_false, false_or, w0, w1]
  · intro τ hτ eB k
    have t13 : (bm_wi τ 218 0 0).1 218 13 = σ.1 218 13 := by rw [wi_s, upd_n _ _ (by decide)]; exact k 13 (by omega)
    have t14 : (bm_wi τ 218 0 0).1 218 14 = σ.1 218 14 := by rw [wi_s, upd_n _ _ (by decide)]; exact k 14 (by omega)
    refine ⟨bm_wi τ 218 0 0, ?_, kp_t0 τ⟩
    by_cases w0 : w = 0
    · subst w0; simp (decide := true) only [e192, g192_0, g192_9, g192_16, g192_21, g192_28, g192_29, bm_run_ite, Option.toList_some, Option.bind_some, Option.toList_some, Option.toList_none, List.cons_append, List.nil_append, List.append_nil, eq_self, not_true_eq_false, not_false_eq_true, ite_true, ite_false, ↓reduceIte, Nat.reduceLT, Nat.reduceEqDiff, Nat.reduceAdd, or_true, true_or, or_false, false_or, t13]
    · by_cases w1 : w = 1
      · subst w1; simp (decide := true) only [e192, g192_0, g192_9, g192_16, g192_21, g192_28, g192_29, bm_run_ite, Option.toList_some, Option.bind_some, Option.toList_some, Option.toList_none, List.cons_append, List.nil_append, List.append_nil, eq_self, not_true_eq_false, not_false_eq_true, ite_true, ite_false, ↓reduceIte, Nat.reduceLT, Nat.reduceEqDiff, Nat.reduceAdd, or_true, true_or, or_false, false_or, t14]
      · simp only [e192, g192_0, g192_9, g192_16, g192_21, g192_28, g192_29, bm_run_ite, Option.toList_some, Option.bind_some, Option.toList_some, Option.toList_none, List.cons_append, List.nil_append, List.append_nil, eq_self, not_true_eq_false, not_false_eq_true, ite_true, ite_false, ↓reduceIte, Nat.reduceLT, Nat.reduceEqDiff, Nat.reduceAdd, or_true, true_or, or_false, false_or, w0, w1]
theorem p_count (h : RS M L σ) (w : Int32) : PR S (d + 10) 152 287 [.int w] σ := by
  have hr := h.rw
  obtain ⟨hb, ⟨b0, b1, b2⟩, _⟩ := h.bk
  obtain ⟨n, e, _, _, p3, p4, _⟩ := h.2.1
  obtain ⟨t, _, t2, t3, _⟩ := h.2.2.2.2.1
  have m3 := h.mr.m
  have m25 := h.mr.l
  generalize hB : σ.1 219 = B at *
  refine PR.of (v := .int (if w = 0 then B 1 else if w = 1 then B 2 else if w = 2 then nI M else if w = 3 then B 24 else if w = 4 then nI L else if w = 5 then orS (oB B) L else if w = 6 then B 22 else if w = 7 then smS (fun m => B (26 + m)) M else if w = 8 then nI n else if w = 9 then nI t else if w = 10 then B 0 else Int32.ofInt (-1))) h ⟨σ, ?_, Kp.rfl σ⟩ ?_
  · simp only [e152, g152_0, bm_run_ite, g152_60, g152_68, g152_76, g152_84, g152_92, g152_100, g152_107, g152_108, g152_116, g152_123, g152_124, g152_132, g152_137, g152_145, bm_run_ite, Option.toList_some, Option.bind_some, Option.toList_some, Option.toList_none, List.cons_append, List.nil_append, List.append_nil, eq_self, not_true_eq_false, not_false_eq_true, ite_true, ite_false, ↓reduceIte, Nat.reduceLT, Nat.reduceEqDiff, Nat.reduceAdd, or_true, true_or, or_false, false_or, b0, b1, b2, hr.f0, hr.f1, hr.f2, hr.f3, c83 hr, c85 hr, p4, t2]
    by_cases w0 : w = 0
    · subst w0; simp (decide := true) only [if_true, if_false]
    · by_cases w1 : w = 1
      · subst w1; simp (decide := true) only [if_true, if_false]
      · by_cases w2 : w = 2
        · subst w2; simp (decide := true) only [if_true, if_false]
        · by_cases w3 : w = 3
          · subst w3; simp (decide := true) only [if_true, if_false]
          · by_cases w4 : w = 4
            · subst w4; simp (decide := true) only [if_true, if_false]
            · by_cases w5 : w = 5
              · subst w5; simp (decide := true) only [if_true, if_false]
              · by_cases w6 : w = 6
                · subst w6; simp (decide := true) only [if_true, if_false]
                · by_cases w7 : w = 7
                  · subst w7; simp (decide := true) only [if_true, if_false]
                  · by_cases w8 : w = 8
                    · subst w8; simp (decide := true) only [if_true, if_false]
                    · by_cases w9 : w = 9
                      · subst w9; simp (decide := true) only [if_true, if_false]
                      · by_cases w10 : w = 10
                        · subst w10; simp (decide := true) only [if_true, if_false]
                        · simp only [w0, w1, w2, w3, w4, w5, w6, w7, w8, w9, w10, if_false]
  · intro τ hτ eB k
    rw [hB] at eB
    have h0 := hτ.t0
    have e0 := (t0_B τ).trans eB
    have t5 : (bm_wi τ 218 0 0).1 218 5 = nI t := by rw [wi_s, upd_n _ _ (by decide), k 5 (by omega)]; exact t3
    have k5 := m285 (S := S) (d := d + 8) h0.mr
    have k7 := m286 (S := S) (d := d + 9) h0.mr
    rw [e0] at k5 k7
    refine ⟨bm_wi τ 218 0 0, ?_, kp_t0 τ⟩
    simp only [e287, g287_0, bm_run_ite, g287_64, g287_71, g287_78, g287_85, g287_93, g287_101, g287_105, g287_106, g287_114, g287_118, g287_119, g287_127, g287_132, g287_139, bm_run_ite, Option.toList_some, Option.bind_some, Option.toList_some, Option.toList_none, List.cons_append, List.nil_append, List.append_nil, eq_self, not_true_eq_false, not_false_eq_true, ite_true, ite_false, ↓reduceIte, Nat.reduceLT, Nat.reduceEqDiff, Nat.reduceAdd, or_true, true_or, or_false, false_or, e0, k5, k7, t5, m3, m25, p3]
    by_cases w0 : w = 0
    · subst w0; simp (decide := true) only [if_true, if_false]
    · by_cases w1 : w = 1
      · subst w1; simp (decide := true) only [if_true, if_false]
      · by_cases w2 : w = 2
        · subst w2; simp (decide := true) only [if_true, if_false]
        · by_cases w3 : w = 3
          · subst w3; simp (decide := true) only [if_true, if_false]
          · by_cases w4 : w = 4
            · subst w4; simp (decide := true) only [if_true, if_false]
            · by_cases w5 : w = 5
              · subst w5; simp (decide := true) only [if_true, if_false]
              · by_cases w6 : w = 6
                · subst w6; simp (decide := true) only [if_true, if_false]
                · by_cases w7 : w = 7
                  · subst w7; simp (decide := true) only [if_true, if_false]
                  · by_cases w8 : w = 8
                    · subst w8; simp (decide := true) only [if_true, if_false]
                    · by_cases w9 : w = 9
                      · subst w9; simp (decide := true) only [if_true, if_false]
                      · by_cases w10 : w = 10
                        · subst w10; simp (decide := true) only [if_true, if_false]
                        · simp only [w0, w1, w2, w3, w4, w5, w6, w7, w8, w9, w10, if_false]
end COUNT
