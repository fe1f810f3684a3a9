section CASHIN
variable {S : am_S} {d : Nat} {σ : bm_S} {M L : Nat}
theorem p_cashIn (h : RS M L σ) (i n : Int32) : PR S (d + 10) 129 249 [.int i, .int n] σ := by
  have hM := h.rw.M6
  have hL := h.rw.L12
  have hr := h.rw
  have hb := h.bk
  have hg := h.ga
  generalize hB : σ.1 219 = B at *
  cases hi : hasI i M
  · refine PR.of (v := .int (Int32.ofInt (-2))) h ⟨σ, by simp only [e129, g129_0, g129_8, g129_11, g129_14, g129_23, g129_26, g129_29, g129_40, g129_52, g129_66, bm_run_ite, Option.toList_some, Option.bind_some, Option.toList_some, Option.toList_none, List.cons_append, List.nil_append, List.append_nil, eq_self, not_true_eq_false, not_false_eq_true, ite_true, ite_false, ↓reduceIte, Nat.reduceLT, Nat.reduceEqDiff, Nat.reduceAdd, or_true, true_or, or_false, false_or, c78 hr, hi, bI_itn, Bool.false_eq_true], Kp.rfl σ⟩ ?_
    intro τ hτ eB _
    exact ⟨_, by simp (decide := true) only [e249, g249_0, g249_11, g249_14, g249_17, g249_21, g249_24, g249_27, g249_31, g249_36, g249_50, bm_run_ite, Option.toList_some, Option.bind_some, Option.toList_some, Option.toList_none, List.cons_append, List.nil_append, List.append_nil, eq_self, not_true_eq_false, not_false_eq_true, ite_true, ite_false, ↓reduceIte, Nat.reduceLT, Nat.reduceEqDiff, Nat.reduceAdd, or_true, true_or, or_false, false_or, m193i hτ.t0.mr, hi, bI_itn, Bool.false_eq_true], kp_t0 τ⟩
  · obtain ⟨m, hm, rfl⟩ := hasI_of hi (by omega)
    rcases bW_01 n.toInt64 0 30 with q | q
    · refine PR.of (v := .int (Int32.ofInt (-3))) h ⟨σ, by simp (decide := true) only [e129, g129_0, g129_8, g129_11, g129_14, g129_23, g129_26, g129_29, g129_40, g129_52, g129_66, bm_run_ite, Option.toList_some, Option.bind_some, Option.toList_some, Option.toList_none, List.cons_append, List.nil_append, List.append_nil, eq_self, not_true_eq_false, not_false_eq_true, ite_true, ite_false, ↓reduceIte, Nat.reduceLT, Nat.reduceEqDiff, Nat.reduceAdd, or_true, true_or, or_false, false_or, c78 hr, hi, bI_itn, c157, q], Kp.rfl σ⟩ ?_
      intro τ hτ eB _
      exact ⟨_, by simp (decide := true) only [e249, g249_0, g249_11, g249_14, g249_17, g249_21, g249_24, g249_27, g249_31, g249_36, g249_50, bm_run_ite, Option.toList_some, Option.bind_some, Option.toList_some, Option.toList_none, List.cons_append, List.nil_append, List.append_nil, eq_self, not_true_eq_false, not_false_eq_true, ite_true, ite_false, ↓reduceIte, Nat.reduceLT, Nat.reduceEqDiff, Nat.reduceAdd, or_true, true_or, or_false, false_or, m193i hτ.t0.mr, hi, bI_itn, m241, q], kp_t0 τ⟩
    · obtain ⟨k, hk0, hk, rfl⟩ := bW_of (a := 0) (b := 30) (by decide +kernel) (by decide +kernel) (by decide) q
      refine PR.of (v := .int (goB M L B k (26 + m))) h ?_ ?_
      · obtain ⟨σ1, e1, f1, w1⟩ := c77 (S := S) (d := d + 6) (σ := σ) hr.iw w149 (by omega)
        obtain ⟨σ2, e2, h2, f2⟩ := c35 (S := S) (d := d + 4) (b := 2) (w1 hr) (f1.b.BK (by unfold ob; omega) hb) (by unfold ob; omega) hg k (by omega)
        have k4 : bm_call S (d + 9) 158 [.ref 150, .int (nI m)] σ2 = _ := h2.a1 hm
        refine ⟨σ2, ?_, (f1.b.tr f2).kp (by omega)⟩
        simp (decide := true) only [e129, g129_0, g129_8, g129_11, g129_14, g129_23, g129_26, g129_29, g129_40, g129_52, g129_66, e34, g34_0, g34_8, bm_run_ite, Option.toList_some, Option.bind_some, Option.toList_some, Option.toList_none, List.cons_append, List.nil_append, List.append_nil, eq_self, not_true_eq_false, not_false_eq_true, ite_true, ite_false, ↓reduceIte, Nat.reduceLT, Nat.reduceEqDiff, Nat.reduceAdd, or_true, true_or, or_false, false_or, c78 hr, hi, bI_itn, c157, q, e1, e2, k4]
      · intro τ hτ eB _
        rw [hB] at eB
        have h0 := hτ.t0
        have e0 := (t0_B τ).trans eB
        obtain ⟨g1, e1, k1⟩ := m215 (S := S) (d := d + 9) (σ := bm_wi τ 218 0 0)
        rw [e0] at k1
        have r7 : (bm_row (bm_wi τ 218 0 0) 228 g1).1 219 = B := (bm_row_1n _ _ (by decide)).trans e0
        have hm3 := h0.mr.m
        have hm25 := h0.mr.l
        rw [e0] at hm3 hm25
        obtain ⟨σ2, e2, b2, f2⟩ := m248 (S := S) (d := d + 3) (σ := bm_row (bm_wi τ 218 0 0) 228 g1) ⟨⟨hM, hL⟩, by rw [r7]; exact hm3, by rw [r7]; exact hm25⟩ (by rw [r7]; exact hg) k (by omega)
        rw [r7] at b2
        have e26 : σ2.1 228 = g1 := by rw [f2.1 228 (by decide) (by decide) (by decide), row_row1]
        have ea := again (σ := bm_wi τ 218 0 0) (τ := σ2) (by rw [e0]; exact k1) e26 (fun i hi => by rw [b2, e0]; exact goB_out hM hL (by omega) k)
        have fu := f2.again
        refine ⟨bm_row σ2 219 ((bm_wi τ 218 0 0).1 219), ?_, (kp_t0 τ).tr fu.kp⟩
        simp (disch := omega) only [bm_run_ite, Option.toList_some, Option.bind_some, Option.toList_some, Option.toList_none, List.cons_append, List.nil_append, List.append_nil, eq_self, not_true_eq_false, not_false_eq_true, ite_true, ite_false, ↓reduceIte, Nat.reduceLT, Nat.reduceEqDiff, Nat.reduceAdd, or_true, true_or, or_false, false_or, nI_clamp2, nI_lt0F, nI_leT, nI_leF, nI_ltT, nI_ltF, n_leF, n_leT, nI_1, kA6, kA8, kA10, kA22, kA26, kA32, kA44, kA56, kA68, kA80, kA93, kA163, kA794, not_or, or_self, and_self, and_true, true_and, e249, g249_0, g249_11, g249_14, g249_17, g249_21, g249_24, g249_27, g249_31, g249_36, g249_50, m193i h0.mr, hi, bI_itn, m241, q, nz10, e1, e2, m216, ea]
        rw [b2]
end CASHIN
