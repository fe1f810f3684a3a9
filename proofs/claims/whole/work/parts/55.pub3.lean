section PUB3
variable {S : am_S} {d : Nat} {σ : bm_S} {M L : Nat}
theorem m244 (h : MR M L σ) (g : GO M L (σ.1 219)) (X : Int32) : ∃ g1, bm_call S (d + 2) 244 [.ref 218, .int X] σ = some (some (.int (coF (netF (tb X) (σ.1 219) L) M)), bm_row σ 225 g1) := by
  have hM := h.M6
  obtain ⟨g1, e1, p1⟩ := m208 (S := S) (d := d) h g X
  refine ⟨g1, ?_⟩
  have r7 : (bm_row σ 225 g1).1 219 = σ.1 219 := bm_row_1n _ _ (by decide)
  simp only [e244, g244_0, bm_run_ite, Option.toList_some, Option.bind_some, Option.toList_some, Option.toList_none, List.cons_append, List.nil_append, List.append_nil, eq_self, not_true_eq_false, not_false_eq_true, ite_true, ite_false, ↓reduceIte, Nat.reduceLT, Nat.reduceEqDiff, Nat.reduceAdd, or_true, true_or, or_false, false_or, e1, g244_5]
  refine (loop_eq (fun k => bm_run S (d + 2) 244 9 [some (.ref 218), am_clr (some (.int X)), some (.int (coF (netF (tb X) (σ.1 219) L) k)), some (.int (nI k))] [] (bm_row σ 225 g1)) M ?_).trans ?_
  · intro k hk
    rw [g244_9]
    have ec : coF (netF (tb X) (σ.1 219) L) (k + 1) = coF (netF (tb X) (σ.1 219) L) k + (if netF (tb X) (σ.1 219) L k < 0 then -(netF (tb X) (σ.1 219) L k) else 0) := rfl
    rw [ec]
    by_cases q : netF (tb X) (σ.1 219) L k < 0
    · have q1 : ¬ 0 ≤ netF (tb X) (σ.1 219) L k := Int32.not_le.mpr q
      simp (disch := omega) only [bm_run_ite, Option.toList_some, Option.bind_some, Option.toList_some, Option.toList_none, List.cons_append, List.nil_append, List.append_nil, eq_self, not_true_eq_false, not_false_eq_true, ite_true, ite_false, ↓reduceIte, Nat.reduceLT, Nat.reduceEqDiff, Nat.reduceAdd, or_true, true_or, or_false, false_or, nI_clamp2, nI_lt0F, nI_leT, nI_leF, nI_ltT, nI_ltF, n_leF, n_leT, nI_1, kA6, kA8, kA10, kA22, kA26, kA32, kA44, kA56, kA68, kA80, kA93, kA163, kA794, not_or, or_self, and_self, and_true, true_and, g244_0, g244_5, g244_19, g244_29, g244_39, g244_40, g244_48, r7, h.m, row_row1, p1 k (show k < 6 by omega), q, q1, am_clr]
    · have q1 : 0 ≤ netF (tb X) (σ.1 219) L k := Int32.not_lt.mp q
      simp (disch := omega) only [bm_run_ite, Option.toList_some, Option.bind_some, Option.toList_some, Option.toList_none, List.cons_append, List.nil_append, List.append_nil, eq_self, not_true_eq_false, not_false_eq_true, ite_true, ite_false, ↓reduceIte, Nat.reduceLT, Nat.reduceEqDiff, Nat.reduceAdd, or_true, true_or, or_false, false_or, nI_clamp2, nI_lt0F, nI_leT, nI_leF, nI_ltT, nI_ltF, n_leF, n_leT, nI_1, kA6, kA8, kA10, kA22, kA26, kA32, kA44, kA56, kA68, kA80, kA93, kA163, kA794, not_or, or_self, and_self, and_true, true_and, g244_0, g244_5, g244_19, g244_29, g244_39, g244_40, g244_48, r7, h.m, row_row1, p1 k (show k < 6 by omega), q, q1, am_clr]
  · rw [g244_9]
    simp (disch := omega) only [bm_run_ite, Option.toList_some, Option.bind_some, Option.toList_some, Option.toList_none, List.cons_append, List.nil_append, List.append_nil, eq_self, not_true_eq_false, not_false_eq_true, ite_true, ite_false, ↓reduceIte, Nat.reduceLT, Nat.reduceEqDiff, Nat.reduceAdd, or_true, true_or, or_false, false_or, nI_clamp2, nI_lt0F, nI_leT, nI_leF, nI_ltT, nI_ltF, n_leF, n_leT, nI_1, kA6, kA8, kA10, kA22, kA26, kA32, kA44, kA56, kA68, kA80, kA93, kA163, kA794, not_or, or_self, and_self, and_true, true_and, g244_48, r7, h.m]
theorem m245 (h : MR M L σ) (X : Int32) : bm_call S (d + 1) 245 [.ref 218, .int X] σ = some (some (.int (smS (groF (σ.1 219) (tb X)) L)), σ) := by
  have hL := h.L12
  simp only [e245, g245_0]
  refine (loop_eq (fun k => bm_run S (d + 1) 245 4 [some (.ref 218), some (.int X), some (.int (smS (groF (σ.1 219) (tb X)) k)), some (.int (nI k))] [] σ) L ?_).trans ?_
  · intro k hk
    rw [g245_4]
    simp (disch := omega) only [bm_run_ite, Option.toList_some, Option.bind_some, Option.toList_some, Option.toList_none, List.cons_append, List.nil_append, List.append_nil, eq_self, not_true_eq_false, not_false_eq_true, ite_true, ite_false, ↓reduceIte, Nat.reduceLT, Nat.reduceEqDiff, Nat.reduceAdd, or_true, true_or, or_false, false_or, nI_clamp2, nI_lt0F, nI_leT, nI_leF, nI_ltT, nI_ltF, n_leF, n_leT, nI_1, kA6, kA8, kA10, kA22, kA26, kA32, kA44, kA56, kA68, kA80, kA93, kA163, kA794, not_or, or_self, and_self, and_true, true_and, g245_0, g245_15, g245_22, g245_25, g245_37, g245_38, g245_46, h.l, m176 X (show k < 32 by omega), bI_ite]
    cases q : tb X k
    · simp only [smS, groF, q, Bool.false_eq_true, ite_false]
    · simp only [smS, groF, q, ite_true]
  · rw [g245_4]
    simp (disch := omega) only [bm_run_ite, Option.toList_some, Option.bind_some, Option.toList_some, Option.toList_none, List.cons_append, List.nil_append, List.append_nil, eq_self, not_true_eq_false, not_false_eq_true, ite_true, ite_false, ↓reduceIte, Nat.reduceLT, Nat.reduceEqDiff, Nat.reduceAdd, or_true, true_or, or_false, false_or, nI_clamp2, nI_lt0F, nI_leT, nI_leF, nI_ltT, nI_ltF, n_leF, n_leT, nI_1, kA6, kA8, kA10, kA22, kA26, kA32, kA44, kA56, kA68, kA80, kA93, kA163, kA794, not_or, or_self, and_self, and_true, true_and, g245_46, h.l]
theorem groF_or (B : Nat → Int32) (f : Int32) (L : Nat) (hL : L ≤ 12) : smS (groF B (tb (orS (dB B f) L))) L = smS (groF B (dB B f)) L := by
  refine smS_cg (fun l hl => ?_)
  unfold groF
  rw [orS_tb _ (by omega) L (by omega)]; simp [hl]
/-- the coin that settles what is due at a fair -/
def cnB (M L : Nat) (B : Nat → Int32) (f : Int32) : Int32 := coF (netF (dB B f) B L) M
theorem p_coin (h : RS M L σ) (n w : Int32) : PR S (d + 10) 127 246 [.int n, .int w] σ := by
  have hM := h.rw.M6
  have hL := h.rw.L12
  have go := h.ga.1.2.1
  have hr := h.rw
  generalize hB : σ.1 219 = B at *
  refine PR.of (v := .int (if bW w.toInt64 0 2 = 1 then (if bW n.toInt64 0 30 = 1 then (if w = 0 then cnB M L B (B 22 + n) else if w = 1 then smS (groF B (dB B (B 22 + n))) L else smS (groF B (dB B (B 22 + n))) L - cnB M L B (B 22 + n)) else Int32.ofInt (-3)) else Int32.ofInt (-2))) h ?_ ?_
  · obtain ⟨g1, e1⟩ := c88 (S := S) (d := d + 6) hr go (B 22 + n) (Int32.ofInt (-1))
    rw [netF_0 _ _ _ hL] at e1
    rcases bW_01 w.toInt64 0 2 with q | q
    · exact ⟨σ, by simp (decide := true) only [e127, g127_0, g127_9, g127_12, g127_15, g127_24, g127_27, g127_30, g127_46, g127_64, g127_70, g127_73, g127_78, g127_82, g127_86, bm_run_ite, Option.toList_some, Option.bind_some, Option.toList_some, Option.toList_none, List.cons_append, List.nil_append, List.append_nil, eq_self, not_true_eq_false, not_false_eq_true, ite_true, ite_false, ↓reduceIte, Nat.reduceLT, Nat.reduceEqDiff, Nat.reduceAdd, or_true, true_or, or_false, false_or, c157, q], Kp.rfl σ⟩
    · rcases bW_01 n.toInt64 0 30 with q1 | q1
      · exact ⟨σ, by simp (decide := true) only [e127, g127_0, g127_9, g127_12, g127_15, g127_24, g127_27, g127_30, g127_46, g127_64, g127_70, g127_73, g127_78, g127_82, g127_86, bm_run_ite, Option.toList_some, Option.bind_some, Option.toList_some, Option.toList_none, List.cons_append, List.nil_append, List.append_nil, eq_self, not_true_eq_false, not_false_eq_true, ite_true, ite_false, ↓reduceIte, Nat.reduceLT, Nat.reduceEqDiff, Nat.reduceAdd, or_true, true_or, or_false, false_or, c157, q, q1], Kp.rfl σ⟩
      · refine ⟨bm_row σ 13 g1, ?_, (Kp.rfl σ).row (by unfold Sc; omega) g1⟩
        simp (decide := true) only [e127, g127_0, g127_9, g127_12, g127_15, g127_24, g127_27, g127_30, g127_46, g127_64, g127_70, g127_73, g127_78, g127_82, g127_86, bm_run_ite, Option.toList_some, Option.bind_some, Option.toList_some, Option.toList_none, List.cons_append, List.nil_append, List.append_nil, eq_self, not_true_eq_false, not_false_eq_true, ite_true, ite_false, ↓reduceIte, Nat.reduceLT, Nat.reduceEqDiff, Nat.reduceAdd, or_true, true_or, or_false, false_or, c157, q, q1, hr.f3, c89 hr, e1]
        by_cases w0 : w = 0
        · simp only [w0, if_true, not_true_eq_false, if_false]; rfl
        · by_cases w1 : w = 1
          · subst w1; simp (decide := true) only [if_true, if_false]
          · simp only [w0, w1, if_false, not_false_eq_true, if_true]; rfl
  · intro τ hτ eB _
    rw [hB] at eB
    have h0 := hτ.t0
    have e0 := (t0_B τ).trans eB
    have kk := m207 (S := S) (d := d + 8) h0.mr (B 22 + n)
    rw [e0] at kk
    obtain ⟨g1, e1⟩ := m244 (S := S) (d := d + 7) h0.mr (by rw [e0]; exact go) (orS (dB B (B 22 + n)) L)
    rw [e0, netF_or _ _ _ hL] at e1
    have e2 := m245 (S := S) (d := d + 8) h0.mr (orS (dB B (B 22 + n)) L)
    rw [e0, groF_or _ _ _ hL] at e2
    rcases bW_01 w.toInt64 0 2 with q | q
    · exact ⟨_, by simp (decide := true) only [e246, g246_0, g246_14, g246_17, g246_20, g246_24, g246_27, g246_30, g246_43, g246_48, g246_53, g246_56, g246_61, g246_66, g246_69, g246_74, g246_79, g246_80, bm_run_ite, Option.toList_some, Option.bind_some, Option.toList_some, Option.toList_none, List.cons_append, List.nil_append, List.append_nil, eq_self, not_true_eq_false, not_false_eq_true, ite_true, ite_false, ↓reduceIte, Nat.reduceLT, Nat.reduceEqDiff, Nat.reduceAdd, or_true, true_or, or_false, false_or, c163, q], kp_t0 τ⟩
    · rcases bW_01 n.toInt64 0 30 with q1 | q1
      · exact ⟨_, by simp (decide := true) only [e246, g246_0, g246_14, g246_17, g246_20, g246_24, g246_27, g246_30, g246_43, g246_48, g246_53, g246_56, g246_61, g246_66, g246_69, g246_74, g246_79, g246_80, bm_run_ite, Option.toList_some, Option.bind_some, Option.toList_some, Option.toList_none, List.cons_append, List.nil_append, List.append_nil, eq_self, not_true_eq_false, not_false_eq_true, ite_true, ite_false, ↓reduceIte, Nat.reduceLT, Nat.reduceEqDiff, Nat.reduceAdd, or_true, true_or, or_false, false_or, c163, m241, q, q1], kp_t0 τ⟩
      · have k1 : Kp τ (bm_row (bm_wi τ 218 0 0) 225 g1) := (kp_t0 τ).row (by unfold Sc; omega) g1
        by_cases w0 : w = 0
        · subst w0
          exact ⟨bm_row (bm_wi τ 218 0 0) 225 g1, by simp (decide := true) only [e246, g246_0, g246_14, g246_17, g246_20, g246_24, g246_27, g246_30, g246_43, g246_48, g246_53, g246_56, g246_61, g246_66, g246_69, g246_74, g246_79, g246_80, bm_run_ite, Option.toList_some, Option.bind_some, Option.toList_some, Option.toList_none, List.cons_append, List.nil_append, List.append_nil, eq_self, not_true_eq_false, not_false_eq_true, ite_true, ite_false, ↓reduceIte, Nat.reduceLT, Nat.reduceEqDiff, Nat.reduceAdd, or_true, true_or, or_false, false_or, c163, m241, q, q1, e0, kk, e1]; rfl, k1⟩
        · by_cases w1 : w = 1
          · subst w1
            exact ⟨bm_wi τ 218 0 0, by simp (decide := true) only [e246, g246_0, g246_14, g246_17, g246_20, g246_24, g246_27, g246_30, g246_43, g246_48, g246_53, g246_56, g246_61, g246_66, g246_69, g246_74, g246_79, g246_80, bm_run_ite, Option.toList_some, Option.bind_some, Option.toList_some, Option.toList_none, List.cons_append, List.nil_append, List.append_nil, eq_self, not_true_eq_false, not_false_eq_true, ite_true, ite_false, ↓reduceIte, Nat.reduceLT, Nat.reduceEqDiff, Nat.reduceAdd, or_true, true_or, or_false, false_or, c163, m241, q, q1, e0, kk, e2], kp_t0 τ⟩
          · exact ⟨bm_row (bm_wi τ 218 0 0) 225 g1, by simp (decide := true) only [e246, g246_0, g246_14, g246_17, g246_20, g246_24, g246_27, g246_30, g246_43, g246_48, g246_53, g246_56, g246_61, g246_66, g246_69, g246_74, g246_79, g246_80, bm_run_ite, Option.toList_some, Option.bind_some, Option.toList_some, Option.toList_none, List.cons_append, List.nil_append, List.append_nil, eq_self, not_true_eq_false, not_false_eq_true, ite_true, ite_false, ↓reduceIte, Nat.reduceLT, Nat.reduceEqDiff, Nat.reduceAdd, or_true, true_or, or_false, false_or, c163, m241, q, q1, e0, kk, e1, e2, w0, w1]; rfl, k1⟩
/-- the fair with the most coin, of those looked at -/
def hbF (M L : Nat) (B : Nat → Int32) : Nat → Nat
  | 0 => 0
  | k + 1 => if cnB M L B (B 22 + nI (hbF M L B k)) < cnB M L B (B 22 + nI (k + 1)) then k + 1 else hbF M L B k
theorem hbF_le (M L : Nat) (B : Nat → Int32) : ∀ k, hbF M L B k ≤ k := by
  intro k
  induction k with
  | zero => exact Nat.le_refl _
  | succ k ih => rw [hbF]; split <;> omega
theorem p_heaviest (h : RS M L σ) : PR S (d + 10) 128 247 [] σ := by
  have hM := h.rw.M6
  have hL := h.rw.L12
  have go := h.ga.1.2.1
  have hr := h.rw
  generalize hB : σ.1 219 = B at *
  refine PR.of (v := .int (nI (hbF M L B 30))) h ?_ ?_
  · obtain ⟨g0, e0⟩ := c88 (S := S) (d := d + 6) hr go (B 22) (Int32.ofInt (-1))
    rw [netF_0 _ _ _ hL] at e0
    obtain ⟨⟨o4, g1⟩, e1, p1⟩ := loop_ex (fun k (s : Option Value × (Nat → Int32)) => bm_run S (d + 10) 128 20 [some (.ref 0), some (.int (nI (hbF M L B k))), some (.int (cnB M L B (B 22 + nI (hbF M L B k)))), some (.int (nI (k + 1))), s.1] [] (bm_row σ (5 + 8) s.2)) (fun _ _ => True) 30 (none, g0) trivial (by
      intro k s hk _
      have h1 := hr.row8 s.2
      obtain ⟨g1, e1⟩ := c88 (S := S) (d := d + 6) h1 go (B 22 + nI (k + 1)) (Int32.ofInt (-1))
      rw [netF_0 _ _ _ hL, bm_row_row] at e1
      replace e1 : bm_call S (d + 9) 88 [.ref 5, .int (B 22 + nI (k + 1)), .int (Int32.ofInt (-1))] (bm_row σ (5 + 8) s.2) = some (some (.int (cnB M L B (B 22 + nI (k + 1)))), bm_row σ (5 + 8) g1) := e1
      refine ⟨(some (.int (cnB M L B (B 22 + nI (k + 1)))), g1), ?_, trivial⟩
      have f3 := h1.f3
      rw [hbF]
      by_cases q : cnB M L B (B 22 + nI (hbF M L B k)) < cnB M L B (B 22 + nI (k + 1))
      · have q1 : ¬ cnB M L B (B 22 + nI (k + 1)) ≤ cnB M L B (B 22 + nI (hbF M L B k)) := Int32.not_le.mpr q
        rw [g128_20]
        simp (disch := omega) only [bm_run_ite, Option.toList_some, Option.bind_some, Option.toList_some, Option.toList_none, List.cons_append, List.nil_append, List.append_nil, eq_self, not_true_eq_false, not_false_eq_true, ite_true, ite_false, ↓reduceIte, Nat.reduceLT, Nat.reduceEqDiff, Nat.reduceAdd, or_true, true_or, or_false, false_or, nI_clamp2, nI_lt0F, nI_leT, nI_leF, nI_ltT, nI_ltF, n_leF, n_leT, nI_1, kA6, kA8, kA10, kA22, kA26, kA32, kA44, kA56, kA68, kA80, kA93, kA163, kA794, not_or, or_self, and_self, and_true, true_and, g128_0, g128_17, g128_26, g128_43, g128_51, g128_56, g128_62, kI30, f3, e1, q, q1]
      · have q1 : cnB M L B (B 22 + nI (k + 1)) ≤ cnB M L B (B 22 + nI (hbF M L B k)) := Int32.not_lt.mp q
        rw [g128_20]
        simp (disch := omega) only [bm_run_ite, Option.toList_some, Option.bind_some, Option.toList_some, Option.toList_none, List.cons_append, List.nil_append, List.append_nil, eq_self, not_true_eq_false, not_false_eq_true, ite_true, ite_false, ↓reduceIte, Nat.reduceLT, Nat.reduceEqDiff, Nat.reduceAdd, or_true, true_or, or_false, false_or, nI_clamp2, nI_lt0F, nI_leT, nI_leF, nI_ltT, nI_ltF, n_leF, n_leT, nI_1, kA6, kA8, kA10, kA22, kA26, kA32, kA44, kA56, kA68, kA80, kA93, kA163, kA794, not_or, or_self, and_self, and_true, true_and, g128_0, g128_17, g128_26, g128_43, g128_51, g128_56, g128_62, kI30, f3, e1, q, q1])
    refine ⟨bm_row σ 13 g1, ?_, (Kp.rfl σ).row (by unfold Sc; omega) g1⟩
    have z : B 22 + nI 0 = B 22 := Int32.add_zero _
    rw [show nI (hbF M L B 0) = nI 0 from rfl, z] at e1
    simp only [e128, g128_0, bm_run_ite, Option.toList_some, Option.bind_some, Option.toList_some, Option.toList_none, List.cons_append, List.nil_append, List.append_nil, eq_self, not_true_eq_false, not_false_eq_true, ite_true, ite_false, ↓reduceIte, Nat.reduceLT, Nat.reduceEqDiff, Nat.reduceAdd, or_true, true_or, or_false, false_or, hr.f3, e0, g128_17]
    refine (show bm_run S (d + 10) 128 20 [some (.ref 0), some (.int (nI 0)), some (.int (cnB M L B (B 22))), some (.int (nI (0 + 1))), none] [] (bm_row σ (5 + 8) g0) = _ from e1).trans ?_
    rw [g128_20]
    simp (disch := omega) only [bm_run_ite, Option.toList_some, Option.bind_some, Option.toList_some, Option.toList_none, List.cons_append, List.nil_append, List.append_nil, eq_self, not_true_eq_false, not_false_eq_true, ite_true, ite_false, ↓reduceIte, Nat.reduceLT, Nat.reduceEqDiff, Nat.reduceAdd, or_true, true_or, or_false, false_or, nI_clamp2, nI_lt0F, nI_leT, nI_leF, nI_ltT, nI_ltF, n_leF, n_leT, nI_1, kA6, kA8, kA10, kA22, kA26, kA32, kA44, kA56, kA68, kA80, kA93, kA163, kA794, not_or, or_self, and_self, and_true, true_and, g128_62, kI30]
  · intro τ hτ eB _
    rw [hB] at eB
    have h0 := hτ.t0
    have e0 := (t0_B τ).trans eB
    obtain ⟨g1, e1, _⟩ := loop_ex (fun k (s : Nat → Int32) => bm_run S (d + 10) 247 9 [some (.ref 218), some (.int (nI (hbF M L B k))), some (.int (nI (k + 1)))] [] (bm_row (bm_wi τ 218 0 0) 225 s)) (fun _ _ => True) 30 ((bm_wi τ 218 0 0).1 225) trivial (by
      intro k s hk _
      have r7 : ∀ g, (bm_row (bm_wi τ 218 0 0) 225 g).1 219 = B := fun g => (bm_row_1n _ _ (by decide)).trans e0
      have mr : ∀ g, MR M L (bm_row (bm_wi τ 218 0 0) 225 g) := fun g => ⟨h0.mr.1, by rw [r7, ← e0]; exact h0.mr.m, by rw [r7, ← e0]; exact h0.mr.l⟩
      have kk := fun g f => m207 (S := S) (d := d + 8) (mr g) f
      simp only [r7] at kk
      obtain ⟨g1, e1⟩ := m244 (S := S) (d := d + 7) (mr s) (by rw [r7]; exact go) (orS (dB B (B 22 + nI (k + 1))) L)
      rw [r7, netF_or _ _ _ hL, bm_row_row] at e1
      obtain ⟨g2, e2⟩ := m244 (S := S) (d := d + 7) (mr g1) (by rw [r7]; exact go) (orS (dB B (B 22 + nI (hbF M L B k))) L)
      rw [r7, netF_or _ _ _ hL, bm_row_row] at e2
      refine ⟨g2, ?_, trivial⟩
      rw [hbF]
      have d1 : ∀ f, coF (netF (dB B f) B L) M = cnB M L B f := fun _ => rfl
      rw [d1] at e1 e2
      by_cases q : cnB M L B (B 22 + nI (hbF M L B k)) < cnB M L B (B 22 + nI (k + 1))
      · have q1 : ¬ cnB M L B (B 22 + nI (k + 1)) ≤ cnB M L B (B 22 + nI (hbF M L B k)) := Int32.not_le.mpr q
        rw [g247_9]
        simp (disch := omega) only [bm_run_ite, Option.toList_some, Option.bind_some, Option.toList_some, Option.toList_none, List.cons_append, List.nil_append, List.append_nil, eq_self, not_true_eq_false, not_false_eq_true, ite_true, ite_false, ↓reduceIte, Nat.reduceLT, Nat.reduceEqDiff, Nat.reduceAdd, or_true, true_or, or_false, false_or, nI_clamp2, nI_lt0F, nI_leT, nI_leF, nI_ltT, nI_ltF, n_leF, n_leT, nI_1, kA6, kA8, kA10, kA22, kA26, kA32, kA44, kA56, kA68, kA80, kA93, kA163, kA794, not_or, or_self, and_self, and_true, true_and, g247_0, g247_15, g247_29, g247_32, g247_46, g247_49, g247_52, g247_54, g247_60, kI30, r7, kk, e1, e2, q, q1]
      · have q1 : cnB M L B (B 22 + nI (k + 1)) ≤ cnB M L B (B 22 + nI (hbF M L B k)) := Int32.not_lt.mp q
        rw [g247_9]
        simp (disch := omega) only [bm_run_ite, Option.toList_some, Option.bind_some, Option.toList_some, Option.toList_none, List.cons_append, List.nil_append, List.append_nil, eq_self, not_true_eq_false, not_false_eq_true, ite_true, ite_false, ↓reduceIte, Nat.reduceLT, Nat.reduceEqDiff, Nat.reduceAdd, or_true, true_or, or_false, false_or, nI_clamp2, nI_lt0F, nI_leT, nI_leF, nI_ltT, nI_ltF, n_leF, n_leT, nI_1, kA6, kA8, kA10, kA22, kA26, kA32, kA44, kA56, kA68, kA80, kA93, kA163, kA794, not_or, or_self, and_self, and_true, true_and, g247_0, g247_15, g247_29, g247_32, g247_46, g247_49, g247_52, g247_54, g247_60, kI30, r7, kk, e1, e2, q, q1])
    refine ⟨bm_row (bm_wi τ 218 0 0) 225 g1, ?_, (kp_t0 τ).row (by unfold Sc; omega) g1⟩
    rw [bm_row_self] at e1
    simp only [e247, g247_0]
    refine (show bm_run S (d + 10) 247 9 [some (.ref 218), some (.int (nI 0)), some (.int (nI (0 + 1)))] [] (bm_wi τ 218 0 0) = _ from e1).trans ?_
    rw [g247_9]
    simp (disch := omega) only [bm_run_ite, Option.toList_some, Option.bind_some, Option.toList_some, Option.toList_none, List.cons_append, List.nil_append, List.append_nil, eq_self, not_true_eq_false, not_false_eq_true, ite_true, ite_false, ↓reduceIte, Nat.reduceLT, Nat.reduceEqDiff, Nat.reduceAdd, or_true, true_or, or_false, false_or, nI_clamp2, nI_lt0F, nI_leT, nI_leF, nI_ltT, nI_ltF, n_leF, n_leT, nI_1, kA6, kA8, kA10, kA22, kA26, kA32, kA44, kA56, kA68, kA80, kA93, kA163, kA794, not_or, or_self, and_self, and_true, true_and, g247_60, kI30]
end PUB3
