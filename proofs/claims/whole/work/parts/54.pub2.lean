section PUB2
variable {S : am_S} {d : Nat} {σ : bm_S} {M L : Nat}
theorem RS.book (h : RS M L σ) : bm_tag 2 = 100 := by decide +kernel
theorem isW5 : isW 5 := by unfold isW; decide
/-- how many moneys -/
theorem RS.N (h : RS M L σ) : ∃ n, 1 ≤ n ∧ n ≤ 4 ∧ σ.1 219 2 = nI n ∧ σ.1 2 1 = nI n := by
  obtain ⟨n, h1, h2, h3⟩ := h.1.1.2.2.2.2.1
  exact ⟨n, h1, h2, h3, by rw [h.bk.2.1.2.1]; exact h3⟩
theorem c3 (h : RS M L σ) (i : Int32) : bm_call S d 3 [.ref 2, .int i] σ = some (some (.int (bI (decide (¬ i < 0) && decide (¬ σ.1 219 2 ≤ i)))), σ) := by
  simp only [e3, g3_0, g3_4, g3_12, g3_16, g3_17, bm_run_ite, Option.toList_some, Option.bind_some, Option.toList_some, Option.toList_none, List.cons_append, List.nil_append, List.append_nil, eq_self, not_true_eq_false, not_false_eq_true, ite_true, ite_false, ↓reduceIte, Nat.reduceLT, Nat.reduceEqDiff, Nat.reduceAdd, or_true, true_or, or_false, false_or, h.book, h.bk.2.1.2.1]
  by_cases h0 : i < 0
  · simp [h0, bI]
  · by_cases h1 : σ.1 219 2 ≤ i
    · simp [h0, h1, bI]
    · simp [h0, h1, bI]
theorem m195 {n : Nat} (hn : n ≤ 4) (h2 : σ.1 219 2 = nI n) (i : Int32) : bm_call S (d + 1) 195 [.ref 218, .long i.toInt64] σ = some (some (.int (bI (decide (¬ i < 0) && decide (¬ σ.1 219 2 ≤ i)))), σ) := by
  have e : bW i.toInt64 0 (nI n - 1).toInt64 = bI (decide (¬ i < 0) && decide (¬ nI n ≤ i)) := bW_hasI (by omega) i
  simp only [e195, g195_0, g195_14, bm_run_ite, Option.toList_some, Option.bind_some, Option.toList_some, Option.toList_none, List.cons_append, List.nil_append, List.append_nil, eq_self, not_true_eq_false, not_false_eq_true, ite_true, ite_false, ↓reduceIte, Nat.reduceLT, Nat.reduceEqDiff, Nat.reduceAdd, or_true, true_or, or_false, false_or, c163, h2, e, bI_ok]
theorem netF_0 (B : Nat → Int32) (f : Int32) (L : Nat) (hL : L ≤ 12) : netF (fun l => !decide (nI l = Int32.ofInt (-1)) && dB B f l) B L = netF (dB B f) B L := by
  refine netF_cg (fun l hll => ?_) (fun l _ => ⟨rfl, rfl, rfl⟩)
  have : ¬ nI l = Int32.ofInt (-1) := by
    intro z; have := nI_pos (show l < 2 ^ 31 by omega); rw [z] at this; exact this (by decide)
  simp only [this, decide_false, Bool.not_false, Bool.true_and]
theorem netF_or (B : Nat → Int32) (f : Int32) (L : Nat) (hL : L ≤ 12) : netF (tb (orS (dB B f) L)) B L = netF (dB B f) B L := by
  refine netF_cg (fun l hll => ?_) (fun l _ => ⟨rfl, rfl, rfl⟩)
  rw [orS_tb _ (by omega) L (by omega)]; simp [hll]
theorem p_letter (h : RS M L σ) (i w : Int32) : PR S (d + 10) 113 205 [.int i, .int w] σ := by
  have hL := h.rw.L12
  generalize hB : σ.1 219 = B
  refine PR.of (v := .int (if hasI i L = true then (if w = 0 then B (32 + cN i) else if w = 1 then B (44 + cN i) else if w = 2 then (if oB B (cN i) = true then B (56 + cN i) else 0) else if w = 3 then (if oB B (cN i) = true then B (68 + cN i) - B 22 else Int32.ofInt (-1)) else if w = 4 then B (80 + cN i) else if w = 5 then B (10 + cN i) else Int32.ofInt (-2)) else Int32.ofInt (-2))) h ⟨σ, ?_, Kp.rfl σ⟩ ?_
  · have hr := h.rw
    rw [hB] at hr
    cases hi : hasI i L
    · simp only [e113, g113_0, g113_8, g113_11, g113_14, g113_22, g113_64, g113_75, g113_76, g113_87, g113_88, g113_92, g113_103, g113_106, g113_107, g113_108, g113_112, g113_123, g113_134, g113_135, g113_136, g113_147, g113_148, g113_159, g113_160, bm_run_ite, Option.toList_some, Option.bind_some, Option.toList_some, Option.toList_none, List.cons_append, List.nil_append, List.append_nil, eq_self, not_true_eq_false, not_false_eq_true, ite_true, ite_false, ↓reduceIte, Nat.reduceLT, Nat.reduceEqDiff, Nat.reduceAdd, or_true, true_or, or_false, false_or, c79 hr, hi, bI_itn, Bool.false_eq_true]
    · obtain ⟨l, hl, rfl⟩ := hasI_of hi (by omega)
      have q2 : bm_call S (d + 9) 158 [.ref 7, .int (nI l)] σ = _ := hr.a2 hl
      have q3 : bm_call S (d + 9) 158 [.ref 8, .int (nI l)] σ = _ := hr.a3 hl
      have q4 : bm_call S (d + 9) 158 [.ref 9, .int (nI l)] σ = _ := hr.a4 hl
      have q5 : bm_call S (d + 9) 158 [.ref 10, .int (nI l)] σ = _ := hr.a5 hl
      have q6 : bm_call S (d + 9) 158 [.ref 11, .int (nI l)] σ = _ := hr.a6 hl
      have q7 : bm_call S (d + 9) 158 [.ref 12, .int (nI l)] σ = _ := hr.a7 hl
      simp only [e113, g113_0, g113_8, g113_11, g113_14, g113_22, g113_64, g113_75, g113_76, g113_87, g113_88, g113_92, g113_103, g113_106, g113_107, g113_108, g113_112, g113_123, g113_134, g113_135, g113_136, g113_147, g113_148, g113_159, g113_160, bm_run_ite, Option.toList_some, Option.bind_some, Option.toList_some, Option.toList_none, List.cons_append, List.nil_append, List.append_nil, eq_self, not_true_eq_false, not_false_eq_true, ite_true, ite_false, ↓reduceIte, Nat.reduceLT, Nat.reduceEqDiff, Nat.reduceAdd, or_true, true_or, or_false, false_or, c79 hr, hi, bI_itn, c81n hr hl, q2, q3, q4, q5, q6, q7, hr.f3, cN_nI (show l < 2147483648 by omega), bI_ite]
      by_cases w0 : w = 0
      · subst w0; simp (decide := true) only [if_true, if_false]
      · by_cases w1 : w = 1
        · subst w1; simp (decide := true) only [if_true, if_false]
        · by_cases w2 : w = 2
          · subst w2; simp (decide := true) only [if_true, if_false]
            cases oB B l <;> rfl
          · by_cases w3 : w = 3
            · subst w3; simp (decide := true) only [if_true, if_false]
              cases oB B l <;> rfl
            · by_cases w4 : w = 4
              · subst w4; simp (decide := true) only [if_true, if_false]
              · by_cases w5 : w = 5
                · subst w5; simp (decide := true) only [if_true, if_false]
                · simp only [w0, w1, w2, w3, w4, w5, if_false]
  · intro τ hτ eB _
    rw [hB] at eB
    have h0 := hτ.t0
    have e0 := (t0_B τ).trans eB
    refine ⟨bm_wi τ 218 0 0, ?_, kp_t0 τ⟩
    cases hi : hasI i L
    · simp only [e205, g205_0, g205_11, g205_14, g205_17, g205_56, g205_66, g205_76, g205_81, g205_84, g205_96, g205_97, g205_98, g205_103, g205_106, g205_126, g205_127, g205_128, g205_138, g205_148, bm_run_ite, Option.toList_some, Option.bind_some, Option.toList_some, Option.toList_none, List.cons_append, List.nil_append, List.append_nil, eq_self, not_true_eq_false, not_false_eq_true, ite_true, ite_false, ↓reduceIte, Nat.reduceLT, Nat.reduceEqDiff, Nat.reduceAdd, or_true, true_or, or_false, false_or, m194i h0.mr, hi, bI_itn, Bool.false_eq_true]
    · obtain ⟨l, hl, rfl⟩ := hasI_of hi (by omega)
      simp (disch := omega) only [bm_run_ite, Option.toList_some, Option.bind_some, Option.toList_some, Option.toList_none, List.cons_append, List.nil_append, List.append_nil, eq_self, not_true_eq_false, not_false_eq_true, ite_true, ite_false, ↓reduceIte, Nat.reduceLT, Nat.reduceEqDiff, Nat.reduceAdd, or_true, true_or, or_false, false_or, nI_clamp2, nI_lt0F, nI_leT, nI_leF, nI_ltT, nI_ltF, n_leF, n_leT, nI_1, kA6, kA8, kA10, kA22, kA26, kA32, kA44, kA56, kA68, kA80, kA93, kA163, kA794, not_or, or_self, and_self, and_true, true_and, e205, g205_0, g205_11, g205_14, g205_17, g205_56, g205_66, g205_76, g205_81, g205_84, g205_96, g205_97, g205_98, g205_103, g205_106, g205_126, g205_127, g205_128, g205_138, g205_148, m194i h0.mr, hi, bI_itn, m202 (show l < 12 by omega), e0, cN_nI (show l < 2147483648 by omega), bI_ite]
      by_cases w0 : w = 0
      · subst w0; simp (decide := true) only [if_true, if_false]
      · by_cases w1 : w = 1
        · subst w1; simp (decide := true) only [if_true, if_false]
        · by_cases w2 : w = 2
          · subst w2; simp (decide := true) only [if_true, if_false]
            cases oB B l <;> rfl
          · by_cases w3 : w = 3
            · subst w3; simp (decide := true) only [if_true, if_false]
              cases oB B l <;> rfl
            · by_cases w4 : w = 4
              · subst w4; simp (decide := true) only [if_true, if_false]
              · by_cases w5 : w = 5
                · subst w5; simp (decide := true) only [if_true, if_false]
                · simp only [w0, w1, w2, w3, w4, w5, if_false]
theorem p_worth (h : RS M L σ) (i n : Int32) : PR S (d + 10) 114 206 [.int i, .int n] σ := by
  obtain ⟨N, n1, n2, n3, n4⟩ := h.N
  generalize hB : σ.1 219 = B
  rw [hB] at n3
  generalize hq : (decide (¬ i < 0) && decide (¬ nI N ≤ i)) = q
  have hb := h.bk
  have hl := h.ga.1.1
  rw [hB] at hb hl
  refine PR.of (v := .int (if q = true then (if bW n.toInt64 0 999 = 1 then woB B i (B 22 + n) else Int32.ofInt (-3)) else Int32.ofInt (-2))) h ?_ ?_
  · have hr := h.rw
    rw [hB] at hr
    obtain ⟨g1, e1⟩ := c6 (S := S) (d := d + 6) hb hl i (B 22 + n)
    have k3 := c3 (S := S) (d := d + 9) h i
    rw [hB, n3, hq] at k3
    cases q
    · exact ⟨σ, by simp only [e114, g114_0, g114_8, g114_11, g114_14, g114_23, g114_26, g114_29, g114_46, bm_run_ite, Option.toList_some, Option.bind_some, Option.toList_some, Option.toList_none, List.cons_append, List.nil_append, List.append_nil, eq_self, not_true_eq_false, not_false_eq_true, ite_true, ite_false, ↓reduceIte, Nat.reduceLT, Nat.reduceEqDiff, Nat.reduceAdd, or_true, true_or, or_false, false_or, k3, bI_itn, Bool.false_eq_true], Kp.rfl σ⟩
    · rcases bW_01 n.toInt64 0 999 with w | w
      · exact ⟨σ, by simp (decide := true) only [e114, g114_0, g114_8, g114_11, g114_14, g114_23, g114_26, g114_29, g114_46, bm_run_ite, Option.toList_some, Option.bind_some, Option.toList_some, Option.toList_none, List.cons_append, List.nil_append, List.append_nil, eq_self, not_true_eq_false, not_false_eq_true, ite_true, ite_false, ↓reduceIte, Nat.reduceLT, Nat.reduceEqDiff, Nat.reduceAdd, or_true, true_or, or_false, false_or, k3, bI_itn, c157, w], Kp.rfl σ⟩
      · exact ⟨bm_row σ 4 g1, by simp (decide := true) only [e114, g114_0, g114_8, g114_11, g114_14, g114_23, g114_26, g114_29, g114_46, bm_run_ite, Option.toList_some, Option.bind_some, Option.toList_some, Option.toList_none, List.cons_append, List.nil_append, List.append_nil, eq_self, not_true_eq_false, not_false_eq_true, ite_true, ite_false, ↓reduceIte, Nat.reduceLT, Nat.reduceEqDiff, Nat.reduceAdd, or_true, true_or, or_false, false_or, k3, bI_itn, c157, w, hr.f3, e1], (Kp.rfl σ).row (by unfold Sc; omega) g1⟩
  · intro τ hτ eB _
    rw [hB] at eB
    have e0 := (t0_B τ).trans eB
    have k3 := m195 (S := S) (d := d + 8) (σ := bm_wi τ 218 0 0) n2 (by rw [e0]; exact n3) i
    rw [e0, n3, hq] at k3
    obtain ⟨g1, g2, e1⟩ := m200 (S := S) (d := d + 7) (σ := bm_wi τ 218 0 0) (by rw [e0]; exact hl) i (B 22 + n)
    rw [e0] at e1
    cases q
    · exact ⟨_, by simp only [e206, g206_0, g206_11, g206_14, g206_19, g206_28, g206_31, g206_45, g206_48, g206_50, bm_run_ite, Option.toList_some, Option.bind_some, Option.toList_some, Option.toList_none, List.cons_append, List.nil_append, List.append_nil, eq_self, not_true_eq_false, not_false_eq_true, ite_true, ite_false, ↓reduceIte, Nat.reduceLT, Nat.reduceEqDiff, Nat.reduceAdd, or_true, true_or, or_false, false_or, k3, bI_itn, Bool.false_eq_true], kp_t0 τ⟩
    · rcases bW_01 n.toInt64 0 999 with w | w
      · exact ⟨_, by simp (decide := true) only [e206, g206_0, g206_11, g206_14, g206_19, g206_28, g206_31, g206_45, g206_48, g206_50, bm_run_ite, Option.toList_some, Option.bind_some, Option.toList_some, Option.toList_none, List.cons_append, List.nil_append, List.append_nil, eq_self, not_true_eq_false, not_false_eq_true, ite_true, ite_false, ↓reduceIte, Nat.reduceLT, Nat.reduceEqDiff, Nat.reduceAdd, or_true, true_or, or_false, false_or, k3, bI_itn, c163, w], kp_t0 τ⟩
      · exact ⟨bm_row (bm_row (bm_wi τ 218 0 0) 224 g2) 223 g1, by simp (decide := true) only [e206, g206_0, g206_11, g206_14, g206_19, g206_28, g206_31, g206_45, g206_48, g206_50, bm_run_ite, Option.toList_some, Option.bind_some, Option.toList_some, Option.toList_none, List.cons_append, List.nil_append, List.append_nil, eq_self, not_true_eq_false, not_false_eq_true, ite_true, ite_false, ↓reduceIte, Nat.reduceLT, Nat.reduceEqDiff, Nat.reduceAdd, or_true, true_or, or_false, false_or, k3, bI_itn, c163, w, e0, e1], ((kp_t0 τ).row (by unfold Sc; omega) g2).row (by unfold Sc; omega) g1⟩
theorem p_net (h : RS M L σ) (i n : Int32) : PR S (d + 10) 126 243 [.int i, .int n] σ := by
  have hM := h.rw.M6
  have hL := h.rw.L12
  have go := h.ga.1.2.1
  have hr := h.rw
  generalize hB : σ.1 219 = B at *
  refine PR.of (v := .int (if hasI i M = true then (if bW n.toInt64 0 30 = 1 then netF (dB B (B 22 + n)) B L (cN i) else Int32.ofInt (-99000003)) else Int32.ofInt (-99000002))) h ?_ ?_
  · obtain ⟨g1, e1, p1⟩ := c87 (S := S) (d := d + 7) hr go (B 22 + n) (Int32.ofInt (-1))
    rw [netF_0 _ _ _ hL] at p1
    cases hi : hasI i M
    · exact ⟨σ, by simp only [e126, g126_0, g126_8, g126_11, g126_15, g126_24, g126_27, g126_31, g126_48, g126_59, bm_run_ite, Option.toList_some, Option.bind_some, Option.toList_some, Option.toList_none, List.cons_append, List.nil_append, List.append_nil, eq_self, not_true_eq_false, not_false_eq_true, ite_true, ite_false, ↓reduceIte, Nat.reduceLT, Nat.reduceEqDiff, Nat.reduceAdd, or_true, true_or, or_false, false_or, c78 hr, hi, bI_itn, Bool.false_eq_true], Kp.rfl σ⟩
    · obtain ⟨m, hm, rfl⟩ := hasI_of hi (by omega)
      have h8 := (hr.row8 g1).a8 (S := S) (d := d + 9) hm
      rw [row_row1, p1 m hm] at h8
      replace h8 : bm_call S (d + 9) 158 [.ref 13, .int (nI m)] (bm_row σ (5 + 8) g1) = _ := h8
      rw [cN_nI (show m < 2147483648 by omega)]
      rcases bW_01 n.toInt64 0 30 with w | w
      · exact ⟨σ, by simp (decide := true) only [e126, g126_0, g126_8, g126_11, g126_15, g126_24, g126_27, g126_31, g126_48, g126_59, bm_run_ite, Option.toList_some, Option.bind_some, Option.toList_some, Option.toList_none, List.cons_append, List.nil_append, List.append_nil, eq_self, not_true_eq_false, not_false_eq_true, ite_true, ite_false, ↓reduceIte, Nat.reduceLT, Nat.reduceEqDiff, Nat.reduceAdd, or_true, true_or, or_false, false_or, c78 hr, hi, bI_itn, c157, w], Kp.rfl σ⟩
      · exact ⟨bm_row σ 13 g1, by simp (decide := true) only [e126, g126_0, g126_8, g126_11, g126_15, g126_24, g126_27, g126_31, g126_48, g126_59, bm_run_ite, Option.toList_some, Option.bind_some, Option.toList_some, Option.toList_none, List.cons_append, List.nil_append, List.append_nil, eq_self, not_true_eq_false, not_false_eq_true, ite_true, ite_false, ↓reduceIte, Nat.reduceLT, Nat.reduceEqDiff, Nat.reduceAdd, or_true, true_or, or_false, false_or, c78 hr, hi, bI_itn, c157, w, hr.f3, e1, h8], (Kp.rfl σ).row (by unfold Sc; omega) g1⟩
  · intro τ hτ eB _
    rw [hB] at eB
    have h0 := hτ.t0
    have e0 := (t0_B τ).trans eB
    have kk := m207 (S := S) (d := d + 8) h0.mr (B 22 + n)
    rw [e0] at kk
    obtain ⟨g1, e1, p1⟩ := m208 (S := S) (d := d + 8) h0.mr (by rw [e0]; exact go) (orS (dB B (B 22 + n)) L)
    rw [e0, netF_or _ _ _ hL] at p1
    cases hi : hasI i M
    · exact ⟨_, by simp only [e243, g243_0, g243_11, g243_14, g243_18, g243_22, g243_25, g243_29, g243_43, g243_46, bm_run_ite, Option.toList_some, Option.bind_some, Option.toList_some, Option.toList_none, List.cons_append, List.nil_append, List.append_nil, eq_self, not_true_eq_false, not_false_eq_true, ite_true, ite_false, ↓reduceIte, Nat.reduceLT, Nat.reduceEqDiff, Nat.reduceAdd, or_true, true_or, or_false, false_or, m193i h0.mr, hi, bI_itn, Bool.false_eq_true], kp_t0 τ⟩
    · obtain ⟨m, hm, rfl⟩ := hasI_of hi (by omega)
      rw [cN_nI (show m < 2147483648 by omega)]
      rcases bW_01 n.toInt64 0 30 with w | w
      · exact ⟨_, by simp (decide := true) only [e243, g243_0, g243_11, g243_14, g243_18, g243_22, g243_25, g243_29, g243_43, g243_46, bm_run_ite, Option.toList_some, Option.bind_some, Option.toList_some, Option.toList_none, List.cons_append, List.nil_append, List.append_nil, eq_self, not_true_eq_false, not_false_eq_true, ite_true, ite_false, ↓reduceIte, Nat.reduceLT, Nat.reduceEqDiff, Nat.reduceAdd, or_true, true_or, or_false, false_or, m193i h0.mr, hi, bI_itn, m241, w], kp_t0 τ⟩
      · have z : ¬ (0 : Int32) = 1 := by decide
        refine ⟨bm_row (bm_wi τ 218 0 0) 225 g1, ?_, (kp_t0 τ).row (by unfold Sc; omega) g1⟩
        simp (disch := omega) only [bm_run_ite, Option.toList_some, Option.bind_some, Option.toList_some, Option.toList_none, List.cons_append, List.nil_append, List.append_nil, eq_self, not_true_eq_false, not_false_eq_true, ite_true, ite_false, ↓reduceIte, Nat.reduceLT, Nat.reduceEqDiff, Nat.reduceAdd, or_true, true_or, or_false, false_or, nI_clamp2, nI_lt0F, nI_leT, nI_leF, nI_ltT, nI_ltF, n_leF, n_leT, nI_1, kA6, kA8, kA10, kA22, kA26, kA32, kA44, kA56, kA68, kA80, kA93, kA163, kA794, not_or, or_self, and_self, and_true, true_and, e243, g243_0, g243_11, g243_14, g243_18, g243_22, g243_25, g243_29, g243_43, g243_46, m193i h0.mr, hi, bI_itn, m241, w, nz10, e0, kk, e1, row_row1, p1 m (show m < 6 by omega)]
end PUB2
