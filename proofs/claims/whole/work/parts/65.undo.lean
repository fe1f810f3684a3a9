def unB (B : Nat → Int32) (m k : Nat) : Nat → Int32 := fun i => if 22 ≤ i ∧ i < 22 + k then B (93 + 70 * m + (i - 22)) else if i = 92 then nI m else B i
section UNDO
variable {S : am_S} {d : Nat} {σ : bm_S} {M L : Nat}
theorem p_undo (h : RS M L σ) (x : Int32) : PR S (d + 10) 121 232 [.int x] σ := by
  have h0 := h
  obtain ⟨⟨c1, c2, c3⟩, ⟨n, e, p1, p2, p3, p4, p5, p6⟩, im, tr, ⟨t, t1, t2, t3, t4⟩, g1, g2⟩ := h0
  generalize hB : σ.1 219 = B at *
  by_cases good : ∃ k, 1 ≤ k ∧ k ≤ n ∧ x = nI k
  · obtain ⟨k, k1, k2, rfl⟩ := good
    obtain ⟨m, rfl⟩ : ∃ m, n = m + k := ⟨n - k, by omega⟩
    obtain ⟨L1, o1, o2⟩ := p6 m (by omega)
    have hr10 : (e + m) % 10 < 10 := Nat.mod_lt _ (by decide)
    have hw := isW44 _ hr10
    have sb : nI (m + k) - nI k = nI m := by rw [nI_sub (by omega), Nat.add_sub_cancel]
    have l1 : ¬ nI k < 1 := nI_nlt (b := 1) k1 (by omega)
    have l2 : nI k ≤ nI (m + k) := nI_le (by omega) (by omega)
    have q41 := c41 (S := S) (d := d + 8) (σ := bm_wi σ 42 2 (nI m)) (i := m) (by rw [wi_s, upd_n _ _ (by decide)]; exact p5) p2 (by omega)
    generalize (e + m) % 10 = r at *
    have r1 : RW M L1 (bm_wi σ 42 2 (nI m)) (44 + 10 * r) (vwB B m) := o2.of (fun a h1 h2 => wi_n _ (by omega) _ _)
    obtain ⟨σ2, e2, f2, w2⟩ := c77 (S := S) (d := d + 6) (σ := bm_wi σ 42 2 (nI m)) (s := 44 + 10 * r) (t := 5) hw isW5 (by omega)
    have e42 : σ2.1 42 = upd (σ.1 42) 2 (nI m) := by rw [f2.1 42 (by omega), wi_s]
    have fr : ∀ a, a ≠ 42 → (a < 5 ∨ 12 < a) → σ2.1 a = σ.1 a := fun a h1 h2 => by rw [f2.1 a (by omega), wi_n _ h1]
    have b0 : (bm_wi σ2 218 0 0).1 219 = B := by rw [wi_n _ (by decide), fr _ (by omega) (by omega)]; exact hB
    have step := loop_eq (fun j => bm_run S (d + 10) 232 44 [some (.ref 218), if j = 0 then some (.int (nI k)) else am_clr (some (.int (nI k))), some (.int (nI j))] [] (bm_row (bm_wi σ2 218 0 0) 219 (unB B m j))) 70 (by
      intro j hj
      have n70 : ¬ (70 : Int32) ≤ nI j := nI_ge (b := 70) hj (by decide)
      have ml : ∀ m, m < 10 → (93 : Int32) + (70 : Int32) * nI m = nI (93 + 70 * m) := by decide +kernel
      have ml2 := ml m (by omega)
      have c92 : unB B m j 92 = nI m := by unfold unB; rw [if_neg (by omega), if_pos rfl]
      have cj : unB B m j (93 + 70 * m + j) = B (93 + 70 * m + j) := by unfold unB; rw [if_neg (by omega), if_neg (by omega)]
      have es : unB B m (j + 1) = upd (unB B m j) (22 + j) (B (93 + 70 * m + j)) := by
        funext i
        simp only [upd, unB]
        by_cases ee : i = 22 + j
        · subst ee
          rw [if_pos rfl, if_pos (by omega), Nat.add_sub_cancel_left]
        · rw [if_neg ee]
          by_cases q : 22 ≤ i ∧ i < 22 + j
          · rw [if_pos q, if_pos (by omega)]
          · rw [if_neg q, if_neg (by omega)]
      have cl : am_clr (if j = 0 then some (Value.int (nI k)) else am_clr (some (.int (nI k)))) = am_clr (some (.int (nI k))) := by
        split <;> rfl
      have jn : ¬ j + 1 = 0 := by omega
      rw [g232_44, es]
      simp (disch := omega) only [bm_run_ite, Option.toList_some, Option.bind_some, Option.toList_some, Option.toList_none, List.cons_append, List.nil_append, List.append_nil, eq_self, not_true_eq_false, not_false_eq_true, ite_true, ite_false, ↓reduceIte, Nat.reduceLT, Nat.reduceEqDiff, Nat.reduceAdd, or_true, true_or, or_false, false_or, nI_clamp2, nI_lt0F, nI_leT, nI_leF, nI_ltT, nI_ltF, n_leF, n_leT, nI_1, kA6, kA8, kA10, kA22, kA26, kA32, kA44, kA56, kA68, kA80, kA93, kA163, kA794, not_or, or_self, and_self, and_true, true_and, g232_50, n70, row_row1, c92, ml2, nI_add, cj, wi_row, jn, cl])
    have e0 : bm_row (bm_wi σ2 218 0 0) 219 (unB B m 0) = bm_wi (bm_wi σ2 218 0 0) 219 92 (nI m) := by
      rw [bm_wi_def (bm_wi σ2 218 0 0), b0]
      congr 1
      funext i
      unfold unB upd
      rw [if_neg (by omega)]
    have hun : ∀ i, (i < 92 ∨ 793 ≤ i) → unB B m 70 i = vwB B m i := by
      intro i hi
      unfold unB vwB
      by_cases q : 22 ≤ i ∧ i < 92
      · rw [if_pos (by omega), if_pos q]
      · rw [if_neg (by omega), if_neg (by omega), if_neg q]
    have hun2 : ∀ i, 93 ≤ i → unB B m 70 i = B i := by
      intro i hi; unfold unB; rw [if_neg (by omega), if_neg (by omega)]
    have hun3 : ∀ i, i < 22 → unB B m 70 i = B i := by
      intro i hi; unfold unB; rw [if_neg (by omega), if_neg (by omega)]
    have u92 : unB B m 70 92 = nI m := by unfold unB; rw [if_neg (by omega), if_pos rfl]
    generalize hτ : bm_row (bm_wi σ2 218 0 0) 219 (unB B m 70) = τ at step
    have t17 : τ.1 219 = unB B m 70 := by rw [← hτ]; exact row_row1 _ _ _
    have tn : ∀ a, a ≠ 219 → a ≠ 218 → τ.1 a = σ2.1 a := fun a h1 h2 => by rw [← hτ, bm_row_1n _ _ h1, wi_n _ h2]
    have tk : ∀ a, a ≠ 219 → a ≠ 218 → a ≠ 42 → (a < 5 ∨ 12 < a) → τ.1 a = σ.1 a := fun a h1 h2 h3 h4 => (tn a h1 h2).trans (fr a h3 h4)
    have t16 : ∀ b, b ≠ 0 → τ.1 218 b = σ.1 218 b := fun b hb => by rw [← hτ, bm_row_1n _ _ (by decide), wi_s, upd_n _ _ hb, fr _ (by omega) (by omega)]
    have t2x : τ.2 = σ.2 := by rw [← hτ]; exact f2.2
    refine ⟨.int (nI m), σ2, τ, M, L1, ?_, ?_, ⟨⟨?_, ?_, ?_⟩, ⟨m, e, by omega, p2, ?_, ?_, ?_, ?_⟩, ?_, ?_, ⟨t, t1, ?_, ?_, ?_⟩, ?_, ?_⟩⟩
    · simp only [e121, g121_0, g121_5, g121_16, g121_19, g121_31, e43, g43_0, g43_5, g43_14, g43_32r, g43_37r, g43_42, bm_run_ite, Option.toList_some, Option.bind_some, Option.toList_some, Option.toList_none, List.cons_append, List.nil_append, List.append_nil, eq_self, not_true_eq_false, not_false_eq_true, ite_true, ite_false, ↓reduceIte, Nat.reduceLT, Nat.reduceEqDiff, Nat.reduceAdd, or_true, true_or, or_false, false_or, p4, l1, l2, wi_s, upd_s, sb, q41, e2, isW5.t0, e42]
    · have bw : bW (nI k).toInt64 1 10 = 1 := by
        have all : ∀ k, k < 11 → 1 ≤ k → bW (nI k).toInt64 1 10 = 1 := by decide +kernel
        exact all k (by omega) k1
      have z := step
      rw [e0] at z
      simp (decide := true) only [e232, g232_0, g232_14, g232_17, g232_31, bm_run_ite, Option.toList_some, Option.bind_some, Option.toList_some, Option.toList_none, List.cons_append, List.nil_append, List.append_nil, eq_self, not_true_eq_false, not_false_eq_true, ite_true, ite_false, ↓reduceIte, Nat.reduceLT, Nat.reduceEqDiff, Nat.reduceAdd, or_true, true_or, or_false, false_or, c163, bw, b0, p3, l2, sb]
      refine (show bm_run S (d + 10) 232 44 [some (.ref 218), some (.int (nI k)), some (.int (nI 0))] [] _ = _ from z).trans ?_
      have n70 : (70 : Int32) ≤ nI 70 := by decide
      rw [g232_44]
      simp (disch := omega) only [bm_run_ite, Option.toList_some, Option.bind_some, Option.toList_some, Option.toList_none, List.cons_append, List.nil_append, List.append_nil, eq_self, not_true_eq_false, not_false_eq_true, ite_true, ite_false, ↓reduceIte, Nat.reduceLT, Nat.reduceEqDiff, Nat.reduceAdd, or_true, true_or, or_false, false_or, nI_clamp2, nI_lt0F, nI_leT, nI_leF, nI_ltT, nI_ltF, n_leF, n_leT, nI_1, kA6, kA8, kA10, kA22, kA26, kA32, kA44, kA56, kA68, kA80, kA93, kA163, kA794, not_or, or_self, and_self, and_true, true_and, g232_85, n70, t17, u92]
    · rw [t17]; exact o1.cg hun
    · rw [t17]
      have := (w2 r1).eqB (C := unB B m 70) (fun i hi => hun i (by have := o2.M6; have := o2.L12; omega))
      exact this.of (fun a h1 h2 => tn a (by omega) (by omega))
    · rw [t17]
      exact (c3.of (tk 2 (by omega) (by omega) (by omega) (by omega)) (tk 3 (by omega) (by omega) (by omega) (by omega))).cgK2 (fun i hi => by rcases hi with hi | hi; exact hun3 i hi; exact hun2 i (by omega))
    · rw [t17]; exact u92
    · rw [tn 42 (by decide) (by decide), e42, upd_s]
    · rw [tn 42 (by decide) (by decide), e42, upd_n _ _ (by decide)]; exact p5
    · intro i hi
      obtain ⟨L2, q1, q2⟩ := p6 i (by omega)
      have ev : ∀ j, (j < 92 ∨ 793 ≤ j) → vwB (τ.1 219) i j = vwB B i j := by
        intro j hj
        unfold vwB
        rw [t17]
        by_cases qj : 22 ≤ j ∧ j < 92
        · rw [if_pos qj, if_pos qj, hun2 _ (by omega)]
        · rw [if_neg qj, if_neg qj]
          rcases hj with hj | hj
          · exact hun3 j (by omega)
          · exact hun2 j (by omega)
      refine ⟨L2, q1.cg ev, RW.eqB (q2.of (fun a h1 h2 => tk a (by omega) (by omega) (by omega) (by omega))) (fun j hj => ev j ?_)⟩
      have := q2.M6; have := q2.L12; omega
    · intro j hj
      have e1 : τ.1 (182 + 14 * j) = σ.1 (182 + 14 * j) := tk _ (by omega) (by omega) (by omega) (by omega)
      have e2 : τ.1 220 = σ.1 220 := tk _ (by omega) (by omega) (by omega) (by omega)
      have ei : imB (τ.1 219) j = imB B j := by funext i; unfold imB; rw [t17]; exact hun2 _ (by omega)
      unfold IM
      rw [e1, e2, ei]
      have imj := im j hj
      unfold IM at imj
      rw [hB] at imj
      rcases imj with x | ⟨i1, i2, M2, L2, q1, q2, q3⟩
      · exact Or.inl x
      · exact Or.inr ⟨i1, i2, M2, L2, q1, q2.of (fun a h1 h2 => tk a (by omega) (by omega) (by omega) (by omega)), q3.of (tk _ (by omega) (by omega) (by omega) (by omega)) (tk _ (by omega) (by omega) (by omega) (by omega))⟩
    · intro j hj
      have := tr j hj
      unfold TR at this ⊢
      rw [tk (210 + 2 * j) (by omega) (by omega) (by omega) (by omega), tk 235 (by omega) (by omega) (by omega) (by omega), tk 236 (by omega) (by omega) (by omega) (by omega), t2x]
      exact this
    · rw [tk 0 (by omega) (by omega) (by omega) (by omega)]; exact t2
    · rw [t16 5 (by omega)]; exact t3
    · intro i hi
      rw [tk 1 (by omega) (by omega) (by omega) (by omega), tk 221 (by omega) (by omega) (by omega) (by omega)]
      exact t4 i hi
    · rw [tk 0 (by omega) (by omega) (by omega) (by omega), t16 13 (by omega)]; exact g1
    · rw [tk 0 (by omega) (by omega) (by omega) (by omega), t16 14 (by omega)]; exact g2
  · refine PR.of (v := .int (Int32.ofInt (-3))) h ⟨σ, ?_, Kp.rfl σ⟩ ?_
    · by_cases q : x < 1
      · simp only [e121, g121_0, g121_5, g121_16, g121_19, g121_31, bm_run_ite, Option.toList_some, Option.bind_some, Option.toList_some, Option.toList_none, List.cons_append, List.nil_append, List.append_nil, eq_self, not_true_eq_false, not_false_eq_true, ite_true, ite_false, ↓reduceIte, Nat.reduceLT, Nat.reduceEqDiff, Nat.reduceAdd, or_true, true_or, or_false, false_or, q]
      · have q2 : ¬ x ≤ nI n := by
          intro z
          have x0 : ¬ x < 0 := fun y => q (Int32.lt_trans y (by decide))
          obtain ⟨k, hk, rfl⟩ := nI_of x0
          refine good ⟨k, ?_, ?_, rfl⟩
          · rcases Nat.eq_zero_or_pos k with y | y
            · subst y; exact absurd (by decide : nI 0 < 1) q
            · exact y
          · rcases Nat.lt_or_ge n k with y | y
            · exact absurd z (nI_ge y hk)
            · exact y
        simp only [e121, g121_0, g121_5, g121_16, g121_19, g121_31, bm_run_ite, Option.toList_some, Option.bind_some, Option.toList_some, Option.toList_none, List.cons_append, List.nil_append, List.append_nil, eq_self, not_true_eq_false, not_false_eq_true, ite_true, ite_false, ↓reduceIte, Nat.reduceLT, Nat.reduceEqDiff, Nat.reduceAdd, or_true, true_or, or_false, false_or, q, p4, q2]
    · intro τ hτ eB _
      rw [hB] at eB
      have e0 := (t0_B τ).trans eB
      rcases bW_01 x.toInt64 1 10 with q | q
      · exact ⟨_, by simp (decide := true) only [e232, g232_0, g232_14, g232_28, bm_run_ite, Option.toList_some, Option.bind_some, Option.toList_some, Option.toList_none, List.cons_append, List.nil_append, List.append_nil, eq_self, not_true_eq_false, not_false_eq_true, ite_true, ite_false, ↓reduceIte, Nat.reduceLT, Nat.reduceEqDiff, Nat.reduceAdd, or_true, true_or, or_false, false_or, c163, q], kp_t0 τ⟩
      · obtain ⟨k, k1, k2, rfl⟩ := bW_of (a := 1) (b := 10) (by decide +kernel) (by decide +kernel) (by decide) q
        have q2 : ¬ nI k ≤ nI n := by
          intro z
          refine good ⟨k, k1, ?_, rfl⟩
          rcases Nat.lt_or_ge n k with y | y
          · exact absurd z (nI_ge y (by omega))
          · exact y
        exact ⟨_, by simp (decide := true) only [e232, g232_0, g232_14, g232_17, g232_28, bm_run_ite, Option.toList_some, Option.bind_some, Option.toList_some, Option.toList_none, List.cons_append, List.nil_append, List.append_nil, eq_self, not_true_eq_false, not_false_eq_true, ite_true, ite_false, ↓reduceIte, Nat.reduceLT, Nat.reduceEqDiff, Nat.reduceAdd, or_true, true_or, or_false, false_or, c163, q, e0, p3, q2], kp_t0 τ⟩
end UNDO
