section HANGS
variable {S : am_S} {d : Nat} {σ : bm_S} {M L : Nat}
theorem p_hangs (h : RS M L σ) (i : Int32) : PR S (d + 10) 138 265 [.int i] σ := by
  have hM := h.rw.M6
  have hL := h.rw.L12
  have hr := h.rw
  have go := h.ga.1.2.1
  have hm3 := h.mr.m
  have hm25 := h.mr.l
  generalize hB : σ.1 219 = B at *
  have mr : ∀ τ : bm_S, τ.1 219 = B → MR M L τ := fun τ ht => ⟨⟨hM, hL⟩, by rw [ht]; exact hm3, by rw [ht]; exact hm25⟩
  by_cases q : (hasI i L && dB B (B 22) (cN i)) = true
  · rw [Bool.and_eq_true] at q
    obtain ⟨hi, hd⟩ := q
    obtain ⟨l, hl, rfl⟩ := hasI_of hi (by omega)
    rw [cN_nI (by omega)] at hd
    have e1 : netF (fun k => !decide (nI k = nI l) && dB B (B 22) k) B L = netF (tb (orS (dB B (B 22)) L &&& (bt l ^^^ Int32.ofInt (-1)))) B L := by
      refine netF_cg (fun k hk => ?_) (fun _ _ => ⟨rfl, rfl, rfl⟩)
      rw [tb_clr _ (by omega) (by omega), orS_tb _ (by omega) L (by omega)]
      have : decide (nI k = nI l) = decide (k = l) := by
        have := nI_eq (show k < 2 ^ 31 by omega) (show l < 2 ^ 31 by omega)
        simp only [this]
      rw [this]
      simp only [hk, decide_true, Bool.true_and]
      exact Bool.and_comm _ _
    refine PR.of (v := .int (cnB M L B (B 22) - coF (netF (tb (orS (dB B (B 22)) L &&& (bt l ^^^ Int32.ofInt (-1)))) B L) M)) h ?_ ?_
    · obtain ⟨g1, k1⟩ := c88 (S := S) (d := d + 6) hr go (B 22) (Int32.ofInt (-1))
      rw [netF_0 _ _ _ hL] at k1
      have h2 := hr.row8 g1
      obtain ⟨g2, k2⟩ := c88 (S := S) (d := d + 6) h2 go (B 22) (nI l)
      rw [e1, bm_row_row] at k2
      refine ⟨bm_row σ 13 g2, ?_, (Kp.rfl σ).row (by unfold Sc; omega) g2⟩
      have f3 : (bm_row σ 13 g1).1 5 3 = B 22 := h2.f3
      replace k2 : bm_call S (d + 9) 88 [.ref 5, .int (B 22), .int (nI l)] (bm_row σ 13 g1) = _ := k2
      replace k1 : bm_call S (d + 9) 88 [.ref 5, .int (B 22), .int (Int32.ofInt (-1))] σ = some (some (.int (cnB M L B (B 22))), bm_row σ 13 g1) := k1
      simp only [e138, g138_0, g138_15, g138_18, g138_22, g138_37, g138_52, bm_run_ite, Option.toList_some, Option.bind_some, Option.toList_some, Option.toList_none, List.cons_append, List.nil_append, List.append_nil, eq_self, not_true_eq_false, not_false_eq_true, ite_true, ite_false, ↓reduceIte, Nat.reduceLT, Nat.reduceEqDiff, Nat.reduceAdd, or_true, true_or, or_false, false_or, hr.f3, c82n hr hl, hd, bI_itn, k1, f3, k2]
    · intro τ hτ eB _
      rw [hB] at eB
      have e0 := (t0_B τ).trans eB
      have kk := m207 (S := S) (d := d + 8) (mr _ e0) (B 22)
      rw [e0] at kk
      obtain ⟨g1, k1⟩ := m244 (S := S) (d := d + 7) (mr _ e0) (by rw [e0]; exact go) (orS (dB B (B 22)) L)
      rw [e0, netF_or _ _ _ hL] at k1
      have r7 : (bm_row (bm_wi τ 218 0 0) 225 g1).1 219 = B := (bm_row_1n _ _ (by decide)).trans e0
      obtain ⟨g2, k2⟩ := m244 (S := S) (d := d + 7) (mr _ r7) (by rw [r7]; exact go) (orS (dB B (B 22)) L &&& (bt l ^^^ Int32.ofInt (-1)))
      rw [r7, bm_row_row] at k2
      have tl : tb (orS (dB B (B 22)) L) l = true := by rw [orS_tb _ (by omega) L (by omega), hd]; simp [hl]
      have bk : (1 : Int32) <<< (nI l &&& 31) = bt l := rfl
      refine ⟨bm_row (bm_wi τ 218 0 0) 225 g2, ?_, (kp_t0 τ).row (by unfold Sc; omega) g2⟩
      simp only [e265, g265_0, g265_16, g265_23, g265_26, g265_32, g265_35, g265_39, g265_44, g265_55, bm_run_ite, Option.toList_some, Option.bind_some, Option.toList_some, Option.toList_none, List.cons_append, List.nil_append, List.append_nil, eq_self, not_true_eq_false, not_false_eq_true, ite_true, ite_false, ↓reduceIte, Nat.reduceLT, Nat.reduceEqDiff, Nat.reduceAdd, or_true, true_or, or_false, false_or, e0, kk, m194i (mr _ e0), hi, bI_ite, bI_itn, m176 _ (show l < 32 by omega), tl, bk, k1, k2]
      rfl
  · have q0 : (hasI i L && dB B (B 22) (cN i)) = false := by
      cases z : (hasI i L && dB B (B 22) (cN i))
      · rfl
      · exact absurd z q
    refine PR.of (v := .int (Int32.ofInt (-99000002))) h ⟨σ, ?_, Kp.rfl σ⟩ ?_
    · have k := c82 (S := S) (d := d + 8) hr i (B 22)
      have k2 : bm_call S (d + 9) 82 [.ref 5, .int i, .int (B 22)] σ = some (some (.int (bI false)), σ) := by rw [← q0]; exact k
      simp only [e138, g138_0, g138_15, g138_18, g138_22, g138_37, g138_52, bm_run_ite, Option.toList_some, Option.bind_some, Option.toList_some, Option.toList_none, List.cons_append, List.nil_append, List.append_nil, eq_self, not_true_eq_false, not_false_eq_true, ite_true, ite_false, ↓reduceIte, Nat.reduceLT, Nat.reduceEqDiff, Nat.reduceAdd, or_true, true_or, or_false, false_or, hr.f3, k2, bI_itn, Bool.false_eq_true]
    · intro τ hτ eB _
      rw [hB] at eB
      have e0 := (t0_B τ).trans eB
      have kk := m207 (S := S) (d := d + 8) (mr _ e0) (B 22)
      rw [e0] at kk
      refine ⟨bm_wi τ 218 0 0, ?_, kp_t0 τ⟩
      cases hi : hasI i L
      · simp only [e265, g265_0, g265_16, g265_23, g265_26, g265_32, g265_35, g265_39, g265_44, g265_55, bm_run_ite, Option.toList_some, Option.bind_some, Option.toList_some, Option.toList_none, List.cons_append, List.nil_append, List.append_nil, eq_self, not_true_eq_false, not_false_eq_true, ite_true, ite_false, ↓reduceIte, Nat.reduceLT, Nat.reduceEqDiff, Nat.reduceAdd, or_true, true_or, or_false, false_or, e0, kk, m194i (mr _ e0), hi, bI_ite, Bool.false_eq_true]
      · obtain ⟨l, hl, rfl⟩ := hasI_of hi (by omega)
        rw [hi, cN_nI (show l < 2147483648 by omega), Bool.true_and] at q0
        have tl : tb (orS (dB B (B 22)) L) l = false := by rw [orS_tb _ (by omega) L (by omega), q0]; simp
        simp only [e265, g265_0, g265_16, g265_23, g265_26, g265_32, g265_35, g265_39, g265_44, g265_55, bm_run_ite, Option.toList_some, Option.bind_some, Option.toList_some, Option.toList_none, List.cons_append, List.nil_append, List.append_nil, eq_self, not_true_eq_false, not_false_eq_true, ite_true, ite_false, ↓reduceIte, Nat.reduceLT, Nat.reduceEqDiff, Nat.reduceAdd, or_true, true_or, or_false, false_or, e0, kk, m194i (mr _ e0), hi, bI_ite, bI_itn, m176 _ (show l < 32 by omega), tl, Bool.false_eq_true]
end HANGS
