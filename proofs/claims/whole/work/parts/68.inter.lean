theorem clW_rng (x : Int32) : ∃ k, 1 ≤ k ∧ k ≤ 999 ∧ clW x = nI k := by
  unfold clW
  by_cases h1 : 1 ≤ x
  · by_cases h2 : x ≤ 999
    · rw [if_pos h1, if_pos h2]
      have x0 : ¬ x < 0 := fun y => absurd (Int32.lt_of_lt_of_le y (by decide : (0 : Int32) ≤ 1)) (Int32.not_lt.mpr h1)
      obtain ⟨k, hk, rfl⟩ := nI_of x0
      refine ⟨k, ?_, ?_, rfl⟩
      · rcases Nat.eq_zero_or_pos k with y | y
        · subst y; exact absurd h1 (by decide)
        · exact y
      · rcases Nat.lt_or_ge 999 k with y | y
        · exact absurd h2 (nI_ge (b := k) (a := 999) y hk)
        · exact y
    · rw [if_pos h1, if_neg h2]; exact ⟨999, by omega, by omega, rfl⟩
  · rw [if_neg h1]; exact ⟨1, by omega, by omega, rfl⟩
theorem woB_rng {B : Nat → Int32} {m : Nat} (hm : m < 4) (f : Int32) : ∃ k, 1 ≤ k ∧ k ≤ 999 ∧ woB B (nI m) f = nI k := by
  unfold woB
  split
  · exact ⟨10 + m, by omega, by omega, kA10 m⟩
  · exact clW_rng _
theorem mul_l : ∀ t, t < 1000 → (nI t).toInt64 * 10000 = ((10000 : Int32) * nI t).toInt64 := by decide +kernel
section INTER
variable {S : am_S} {d : Nat} {σ : bm_S} {M L : Nat}
theorem p_interest (h : RS M L σ) (i n : Int32) : PR S (d + 10) 143 273 [.int i, .int n] σ := by
  obtain ⟨N, n1, n2, n3, n4⟩ := h.N
  have hb := h.bk
  have hl := h.ga.1.1
  have hr := h.rw
  have k3 := c3 (S := S) (d := d + 9) h i
  generalize hB : σ.1 219 = B at *
  rw [n3] at k3
  have k3m : ∀ τ : bm_S, τ.1 219 = B → bm_call S (d + 9) 195 [.ref 218, .long i.toInt64] τ = some (some (.int (bI (decide (¬ i < 0) && decide (¬ nI N ≤ i)))), τ) := by
    intro τ ht
    have := m195 (S := S) (d := d + 8) (σ := τ) n2 (by rw [ht]; exact n3) i
    rw [ht, n3] at this
    exact this
  by_cases q : (decide (¬ i < 0) && decide (¬ nI N ≤ i)) = true
  · rw [q] at k3 k3m
    obtain ⟨m, hm, rfl⟩ := hasI_of (i := i) (n := N) q (by omega)
    rcases bW_01 n.toInt64 0 99 with w | w
    · refine PR.of (v := .int (Int32.ofInt (-3))) h ⟨σ, by simp (decide := true) only [e143, g143_0, g143_8, g143_11, g143_14, g143_23, g143_26, g143_29, g143_46, g143_68, g143_72, bm_run_ite, Option.toList_some, Option.bind_some, Option.toList_some, Option.toList_none, List.cons_append, List.nil_append, List.append_nil, eq_self, not_true_eq_false, not_false_eq_true, ite_true, ite_false, ↓reduceIte, Nat.reduceLT, Nat.reduceEqDiff, Nat.reduceAdd, or_true, true_or, or_false, false_or, k3, bI_itn, c157, w], Kp.rfl σ⟩ ?_
      intro τ hτ eB _
      rw [hB] at eB
      exact ⟨_, by simp (decide := true) only [e273, g273_0, g273_11, g273_14, g273_17, g273_26, g273_29, g273_32, g273_49, g273_62, bm_run_ite, Option.toList_some, Option.bind_some, Option.toList_some, Option.toList_none, List.cons_append, List.nil_append, List.append_nil, eq_self, not_true_eq_false, not_false_eq_true, ite_true, ite_false, ↓reduceIte, Nat.reduceLT, Nat.reduceEqDiff, Nat.reduceAdd, or_true, true_or, or_false, false_or, k3m _ ((t0_B τ).trans eB), bI_itn, c163, w], kp_t0 τ⟩
    · obtain ⟨t, t1, t2, et⟩ := woB_rng (B := B) (m := m) (by omega) (B 22 + n)
      obtain ⟨u, u1, u2, eu⟩ := woB_rng (B := B) (m := m) (by omega) (B 22)
      have u0 : ¬ nI u = 0 := nI_ne0 u1 (by omega)
      have ul : ¬ (nI u).toInt64 = 0 := by
        intro z; apply u0; apply l_inj.mp; rw [z]; rfl
      refine PR.of (v := .int ((10000 : Int32) * nI t / nI u)) h ?_ ?_
      · obtain ⟨g1, c1⟩ := c6 (S := S) (d := d + 6) hb hl (nI m) (B 22 + n)
        obtain ⟨g2, c2⟩ := c6 (S := S) (d := d + 6) (hb.row g1) hl (nI m) (B 22)
        rw [et] at c1
        rw [eu, bm_row_row] at c2
        replace c1 : bm_call S (d + 9) 6 [.ref 2, .int (nI m), .int (B 22 + n)] σ = some (some (.int (nI t)), bm_row σ 4 g1) := c1
        replace c2 : bm_call S (d + 9) 6 [.ref 2, .int (nI m), .int (B 22)] (bm_row σ 4 g1) = some (some (.int (nI u)), bm_row σ 4 g2) := c2
        have f3 : (bm_row σ 4 g1).1 5 3 = B 22 := by rw [bm_row_1n _ _ (by decide)]; exact hr.f3
        refine ⟨bm_row σ 4 g2, ?_, (Kp.rfl σ).row (by unfold Sc; omega) g2⟩
        simp (decide := true) only [e143, g143_0, g143_8, g143_11, g143_14, g143_23, g143_26, g143_29, g143_46, g143_68, g143_72, bm_run_ite, Option.toList_some, Option.bind_some, Option.toList_some, Option.toList_none, List.cons_append, List.nil_append, List.append_nil, eq_self, not_true_eq_false, not_false_eq_true, ite_true, ite_false, ↓reduceIte, Nat.reduceLT, Nat.reduceEqDiff, Nat.reduceAdd, or_true, true_or, or_false, false_or, k3, bI_itn, c157, w, hr.f3, c1, f3, c2, c160, ul, mul_l t (by omega), year_eq]
      · intro τ hτ eB _
        rw [hB] at eB
        have e0 := (t0_B τ).trans eB
        obtain ⟨g1, g2, c1⟩ := m200 (S := S) (d := d + 7) (σ := bm_wi τ 218 0 0) (by rw [e0]; exact hl) (nI m) (B 22 + n)
        rw [e0, et] at c1
        have r7 : (bm_row (bm_row (bm_wi τ 218 0 0) 224 g2) 223 g1).1 219 = B := by rw [bm_row_1n _ _ (by decide), bm_row_1n _ _ (by decide)]; exact e0
        obtain ⟨g3, g4, c2⟩ := m200 (S := S) (d := d + 7) (σ := bm_row (bm_row (bm_wi τ 218 0 0) 224 g2) 223 g1) (by rw [r7]; exact hl) (nI m) (B 22)
        rw [r7, eu] at c2
        refine ⟨bm_row (bm_row (bm_row (bm_row (bm_wi τ 218 0 0) 224 g2) 223 g1) 224 g4) 223 g3, ?_, ((((kp_t0 τ).row (by unfold Sc; omega) g2).row (by unfold Sc; omega) g1).row (by unfold Sc; omega) g4).row (by unfold Sc; omega) g3⟩
        simp (decide := true) only [e273, g273_0, g273_11, g273_14, g273_17, g273_26, g273_29, g273_32, g273_49, g273_62, bm_run_ite, Option.toList_some, Option.bind_some, Option.toList_some, Option.toList_none, List.cons_append, List.nil_append, List.append_nil, eq_self, not_true_eq_false, not_false_eq_true, ite_true, ite_false, ↓reduceIte, Nat.reduceLT, Nat.reduceEqDiff, Nat.reduceAdd, or_true, true_or, or_false, false_or, k3m _ e0, bI_itn, c163, w, e0, c1, r7, c2, u0]
  · have q0 : (decide (¬ i < 0) && decide (¬ nI N ≤ i)) = false := by
      cases z : (decide (¬ i < 0) && decide (¬ nI N ≤ i))
      · rfl
      · exact absurd z q
    rw [q0] at k3 k3m
    refine PR.of (v := .int (Int32.ofInt (-2))) h ⟨σ, by simp (decide := true) only [e143, g143_0, g143_8, g143_11, g143_14, g143_23, g143_26, g143_29, g143_46, g143_68, g143_72, bm_run_ite, Option.toList_some, Option.bind_some, Option.toList_some, Option.toList_none, List.cons_append, List.nil_append, List.append_nil, eq_self, not_true_eq_false, not_false_eq_true, ite_true, ite_false, ↓reduceIte, Nat.reduceLT, Nat.reduceEqDiff, Nat.reduceAdd, or_true, true_or, or_false, false_or, k3, bI_itn, Bool.false_eq_true], Kp.rfl σ⟩ ?_
    intro τ hτ eB _
    rw [hB] at eB
    exact ⟨_, by simp (decide := true) only [e273, g273_0, g273_11, g273_14, g273_17, g273_26, g273_29, g273_32, g273_49, g273_62, bm_run_ite, Option.toList_some, Option.bind_some, Option.toList_some, Option.toList_none, List.cons_append, List.nil_append, List.append_nil, eq_self, not_true_eq_false, not_false_eq_true, ite_true, ite_false, ↓reduceIte, Nat.reduceLT, Nat.reduceEqDiff, Nat.reduceAdd, or_true, true_or, or_false, false_or, k3m _ ((t0_B τ).trans eB), bI_itn, Bool.false_eq_true], kp_t0 τ⟩
end INTER
