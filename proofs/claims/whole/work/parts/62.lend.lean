theorem l_lt {i j : Int32} : i.toInt64 < j.toInt64 ↔ i < j := by
  rw [Int64.lt_iff_toInt_lt, Int32.lt_iff_toInt_lt, Int32.toInt_toInt64, Int32.toInt_toInt64]
theorem l_inj {i j : Int32} : i.toInt64 = j.toInt64 ↔ i = j := by
  constructor
  · intro h
    apply Int32.toInt_inj.mp
    rw [← Int32.toInt_toInt64, ← Int32.toInt_toInt64 j, h]
  · intro h; rw [h]
section LEND
variable {S : am_S} {d : Nat} {σ : bm_S} {M L : Nat}
theorem m223 (h : MR M L σ) (i j n : Int32) : bm_call S (d + 2) 223 [.ref 218, .long i.toInt64, .long j.toInt64, .long n.toInt64] σ = some (some (.int (wlB (σ.1 219) M i j n)), σ) := by
  have hM := h.M6
  have ei : ∀ i : Int32, i.toInt64.toInt32 = i := fun i => by simp
  have el : ∀ x y : Int32, 0 ≤ lg_cmp x.toInt64 y.toInt64 ↔ ¬ x < y := by
    intro x y
    rw [← Int32.not_lt, lg_lt0, l_lt]
  unfold wlB
  cases hi : hasI i M
  · simp only [e223, g223_0, g223_5, g223_8, g223_13, g223_16, g223_22, g223_31, g223_34, g223_36, g223_42, g223_45, g223_51, g223_54, g223_58, g223_75, g223_79, g223_80, bm_run_ite, Option.toList_some, Option.bind_some, Option.toList_some, Option.toList_none, List.cons_append, List.nil_append, List.append_nil, eq_self, not_true_eq_false, not_false_eq_true, ite_true, ite_false, ↓reduceIte, Nat.reduceLT, Nat.reduceEqDiff, Nat.reduceAdd, or_true, true_or, or_false, false_or, m193i h, hi, bI_ite, Bool.false_eq_true, false_and]
  · cases hj : hasI j M
    · simp only [e223, g223_0, g223_5, g223_8, g223_13, g223_16, g223_22, g223_31, g223_34, g223_36, g223_42, g223_45, g223_51, g223_54, g223_58, g223_75, g223_79, g223_80, bm_run_ite, Option.toList_some, Option.bind_some, Option.toList_some, Option.toList_none, List.cons_append, List.nil_append, List.append_nil, eq_self, not_true_eq_false, not_false_eq_true, ite_true, ite_false, ↓reduceIte, Nat.reduceLT, Nat.reduceEqDiff, Nat.reduceAdd, or_true, true_or, or_false, false_or, m193i h, hi, hj, bI_ite, Bool.false_eq_true, false_and, and_false]
    · by_cases hij : i = j
      · subst hij
        simp only [e223, g223_0, g223_5, g223_8, g223_13, g223_16, g223_22, g223_31, g223_34, g223_36, g223_42, g223_45, g223_51, g223_54, g223_58, g223_75, g223_79, g223_80, bm_run_ite, Option.toList_some, Option.bind_some, Option.toList_some, Option.toList_none, List.cons_append, List.nil_append, List.append_nil, eq_self, not_true_eq_false, not_false_eq_true, ite_true, ite_false, ↓reduceIte, Nat.reduceLT, Nat.reduceEqDiff, Nat.reduceAdd, or_true, true_or, or_false, false_or, m193i h, hi, bI_ite, lg_eq0, ne_eq, false_and, and_false]
      · have hij2 : ¬ i.toInt64 = j.toInt64 := fun z => hij (l_inj.mp z)
        rcases bW_01 n.toInt64 1 999 with hw | hw
        · have e9 : ¬ (0 : Int32) = 1 := by decide
          simp only [e223, g223_0, g223_5, g223_8, g223_13, g223_16, g223_22, g223_31, g223_34, g223_36, g223_42, g223_45, g223_51, g223_54, g223_58, g223_75, g223_79, g223_80, bm_run_ite, Option.toList_some, Option.bind_some, Option.toList_some, Option.toList_none, List.cons_append, List.nil_append, List.append_nil, eq_self, not_true_eq_false, not_false_eq_true, ite_true, ite_false, ↓reduceIte, Nat.reduceLT, Nat.reduceEqDiff, Nat.reduceAdd, or_true, true_or, or_false, false_or, m193i h, hi, hj, bI_ite, lg_eq0, hij, hij2, ne_eq, false_and, and_false, c163, hw, e9]
        · obtain ⟨a, ha, rfl⟩ := hasI_of hi (by omega)
          obtain ⟨b, hb, rfl⟩ := hasI_of hj (by omega)
          simp (disch := omega) only [bm_run_ite, Option.toList_some, Option.bind_some, Option.toList_some, Option.toList_none, List.cons_append, List.nil_append, List.append_nil, eq_self, not_true_eq_false, not_false_eq_true, ite_true, ite_false, ↓reduceIte, Nat.reduceLT, Nat.reduceEqDiff, Nat.reduceAdd, or_true, true_or, or_false, false_or, nI_clamp2, nI_lt0F, nI_leT, nI_leF, nI_ltT, nI_ltF, n_leF, n_leT, nI_1, kA6, kA8, kA10, kA22, kA26, kA32, kA44, kA56, kA68, kA80, kA93, kA163, kA794, not_or, or_self, and_self, and_true, true_and, e223, g223_0, g223_5, g223_8, g223_13, g223_16, g223_22, g223_31, g223_34, g223_36, g223_42, g223_45, g223_51, g223_54, g223_58, g223_75, g223_79, g223_80, m193i h, hi, hj, bI_ite, bI_itn, lg_eq0, hij, hij2, ne_eq, and_self, c163, hw, nz10, m196 (show a < 32 by omega), m196 (show b < 32 by omega), ei, el, cN_nI (show a < 2147483648 by omega), cN_nI (show b < 2147483648 by omega)]
          cases tb (σ.1 219 24) a
          · cases tb (σ.1 219 24) b
            · by_cases q : σ.1 219 (26 + a) < n
              · simp [q]
              · simp [q]
            · simp
          · simp
theorem p_lend (h : RS M L σ) (i j x : Int32) : PR S (d + 10) 118 225 [.int i, .int j, .int x] σ := by
  have hM := h.rw.M6
  have hL := h.rw.L12
  have gc := h.ga.1.2.2.2
  have hr := h.rw
  have hok := h.1.1
  generalize hB : σ.1 219 = B at *
  by_cases q : wlB B M i j x = 0
  · obtain ⟨σ1, n, e, n1, e1, k1, af⟩ := rem_RS (S := S) (d := d + 6) h
    have e5 : ∀ a, a < 42 ∨ 141 < a → σ1.1 a = σ.1 a := fun a ha => af.at ha
    have hr1 : RW M L σ1 5 B := hr.of (fun a _ _ => e5 a (by omega))
    have qq := q
    unfold wlB at qq
    by_cases hc : hasI i M = true ∧ hasI j M = true ∧ i ≠ j ∧ bW x.toInt64 1 999 = 1
    · rw [if_pos hc] at qq
      obtain ⟨hi, hj, hij, hw⟩ := hc
      obtain ⟨a, ha, rfl⟩ := hasI_of hi (by omega)
      obtain ⟨b, hb, rfl⟩ := hasI_of hj (by omega)
      obtain ⟨y, hy1, hy, rfl⟩ := bW_of (a := 1) (b := 999) (by decide +kernel) (by decide +kernel) (by decide) hw
      rw [cN_nI (show a < 2147483648 by omega), cN_nI (show b < 2147483648 by omega)] at qq
      have hcs : ¬ B (26 + a) < nI y := by
        intro z
        by_cases w : tb (B 24) a = true ∨ tb (B 24) b = true
        · rw [if_pos w] at qq; exact absurd qq (by decide)
        · rw [if_neg w, if_pos z] at qq; exact absurd qq (by decide)
      have hC : OKB M L (gvB B a b (nI y)) := hok.gv ha hb hy hcs
      obtain ⟨c, hc1, hc2⟩ := gc a ha
      obtain ⟨σ2, k2, r2, f2⟩ := c94 (S := S) (d := d + 7) hr1 ha hb (nI y) (by rw [hc2]; exact mn_sub hc1 (by omega))
      have k4 : bm_call S (d + 9) 158 [.ref 6, .int (nI a)] σ2 = _ := r2.a1 ha
      have b0 : (bm_wi σ2 218 0 0).1 219 = B := by rw [wi_n _ (by decide), f2.1 219 (by omega), e5 _ (by omega)]; exact hB
      obtain ⟨g1, k5, kg⟩ := m215 (S := S) (d := d + 9) (σ := bm_wi σ2 218 0 0)
      rw [b0, ← hB] at kg
      have b1 : (bm_row (bm_wi σ2 218 0 0) 228 g1).1 219 = B := (bm_row_1n _ _ (by decide)).trans b0
      have mr : ∀ τ : bm_S, τ.1 219 = B → MR M L τ := fun τ ht => ⟨⟨hM, hL⟩, by rw [ht, ← hB]; exact h.mr.m, by rw [ht, ← hB]; exact h.mr.l⟩
      have k6 := m221 (S := S) (d := d + 9) (σ := bm_row (bm_wi σ2 218 0 0) 228 g1) (show a < 6 by omega) (show b < 6 by omega) (nI y)
      rw [b1] at k6
      obtain ⟨k7, rs⟩ := mut_fin (S := S) (d := d + 9) (ρ2 := bm_row (bm_row (bm_wi σ2 218 0 0) 228 g1) 219 (gvB B a b (nI y))) h af f2.b kg ((Fp.rfl _).r17 _).q (row_row1 _ _ _) (fun k hk => by rw [gvB_out (by omega) (by omega), hB]) hC r2
      have k8 := m223 (S := S) (d := d + 7) (mr _ b0) (nI a) (nI b) (nI y)
      rw [b0, q] at k8
      refine ⟨.int (gvB B a b (nI y) (26 + a)), σ2, _, M, L, ?_, ?_, rs⟩
      · simp only [e118, g118_0, g118_10, g118_17, g118_23, g118_34, g118_44, g118_55, bm_run_ite, Option.toList_some, Option.bind_some, Option.toList_some, Option.toList_none, List.cons_append, List.nil_append, List.append_nil, eq_self, not_true_eq_false, not_false_eq_true, ite_true, ite_false, ↓reduceIte, Nat.reduceLT, Nat.reduceEqDiff, Nat.reduceAdd, or_true, true_or, or_false, false_or, c97 hr, q, k1, k2, k4]
      · simp (disch := omega) only [bm_run_ite, Option.toList_some, Option.bind_some, Option.toList_some, Option.toList_none, List.cons_append, List.nil_append, List.append_nil, eq_self, not_true_eq_false, not_false_eq_true, ite_true, ite_false, ↓reduceIte, Nat.reduceLT, Nat.reduceEqDiff, Nat.reduceAdd, or_true, true_or, or_false, false_or, nI_clamp2, nI_lt0F, nI_leT, nI_leF, nI_ltT, nI_ltF, n_leF, n_leT, nI_1, kA6, kA8, kA10, kA22, kA26, kA32, kA44, kA56, kA68, kA80, kA93, kA163, kA794, not_or, or_self, and_self, and_true, true_and, e225, g225_0, g225_15, g225_22, g225_28, g225_32, g225_39, g225_43, k8, k5, k6, k7, row_row1, noB_out (show 26 + a < 92 ∨ 793 ≤ 26 + a by omega) af.2.1]
    · rw [if_neg hc] at qq; exact absurd qq (by decide)
  · refine PR.of (v := .int (Int32.ofInt (-10) - wlB B M i j x)) h ⟨σ, by simp only [e118, g118_0, g118_10, g118_17, g118_23, g118_34, g118_44, g118_55, bm_run_ite, Option.toList_some, Option.bind_some, Option.toList_some, Option.toList_none, List.cons_append, List.nil_append, List.append_nil, eq_self, not_true_eq_false, not_false_eq_true, ite_true, ite_false, ↓reduceIte, Nat.reduceLT, Nat.reduceEqDiff, Nat.reduceAdd, or_true, true_or, or_false, false_or, c97 hr, q], Kp.rfl σ⟩ ?_
    intro τ hτ eB _
    rw [hB] at eB
    have h0 := hτ.t0
    have e0 := (t0_B τ).trans eB
    have k8 := m223 (S := S) (d := d + 7) h0.mr i j x
    rw [e0] at k8
    exact ⟨_, by simp only [e225, g225_0, g225_15, g225_22, g225_28, g225_32, g225_39, g225_43, bm_run_ite, Option.toList_some, Option.bind_some, Option.toList_some, Option.toList_none, List.cons_append, List.nil_append, List.append_nil, eq_self, not_true_eq_false, not_false_eq_true, ite_true, ite_false, ↓reduceIte, Nat.reduceLT, Nat.reduceEqDiff, Nat.reduceAdd, or_true, true_or, or_false, false_or, k8, q], kp_t0 τ⟩
end LEND
