section PUB4
variable {S : am_S} {d : Nat} {σ : bm_S} {M L : Nat}
theorem small_bits {x : Int32} (h : ∀ k, 6 ≤ k → k < 32 → tb x k = false) : ∃ b, b < 64 ∧ x = nI b := by
  have hb : x.toBitVec.toNat < 2 ^ 6 := by
    apply Nat.lt_pow_two_of_testBit
    intro i hi
    by_cases q : i < 32
    · exact h i hi q
    · rw [Nat.testBit_lt_two_pow]
      exact Nat.lt_of_lt_of_le x.toBitVec.isLt (Nat.pow_le_pow_right (by decide) (by omega))
  refine ⟨x.toBitVec.toNat, hb, ?_⟩
  apply Int32.toBitVec_inj.mp
  apply BitVec.eq_of_toNat_eq
  show x.toBitVec.toNat = x.toBitVec.toNat % 2 ^ 32
  rw [Nat.mod_eq_of_lt x.toBitVec.isLt]
theorem c288 {x : Int32} (h : ∀ k, 6 ≤ k → k < 32 → tb x k = false) : bm_call S d 288 [.int x] σ = some (some (.int (bcF x)), σ) := by
  obtain ⟨b, hb, rfl⟩ := small_bits h
  rw [e288, g288_0]
  congr 3
  congr 1
  clear h
  revert b
  decide +kernel
theorem tb_be {M L : Nat} (hM : M ≤ 6) (hL : L ≤ 12) {B : Nat → Int32} (hg : GA M L B) {m : Nat} (hm : m < M) (n : Nat) : ∀ k, 6 ≤ k → k < 32 → tb (beB M L B m n) k = false := by
  intro k h1 h2
  unfold beB
  rw [tb_and, tb_and, (goB_GA hM hL (brB_GA hM hL hg hm) n).2.2 k (by omega) h2]
  rfl
theorem p_chain (h : RS M L σ) (i n : Int32) : PR S (d + 10) 132 255 [.int i, .int n] σ := by
  have hM := h.rw.M6
  have hL := h.rw.L12
  have hr := h.rw
  have hb := h.bk
  have hg := h.ga
  generalize hB : σ.1 219 = B at *
  have e0 : ∀ τ : bm_S, τ.1 219 = B → (bm_wi τ 218 0 0).1 219 = B := fun τ e => (t0_B τ).trans e
  cases hi : hasI i M
  · refine PR.of (v := .int (Int32.ofInt (-2))) h ⟨σ, by simp only [e132, g132_0, g132_8, g132_11, g132_14, g132_23, g132_26, g132_29, g132_37, g132_40, g132_43, g132_60, bm_run_ite, Option.toList_some, Option.bind_some, Option.toList_some, Option.toList_none, List.cons_append, List.nil_append, List.append_nil, eq_self, not_true_eq_false, not_false_eq_true, ite_true, ite_false, ↓reduceIte, Nat.reduceLT, Nat.reduceEqDiff, Nat.reduceAdd, or_true, true_or, or_false, false_or, c78 hr, hi, bI_itn, Bool.false_eq_true], Kp.rfl σ⟩ ?_
    intro τ hτ eB _
    exact ⟨_, by simp (decide := true) only [e255, g255_0, g255_11, g255_16, g255_20, g255_26, e254, g254_0, g254_6, g254_9, g254_14, g254_23, g254_26, g254_31, g254_36, g254_39, g254_44, g254_45, bm_run_ite, Option.toList_some, Option.bind_some, Option.toList_some, Option.toList_none, List.cons_append, List.nil_append, List.append_nil, eq_self, not_true_eq_false, not_false_eq_true, ite_true, ite_false, ↓reduceIte, Nat.reduceLT, Nat.reduceEqDiff, Nat.reduceAdd, or_true, true_or, or_false, false_or, m193i hτ.t0.mr, hi, bI_itn, Bool.false_eq_true], kp_t0 τ⟩
  · obtain ⟨m, hm, rfl⟩ := hasI_of hi (by omega)
    rcases bW_01 n.toInt64 1 30 with q | q
    · refine PR.of (v := .int (Int32.ofInt (-3))) h ⟨σ, by simp (decide := true) only [e132, g132_0, g132_8, g132_11, g132_14, g132_23, g132_26, g132_29, g132_37, g132_40, g132_43, g132_60, bm_run_ite, Option.toList_some, Option.bind_some, Option.toList_some, Option.toList_none, List.cons_append, List.nil_append, List.append_nil, eq_self, not_true_eq_false, not_false_eq_true, ite_true, ite_false, ↓reduceIte, Nat.reduceLT, Nat.reduceEqDiff, Nat.reduceAdd, or_true, true_or, or_false, false_or, c78 hr, hi, bI_itn, c157, q], Kp.rfl σ⟩ ?_
      intro τ hτ eB _
      exact ⟨_, by simp (decide := true) only [e255, g255_0, g255_11, g255_16, g255_20, g255_26, e254, g254_0, g254_6, g254_9, g254_14, g254_23, g254_26, g254_31, g254_36, g254_39, g254_44, g254_45, bm_run_ite, Option.toList_some, Option.bind_some, Option.toList_some, Option.toList_none, List.cons_append, List.nil_append, List.append_nil, eq_self, not_true_eq_false, not_false_eq_true, ite_true, ite_false, ↓reduceIte, Nat.reduceLT, Nat.reduceEqDiff, Nat.reduceAdd, or_true, true_or, or_false, false_or, m193i hτ.t0.mr, hi, bI_itn, c163, q], kp_t0 τ⟩
    · obtain ⟨k, hk0, hk, rfl⟩ := bW_of (a := 1) (b := 30) (by decide +kernel) (by decide +kernel) (by decide) q
      cases hq : tb (B 24) m
      · refine PR.of (v := .int (beB M L B m k)) h ?_ ?_
        · obtain ⟨σ1, e1, f1⟩ := c37 (S := S) (d := d + 3) hr (by omega) hb (by unfold ob; omega) (by omega) hg hm k (by omega)
          exact ⟨σ1, by simp (decide := true) only [e132, g132_0, g132_8, g132_11, g132_14, g132_23, g132_26, g132_29, g132_37, g132_40, g132_43, g132_60, bm_run_ite, Option.toList_some, Option.bind_some, Option.toList_some, Option.toList_none, List.cons_append, List.nil_append, List.append_nil, eq_self, not_true_eq_false, not_false_eq_true, ite_true, ite_false, ↓reduceIte, Nat.reduceLT, Nat.reduceEqDiff, Nat.reduceAdd, or_true, true_or, or_false, false_or, c78 hr, hi, bI_itn, bI_ite, c157, q, c80 hr (show m < 32 by omega), hq, e1], f1.kp (by omega)⟩
        · intro τ hτ eB _
          rw [hB] at eB
          have h0 := hτ.t0
          obtain ⟨σ1, e1, f1⟩ := m253 (S := S) (d := d + 1) h0.mr h0.ga hm k (by omega)
          rw [e0 τ eB] at e1
          exact ⟨σ1, by simp (decide := true) only [e255, g255_0, g255_11, g255_16, g255_20, g255_26, e254, g254_0, g254_6, g254_9, g254_14, g254_23, g254_26, g254_31, g254_36, g254_39, g254_44, g254_45, bm_run_ite, Option.toList_some, Option.bind_some, Option.toList_some, Option.toList_none, List.cons_append, List.nil_append, List.append_nil, eq_self, not_true_eq_false, not_false_eq_true, ite_true, ite_false, ↓reduceIte, Nat.reduceLT, Nat.reduceEqDiff, Nat.reduceAdd, or_true, true_or, or_false, false_or, m193i hτ.t0.mr, hi, bI_itn, bI_ite, c163, q, m196 (show m < 32 by omega), e0 τ eB, hq, e1], (kp_t0 τ).tr f1.kp⟩
      · refine PR.of (v := .int (Int32.ofInt (-5))) h ⟨σ, by simp (decide := true) only [e132, g132_0, g132_8, g132_11, g132_14, g132_23, g132_26, g132_29, g132_37, g132_40, g132_43, g132_60, bm_run_ite, Option.toList_some, Option.bind_some, Option.toList_some, Option.toList_none, List.cons_append, List.nil_append, List.append_nil, eq_self, not_true_eq_false, not_false_eq_true, ite_true, ite_false, ↓reduceIte, Nat.reduceLT, Nat.reduceEqDiff, Nat.reduceAdd, or_true, true_or, or_false, false_or, c78 hr, hi, bI_itn, bI_ite, c157, q, c80 hr (show m < 32 by omega), hq], Kp.rfl σ⟩ ?_
        intro τ hτ eB _
        rw [hB] at eB
        exact ⟨_, by simp (decide := true) only [e255, g255_0, g255_11, g255_16, g255_20, g255_26, e254, g254_0, g254_6, g254_9, g254_14, g254_23, g254_26, g254_31, g254_36, g254_39, g254_44, g254_45, bm_run_ite, Option.toList_some, Option.bind_some, Option.toList_some, Option.toList_none, List.cons_append, List.nil_append, List.append_nil, eq_self, not_true_eq_false, not_false_eq_true, ite_true, ite_false, ↓reduceIte, Nat.reduceLT, Nat.reduceEqDiff, Nat.reduceAdd, or_true, true_or, or_false, false_or, m193i hτ.t0.mr, hi, bI_itn, bI_ite, c163, q, m196 (show m < 32 by omega), e0 τ eB, hq], kp_t0 τ⟩
/-- who breaks most besides, and how many -/
def piF (M L : Nat) (B : Nat → Int32) (n : Nat) : Nat → Int32 × Int32
  | 0 => (Int32.ofInt (-1), 0)
  | m + 1 => if tb (B 24) m = true then piF M L B n m else if (piF M L B n m).2 < bcF (beB M L B m n) then (nI m, bcF (beB M L B m n)) else piF M L B n m
theorem piF_pos (M L : Nat) (B : Nat → Int32) (n : Nat) : ∀ m, 0 ≤ (piF M L B n m).2 := by
  intro m
  induction m with
  | zero => exact Int32.le_refl 0
  | succ m ih =>
    rw [piF]
    split
    · exact ih
    · split
      · next h => exact Int32.le_of_lt (Int32.lt_of_le_of_lt ih h)
      · exact ih
theorem RS.kB (h : RS M L σ) {τ : bm_S} (k : Kp σ τ) : RS M L τ ∧ τ.1 219 = σ.1 219 := ⟨h.kp k, k.1 219 (by unfold Sc; omega) (by omega)⟩
theorem p_pillar (h : RS M L σ) (n : Int32) : PR S (d + 10) 133 256 [.int n] σ := by
  have hM := h.rw.M6
  have hL := h.rw.L12
  generalize hB : σ.1 219 = B
  rcases bW_01 n.toInt64 1 30 with q | q
  · refine PR.of (v := .int (Int32.ofInt (-3))) h ⟨σ, by simp (decide := true) only [e133, g133_0, g133_9, g133_12, g133_15, g133_22, g133_34, g133_43, g133_46, g133_49, g133_67, g133_70, g133_78, g133_84, g133_90, bm_run_ite, Option.toList_some, Option.bind_some, Option.toList_some, Option.toList_none, List.cons_append, List.nil_append, List.append_nil, eq_self, not_true_eq_false, not_false_eq_true, ite_true, ite_false, ↓reduceIte, Nat.reduceLT, Nat.reduceEqDiff, Nat.reduceAdd, or_true, true_or, or_false, false_or, c157, q], Kp.rfl σ⟩ ?_
    intro τ hτ eB _
    exact ⟨_, by simp (decide := true) only [e256, g256_0, g256_14, g256_17, g256_20, g256_27, g256_38, g256_44, g256_47, g256_51, g256_58, g256_61, g256_69, g256_72, g256_78, g256_84, bm_run_ite, Option.toList_some, Option.bind_some, Option.toList_some, Option.toList_none, List.cons_append, List.nil_append, List.append_nil, eq_self, not_true_eq_false, not_false_eq_true, ite_true, ite_false, ↓reduceIte, Nat.reduceLT, Nat.reduceEqDiff, Nat.reduceAdd, or_true, true_or, or_false, false_or, c163, q], kp_t0 τ⟩
  · obtain ⟨n, hk0, hk, rfl⟩ := bW_of (a := 1) (b := 30) (by decide +kernel) (by decide +kernel) (by decide) q
    refine PR.of (v := .int (piF M L B n M).1) h ?_ ?_
    · obtain ⟨⟨o5, σ1⟩, e1, k1⟩ := loop_ex (fun k (s : Option Value × bm_S) => bm_run S (d + 10) 133 22 [some (.ref 0), some (.int (nI n)), some (.int (piF M L B n k).1), some (.int (piF M L B n k).2), some (.int (nI k)), s.1] [] s.2) (fun _ s => Kp σ s.2) M (none, σ) (Kp.rfl σ) (by
        intro k s hk ks
        obtain ⟨h1, b1⟩ := h.kB ks
        have hr := h1.rw
        have hb := h1.bk
        have hg := h1.ga
        rw [b1, hB] at hr hb hg
        rw [piF]
        cases hq : tb (B 24) k
        · obtain ⟨σ1, e1, f1⟩ := c37 (S := S) (d := d + 3) hr (by omega) hb (by unfold ob; omega) (by omega) hg hk n (by omega)
          refine ⟨(some (.int (bcF (beB M L B k n))), σ1), ?_, ks.tr (f1.kp (by omega))⟩
          have e2 := fun τ => c288 (S := S) (d := d + 9) (σ := τ) (tb_be hM hL hg hk n)
          by_cases q2 : (piF M L B n k).2 < bcF (beB M L B k n)
          · have q3 : ¬ bcF (beB M L B k n) ≤ (piF M L B n k).2 := Int32.not_le.mpr q2
            rw [g133_22]
            simp (disch := omega) only [bm_run_ite, Option.toList_some, Option.bind_some, Option.toList_some, Option.toList_none, List.cons_append, List.nil_append, List.append_nil, eq_self, not_true_eq_false, not_false_eq_true, ite_true, ite_false, ↓reduceIte, Nat.reduceLT, Nat.reduceEqDiff, Nat.reduceAdd, or_true, true_or, or_false, false_or, nI_clamp2, nI_lt0F, nI_leT, nI_leF, nI_ltT, nI_ltF, n_leF, n_leT, nI_1, kA6, kA8, kA10, kA22, kA26, kA32, kA44, kA56, kA68, kA80, kA93, kA163, kA794, not_or, or_self, and_self, and_true, true_and, g133_0, g133_9, g133_12, g133_15, g133_34, g133_43, g133_46, g133_49, g133_67, g133_70, g133_78, g133_84, g133_90, hr.f0, c80 hr (show k < 32 by omega), hq, bI_ite, Bool.false_eq_true, e1, e2, q2, q3]
          · have q3 : bcF (beB M L B k n) ≤ (piF M L B n k).2 := Int32.not_lt.mp q2
            rw [g133_22]
            simp (disch := omega) only [bm_run_ite, Option.toList_some, Option.bind_some, Option.toList_some, Option.toList_none, List.cons_append, List.nil_append, List.append_nil, eq_self, not_true_eq_false, not_false_eq_true, ite_true, ite_false, ↓reduceIte, Nat.reduceLT, Nat.reduceEqDiff, Nat.reduceAdd, or_true, true_or, or_false, false_or, nI_clamp2, nI_lt0F, nI_leT, nI_leF, nI_ltT, nI_ltF, n_leF, n_leT, nI_1, kA6, kA8, kA10, kA22, kA26, kA32, kA44, kA56, kA68, kA80, kA93, kA163, kA794, not_or, or_self, and_self, and_true, true_and, g133_0, g133_9, g133_12, g133_15, g133_34, g133_43, g133_46, g133_49, g133_67, g133_70, g133_78, g133_84, g133_90, hr.f0, c80 hr (show k < 32 by omega), hq, bI_ite, Bool.false_eq_true, e1, e2, q2, q3]
        · refine ⟨s, ?_, ks⟩
          rw [g133_22]
          simp (disch := omega) only [bm_run_ite, Option.toList_some, Option.bind_some, Option.toList_some, Option.toList_none, List.cons_append, List.nil_append, List.append_nil, eq_self, not_true_eq_false, not_false_eq_true, ite_true, ite_false, ↓reduceIte, Nat.reduceLT, Nat.reduceEqDiff, Nat.reduceAdd, or_true, true_or, or_false, false_or, nI_clamp2, nI_lt0F, nI_leT, nI_leF, nI_ltT, nI_ltF, n_leF, n_leT, nI_1, kA6, kA8, kA10, kA22, kA26, kA32, kA44, kA56, kA68, kA80, kA93, kA163, kA794, not_or, or_self, and_self, and_true, true_and, g133_0, g133_9, g133_12, g133_15, g133_34, g133_43, g133_46, g133_49, g133_67, g133_70, g133_78, g133_84, g133_90, hr.f0, c80 hr (show k < 32 by omega), hq, bI_ite])
      replace k1 : Kp σ σ1 := k1
      have f0 := (h.kB k1).1.rw.f0
      refine ⟨σ1, ?_, k1⟩
      simp (decide := true) only [e133, g133_0, g133_9, g133_15, bm_run_ite, Option.toList_some, Option.bind_some, Option.toList_some, Option.toList_none, List.cons_append, List.nil_append, List.append_nil, eq_self, not_true_eq_false, not_false_eq_true, ite_true, ite_false, ↓reduceIte, Nat.reduceLT, Nat.reduceEqDiff, Nat.reduceAdd, or_true, true_or, or_false, false_or, c157, q]
      refine (show bm_run S (d + 10) 133 22 [some (.ref 0), some (.int (nI n)), some (.int (Int32.ofInt (-1))), some (.int 0), some (.int (nI 0)), none] [] σ = _ from e1).trans ?_
      rw [g133_22]
      simp (disch := omega) only [bm_run_ite, Option.toList_some, Option.bind_some, Option.toList_some, Option.toList_none, List.cons_append, List.nil_append, List.append_nil, eq_self, not_true_eq_false, not_false_eq_true, ite_true, ite_false, ↓reduceIte, Nat.reduceLT, Nat.reduceEqDiff, Nat.reduceAdd, or_true, true_or, or_false, false_or, nI_clamp2, nI_lt0F, nI_leT, nI_leF, nI_ltT, nI_ltF, n_leF, n_leT, nI_1, kA6, kA8, kA10, kA22, kA26, kA32, kA44, kA56, kA68, kA80, kA93, kA163, kA794, not_or, or_self, and_self, and_true, true_and, g133_90, f0]
    · intro τ hτ eB _
      rw [hB] at eB
      have h0 := hτ.t0
      obtain ⟨⟨o5, σ1⟩, e1, k1⟩ := loop_ex (fun k (s : Option Value × bm_S) => bm_run S (d + 10) 256 27 [some (.ref 218), some (.int (nI n)), some (.int (piF M L B n k).1), some (.int (piF M L B n k).2), some (.int (nI k)), s.1] [] s.2) (fun _ s => Kp τ s.2) M (none, bm_wi τ 218 0 0) (kp_t0 τ) (by
        intro k s hk ks
        obtain ⟨h1, b1⟩ := hτ.kB ks
        have hg := h1.ga
        have b2 := b1.trans eB
        rw [b2] at hg
        have m3 := h1.mr.m
        rw [b2] at m3
        have mb := m196 (S := S) (d := d + 8) (σ := s.2) (m := k) (by omega)
        rw [b2] at mb
        rw [piF]
        cases hq : tb (B 24) k
        · obtain ⟨σ1, e1, f1⟩ := m253 (S := S) (d := d + 1) h1.mr h1.ga hk n (by omega)
          rw [b2] at e1
          refine ⟨(some (.int (bcF (beB M L B k n))), σ1), ?_, ks.tr f1.kp⟩
          by_cases q2 : (piF M L B n k).2 < bcF (beB M L B k n)
          · rw [g256_27]
            simp (disch := omega) only [bm_run_ite, Option.toList_some, Option.bind_some, Option.toList_some, Option.toList_none, List.cons_append, List.nil_append, List.append_nil, eq_self, not_true_eq_false, not_false_eq_true, ite_true, ite_false, ↓reduceIte, Nat.reduceLT, Nat.reduceEqDiff, Nat.reduceAdd, or_true, true_or, or_false, false_or, nI_clamp2, nI_lt0F, nI_leT, nI_leF, nI_ltT, nI_ltF, n_leF, n_leT, nI_1, kA6, kA8, kA10, kA22, kA26, kA32, kA44, kA56, kA68, kA80, kA93, kA163, kA794, not_or, or_self, and_self, and_true, true_and, g256_0, g256_14, g256_17, g256_20, g256_38, g256_44, g256_47, g256_51, g256_58, g256_61, g256_69, g256_72, g256_78, g256_84, b2, m3, mb, hq, bI_ite, Bool.false_eq_true, e1, m197, q2]
          · rw [g256_27]
            simp (disch := omega) only [bm_run_ite, Option.toList_some, Option.bind_some, Option.toList_some, Option.toList_none, List.cons_append, List.nil_append, List.append_nil, eq_self, not_true_eq_false, not_false_eq_true, ite_true, ite_false, ↓reduceIte, Nat.reduceLT, Nat.reduceEqDiff, Nat.reduceAdd, or_true, true_or, or_false, false_or, nI_clamp2, nI_lt0F, nI_leT, nI_leF, nI_ltT, nI_ltF, n_leF, n_leT, nI_1, kA6, kA8, kA10, kA22, kA26, kA32, kA44, kA56, kA68, kA80, kA93, kA163, kA794, not_or, or_self, and_self, and_true, true_and, g256_0, g256_14, g256_17, g256_20, g256_38, g256_44, g256_47, g256_51, g256_58, g256_61, g256_69, g256_72, g256_78, g256_84, b2, m3, mb, hq, bI_ite, Bool.false_eq_true, e1, m197, q2]
        · have q3 : ¬ (piF M L B n k).2 < 0 := Int32.not_lt.mpr (piF_pos M L B n k)
          refine ⟨(some (.int 0), s.2), ?_, ks⟩
          rw [g256_27]
          simp (disch := omega) only [bm_run_ite, Option.toList_some, Option.bind_some, Option.toList_some, Option.toList_none, List.cons_append, List.nil_append, List.append_nil, eq_self, not_true_eq_false, not_false_eq_true, ite_true, ite_false, ↓reduceIte, Nat.reduceLT, Nat.reduceEqDiff, Nat.reduceAdd, or_true, true_or, or_false, false_or, nI_clamp2, nI_lt0F, nI_leT, nI_leF, nI_ltT, nI_ltF, n_leF, n_leT, nI_1, kA6, kA8, kA10, kA22, kA26, kA32, kA44, kA56, kA68, kA80, kA93, kA163, kA794, not_or, or_self, and_self, and_true, true_and, g256_0, g256_14, g256_17, g256_20, g256_38, g256_44, g256_47, g256_51, g256_58, g256_61, g256_69, g256_72, g256_78, g256_84, b2, m3, mb, hq, bI_ite, q3])
      replace k1 : Kp τ σ1 := k1
      have f0 := (hτ.kB k1).1.mr.m
      refine ⟨σ1, ?_, k1⟩
      simp (decide := true) only [e256, g256_0, g256_14, g256_20, bm_run_ite, Option.toList_some, Option.bind_some, Option.toList_some, Option.toList_none, List.cons_append, List.nil_append, List.append_nil, eq_self, not_true_eq_false, not_false_eq_true, ite_true, ite_false, ↓reduceIte, Nat.reduceLT, Nat.reduceEqDiff, Nat.reduceAdd, or_true, true_or, or_false, false_or, c163, q]
      refine (show bm_run S (d + 10) 256 27 [some (.ref 218), some (.int (nI n)), some (.int (Int32.ofInt (-1))), some (.int 0), some (.int (nI 0)), none] [] _ = _ from e1).trans ?_
      rw [g256_27]
      simp (disch := omega) only [bm_run_ite, Option.toList_some, Option.bind_some, Option.toList_some, Option.toList_none, List.cons_append, List.nil_append, List.append_nil, eq_self, not_true_eq_false, not_false_eq_true, ite_true, ite_false, ↓reduceIte, Nat.reduceLT, Nat.reduceEqDiff, Nat.reduceAdd, or_true, true_or, or_false, false_or, nI_clamp2, nI_lt0F, nI_leT, nI_leF, nI_ltT, nI_ltF, n_leF, n_leT, nI_1, kA6, kA8, kA10, kA22, kA26, kA32, kA44, kA56, kA68, kA80, kA93, kA163, kA794, not_or, or_self, and_self, and_true, true_and, g256_84, f0]
end PUB4
