/-! a letter written -/
def adB (B : Nat → Int32) (L : Nat) (a b c f lt : Int32) : Nat → Int32 := upd (upd (upd (upd (upd (upd B (32 + L) a) (44 + L) b) (56 + L) c) (68 + L) f) (80 + L) 0) (10 + L) lt
def adC (B : Nat → Int32) (L : Nat) (a b c f : Int32) : Nat → Int32 := upd (upd (upd (upd (upd (upd B 25 (nI (L + 1))) (32 + L) a) (44 + L) b) (56 + L) c) (68 + L) f) (80 + L) 0
theorem adC_out {B : Nat → Int32} {L : Nat} {a b c f : Int32} {i : Nat} (h : i ≠ 25 ∧ i ≠ 32 + L ∧ i ≠ 44 + L ∧ i ≠ 56 + L ∧ i ≠ 68 + L ∧ i ≠ 80 + L) : adC B L a b c f i = B i := by
  obtain ⟨h1, h2, h3, h4, h5, h6⟩ := h
  unfold adC
  rw [upd_n _ _ h6, upd_n _ _ h5, upd_n _ _ h4, upd_n _ _ h3, upd_n _ _ h2, upd_n _ _ h1]
theorem OKB.ad {M L : Nat} {B : Nat → Int32} (h : OKB M L B) (hL : L < 12) {a b c : Nat} (ha : a < M) (hb : b < M) (hab : a ≠ b) (hc : c ≤ 999) (f : Int32) (na : tb (B 24) a = false) (nb1 : tb (B 24) b = false) : OKB M (L + 1) (adC B L (nI a) (nI b) (nI c) f) := by
  obtain ⟨⟨⟨hl0, go, gm, gc⟩, nb, bm⟩, z, lt, ⟨h1, h2, h3, h4⟩, hn, hf, sc⟩ := h
  have e : ∀ i, (i ≠ 25 ∧ i ≠ 32 + L ∧ i ≠ 44 + L ∧ i ≠ 56 + L ∧ i ≠ 68 + L ∧ i ≠ 80 + L) → adC B L (nI a) (nI b) (nI c) f i = B i := fun i hi => adC_out hi
  have e25 : adC B L (nI a) (nI b) (nI c) f 25 = nI (L + 1) := by unfold adC; simp (disch := omega) only [upd_n, upd_s]
  have e32 : adC B L (nI a) (nI b) (nI c) f (32 + L) = nI a := by unfold adC; simp (disch := omega) only [upd_n, upd_s]
  have e44 : adC B L (nI a) (nI b) (nI c) f (44 + L) = nI b := by unfold adC; simp (disch := omega) only [upd_n, upd_s]
  have e56 : adC B L (nI a) (nI b) (nI c) f (56 + L) = nI c := by unfold adC; simp (disch := omega) only [upd_n, upd_s]
  generalize adC B L (nI a) (nI b) (nI c) f = C at *
  have hc : ∀ p j, cdB C p j = cdB B p j := fun p j => e _ (by omega)
  have ht : ∀ p n, tyF C p n = tyF B p n := by
    intro p n
    induction n with
    | zero => rfl
    | succ n ih => rw [tyF, tyF, ih, hc]
  refine ⟨⟨⟨?_, ?_, ?_, ?_⟩, ?_, ?_⟩, ?_, ?_, ⟨h1, by omega, ?_, ?_⟩, ?_, ?_, sc.cg (fun i hi => e _ (by omega))⟩
  · unfold LW wfL at hl0 ⊢
    simp only [hc, ht]
    rw [e 1 (by omega), e 4 (by omega), e 5 (by omega), e 6 (by omega), e 7 (by omega), e 8 (by omega), e 9 (by omega)]
    exact hl0
  · intro l hl
    by_cases q : l = L
    · rw [q]; exact ⟨a, b, ha, hb, hab, e32, e44⟩
    · obtain ⟨x, y, hx, hy, hxy, ex, ey⟩ := go l (by omega)
      exact ⟨x, y, hx, hy, hxy, by rw [e _ (by omega)]; exact ex, by rw [e _ (by omega)]; exact ey⟩
  · intro l hl
    by_cases q : l = L
    · rw [q]; exact ⟨c, by omega, e56⟩
    · obtain ⟨k, hk, ek⟩ := gm l (by omega)
      exact ⟨k, hk, by rw [e _ (by omega)]; exact ek⟩
  · intro m hm
    obtain ⟨k, hk, ek⟩ := gc m hm
    exact ⟨k, hk, by rw [e _ (by omega)]; exact ek⟩
  · intro l hl ho m hm hb2
    rw [e 24 (by omega)] at hb2
    by_cases q : l = L
    · rw [q]
      unfold tou
      rw [e32, e44]
      have q1 : ¬ nI a = nI m := by
        rw [nI_eq (by omega) (by omega)]
        intro y; rw [y, hb2] at na; cases na
      have q2 : ¬ nI b = nI m := by
        rw [nI_eq (by omega) (by omega)]
        intro y; rw [y, hb2] at nb1; cases nb1
      simp [q1, q2]
    · unfold oB at ho
      rw [e _ (by omega)] at ho
      have := nb l (by omega) ho m hm hb2
      unfold tou at this ⊢
      rw [e _ (by omega), e _ (by omega)]
      exact this
  · intro m hm hk; rw [e 24 (by omega)]; exact bm m hm hk
  · intro l q1 q2; rw [e _ (by omega)]; exact z l (by omega) q2
  · intro l hl
    by_cases q : l = L
    · rw [q]; exact ⟨0, by omega, by rw [e _ (by omega)]; exact z L (Nat.le_refl L) hL⟩
    · obtain ⟨k, hk, ek⟩ := lt l (by omega)
      exact ⟨k, hk, by rw [e _ (by omega)]; exact ek⟩
  · rw [e 3 (by omega)]; exact h3
  · exact e25
  · rw [e 2 (by omega)]; exact hn
  · rw [e 1 (by omega)]; exact hf
section WRITE
variable {S : am_S} {d : Nat} {σ : bm_S} {M L w : Nat} {B : Nat → Int32}
theorem c91 (h : RW M L σ w B) (hL : L < 12) (a b c f lt : Int32) : ∃ σ1, bm_call S (d + 1) 91 [.ref w, .int a, .int b, .int c, .int f, .int lt] σ = some (none, σ1) ∧ RW M (L + 1) σ1 w (adB B L a b c f lt) ∧ Fx w σ σ1 := by
  have hM := h.M6
  have s2 := fun (τ : bm_S) (v : Int32) => set_row (S := S) (d := d) (σ := τ) h.iw.t2 h.iw.l2 hL (by decide) v
  have s3 := fun (τ : bm_S) (v : Int32) => set_row (S := S) (d := d) (σ := τ) h.iw.t3 h.iw.l3 hL (by decide) v
  have s4 := fun (τ : bm_S) (v : Int32) => set_row (S := S) (d := d) (σ := τ) h.iw.t4 h.iw.l4 hL (by decide) v
  have s5 := fun (τ : bm_S) (v : Int32) => set_row (S := S) (d := d) (σ := τ) h.iw.t5 h.iw.l5 hL (by decide) v
  have s6 := fun (τ : bm_S) (v : Int32) => set_row (S := S) (d := d) (σ := τ) h.iw.t6 h.iw.l6 hL (by decide) v
  have s7 := fun (τ : bm_S) (v : Int32) => set_row (S := S) (d := d) (σ := τ) h.iw.t7 h.iw.l7 hL (by decide) v
  refine ⟨bm_wi (bm_wi (bm_wi (bm_wi (bm_wi (bm_wi (bm_wi σ (w + 2) L a) (w + 3) L b) (w + 4) L c) (w + 5) L f) (w + 6) L 0) (w + 7) L lt) w 1 (nI (L + 1)), ?_, ?_, ?_⟩
  · simp (disch := omega) only [bm_run_ite, Option.toList_some, Option.bind_some, Option.toList_some, Option.toList_none, List.cons_append, List.nil_append, List.append_nil, eq_self, not_true_eq_false, not_false_eq_true, ite_true, ite_false, ↓reduceIte, Nat.reduceLT, Nat.reduceEqDiff, Nat.reduceAdd, or_true, true_or, or_false, false_or, nI_clamp2, nI_lt0F, nI_leT, nI_leF, nI_ltT, nI_ltF, n_leF, n_leT, nI_1, kA6, kA8, kA10, kA22, kA26, kA32, kA44, kA56, kA68, kA80, kA93, kA163, kA794, not_or, or_self, and_self, and_true, true_and, e91, g91_0, g91_12, g91_24, g91_36, g91_49, g91_61, g91_74, h.t, h.f1, s2, s3, s4, s5, s6, s7, wi_n2]
  · refine ⟨⟨h.iw, h.M6, by omega⟩, ⟨?_, ?_, ?_, ?_, ?_⟩, ?_, ?_, ?_, ?_, ?_, ?_, ?_⟩
    · simp (disch := omega) only [wi_s, wi_n2, upd_n]; exact h.f0
    · simp (disch := omega) only [wi_s, upd_s]
    · unfold adB; simp (disch := omega) only [wi_s, wi_n2, upd_n]; exact h.f2
    · unfold adB; simp (disch := omega) only [wi_s, wi_n2, upd_n]; exact h.f3
    · unfold adB; simp (disch := omega) only [wi_s, wi_n2, upd_n]; exact h.f4
    · intro i hi; unfold adB; simp (disch := omega) only [wi_s, wi_n2, upd_n]; exact h.r1 hi
    · intro i hi
      unfold adB
      by_cases e : i = L
      · rw [e]; simp (disch := omega) only [wi_s, wi_n2, upd_n, upd_s]
      · simp (disch := omega) only [wi_s, wi_n2, upd_n]; exact h.r2 (by omega)
    · intro i hi
      unfold adB
      by_cases e : i = L
      · rw [e]; simp (disch := omega) only [wi_s, wi_n2, upd_n, upd_s]
      · simp (disch := omega) only [wi_s, wi_n2, upd_n]; exact h.r3 (by omega)
    · intro i hi
      unfold adB
      by_cases e : i = L
      · rw [e]; simp (disch := omega) only [wi_s, wi_n2, upd_n, upd_s]
      · simp (disch := omega) only [wi_s, wi_n2, upd_n]; exact h.r4 (by omega)
    · intro i hi
      unfold adB
      by_cases e : i = L
      · rw [e]; simp (disch := omega) only [wi_s, wi_n2, upd_n, upd_s]
      · simp (disch := omega) only [wi_s, wi_n2, upd_n]; exact h.r5 (by omega)
    · intro i hi
      unfold adB
      by_cases e : i = L
      · rw [e]; simp (disch := omega) only [wi_s, wi_n2, upd_n, upd_s]
      · simp (disch := omega) only [wi_s, wi_n2, upd_n]; exact h.r6 (by omega)
    · intro i hi
      unfold adB
      by_cases e : i = L
      · rw [e]; simp (disch := omega) only [wi_s, wi_n2, upd_n, upd_s]
      · simp (disch := omega) only [wi_s, wi_n2, upd_n]; exact h.r7 (by omega)
  · exact ⟨fun x hx => by simp (disch := omega) only [wi_n2], rfl⟩
theorem p_write (h : RS M L σ) (i j x y : Int32) : PR S (d + 10) 116 219 [.int i, .int j, .int x, .int y] σ := by
  have hM := h.rw.M6
  have hL := h.rw.L12
  have hr := h.rw
  have hok := h.1.1
  have hm3 := h.mr.m
  have hm25 := h.mr.l
  generalize hB : σ.1 219 = B at *
  have mr : ∀ τ : bm_S, τ.1 219 = B → MR M L τ := fun τ ht => ⟨⟨hM, hL⟩, by rw [ht]; exact hm3, by rw [ht]; exact hm25⟩
  have bad2 : (hasI i M = true ∧ hasI j M = true ∧ i ≠ j) ∨ PR S (d + 10) 116 219 [.int i, .int j, .int x, .int y] σ := by
    cases hi : hasI i M
    · right
      refine PR.of (v := .int (Int32.ofInt (-2))) h ⟨σ, by simp only [e116, g116_0, g116_8, g116_11, g116_19, g116_22, g116_27, g116_30, g116_39, g116_42, g116_52, g116_55, g116_58, g116_70, g116_73, g116_81, g116_84, g116_92, g116_95, g116_98, g116_109, g116_130, bm_run_ite, Option.toList_some, Option.bind_some, Option.toList_some, Option.toList_none, List.cons_append, List.nil_append, List.append_nil, eq_self, not_true_eq_false, not_false_eq_true, ite_true, ite_false, ↓reduceIte, Nat.reduceLT, Nat.reduceEqDiff, Nat.reduceAdd, or_true, true_or, or_false, false_or, c78 hr, hi, bI_ite, Bool.false_eq_true], Kp.rfl σ⟩ ?_
      intro τ hτ eB _
      exact ⟨_, by simp only [e219, g219_0, g219_11, g219_14, g219_20, g219_23, g219_28, g219_31, g219_40, g219_43, g219_53, g219_56, g219_59, g219_71, g219_74, g219_79, g219_82, g219_87, g219_90, g219_93, g219_185, bm_run_ite, Option.toList_some, Option.bind_some, Option.toList_some, Option.toList_none, List.cons_append, List.nil_append, List.append_nil, eq_self, not_true_eq_false, not_false_eq_true, ite_true, ite_false, ↓reduceIte, Nat.reduceLT, Nat.reduceEqDiff, Nat.reduceAdd, or_true, true_or, or_false, false_or, m193i hτ.t0.mr, hi, bI_ite, Bool.false_eq_true], kp_t0 τ⟩
    · cases hj : hasI j M
      · right
        refine PR.of (v := .int (Int32.ofInt (-2))) h ⟨σ, by simp only [e116, g116_0, g116_8, g116_11, g116_19, g116_22, g116_27, g116_30, g116_39, g116_42, g116_52, g116_55, g116_58, g116_70, g116_73, g116_81, g116_84, g116_92, g116_95, g116_98, g116_109, g116_130, bm_run_ite, Option.toList_some, Option.bind_some, Option.toList_some, Option.toList_none, List.cons_append, List.nil_append, List.append_nil, eq_self, not_true_eq_false, not_false_eq_true, ite_true, ite_false, ↓reduceIte, Nat.reduceLT, Nat.reduceEqDiff, Nat.reduceAdd, or_true, true_or, or_false, false_or, c78 hr, hi, hj, bI_ite, Bool.false_eq_true], Kp.rfl σ⟩ ?_
        intro τ hτ eB _
        exact ⟨_, by simp only [e219, g219_0, g219_11, g219_14, g219_20, g219_23, g219_28, g219_31, g219_40, g219_43, g219_53, g219_56, g219_59, g219_71, g219_74, g219_79, g219_82, g219_87, g219_90, g219_93, g219_185, bm_run_ite, Option.toList_some, Option.bind_some, Option.toList_some, Option.toList_none, List.cons_append, List.nil_append, List.append_nil, eq_self, not_true_eq_false, not_false_eq_true, ite_true, ite_false, ↓reduceIte, Nat.reduceLT, Nat.reduceEqDiff, Nat.reduceAdd, or_true, true_or, or_false, false_or, m193i hτ.t0.mr, hi, hj, bI_ite, Bool.false_eq_true], kp_t0 τ⟩
      · by_cases hij : i = j
        · right
          refine PR.of (v := .int (Int32.ofInt (-2))) h ⟨σ, by simp only [e116, g116_0, g116_8, g116_11, g116_19, g116_22, g116_27, g116_30, g116_39, g116_42, g116_52, g116_55, g116_58, g116_70, g116_73, g116_81, g116_84, g116_92, g116_95, g116_98, g116_109, g116_130, bm_run_ite, Option.toList_some, Option.bind_some, Option.toList_some, Option.toList_none, List.cons_append, List.nil_append, List.append_nil, eq_self, not_true_eq_false, not_false_eq_true, ite_true, ite_false, ↓reduceIte, Nat.reduceLT, Nat.reduceEqDiff, Nat.reduceAdd, or_true, true_or, or_false, false_or, c78 hr, hi, hj, hij, bI_ite], Kp.rfl σ⟩ ?_
          intro τ hτ eB _
          exact ⟨_, by simp only [e219, g219_0, g219_11, g219_14, g219_20, g219_23, g219_28, g219_31, g219_40, g219_43, g219_53, g219_56, g219_59, g219_71, g219_74, g219_79, g219_82, g219_87, g219_90, g219_93, g219_185, bm_run_ite, Option.toList_some, Option.bind_some, Option.toList_some, Option.toList_none, List.cons_append, List.nil_append, List.append_nil, eq_self, not_true_eq_false, not_false_eq_true, ite_true, ite_false, ↓reduceIte, Nat.reduceLT, Nat.reduceEqDiff, Nat.reduceAdd, or_true, true_or, or_false, false_or, m193i hτ.t0.mr, hi, hj, hij, bI_ite], kp_t0 τ⟩
        · exact Or.inl ⟨rfl, rfl, hij⟩
  rcases bad2 with ⟨hi, hj, hij⟩ | bad
  case inr => exact bad
  rcases bW_01 x.toInt64 1 999 with q | q
  · refine PR.of (v := .int (Int32.ofInt (-3))) h ⟨σ, by simp (decide := true) only [e116, g116_0, g116_8, g116_11, g116_19, g116_22, g116_27, g116_30, g116_39, g116_42, g116_52, g116_55, g116_58, g116_70, g116_73, g116_81, g116_84, g116_92, g116_95, g116_98, g116_109, g116_130, bm_run_ite, Option.toList_some, Option.bind_some, Option.toList_some, Option.toList_none, List.cons_append, List.nil_append, List.append_nil, eq_self, not_true_eq_false, not_false_eq_true, ite_true, ite_false, ↓reduceIte, Nat.reduceLT, Nat.reduceEqDiff, Nat.reduceAdd, or_true, true_or, or_false, false_or, c78 hr, hi, hj, hij, bI_ite, c157, q], Kp.rfl σ⟩ ?_
    intro τ hτ eB _
    exact ⟨_, by simp (decide := true) only [e219, g219_0, g219_11, g219_14, g219_20, g219_23, g219_28, g219_31, g219_40, g219_43, g219_53, g219_56, g219_59, g219_71, g219_74, g219_79, g219_82, g219_87, g219_90, g219_93, g219_185, bm_run_ite, Option.toList_some, Option.bind_some, Option.toList_some, Option.toList_none, List.cons_append, List.nil_append, List.append_nil, eq_self, not_true_eq_false, not_false_eq_true, ite_true, ite_false, ↓reduceIte, Nat.reduceLT, Nat.reduceEqDiff, Nat.reduceAdd, or_true, true_or, or_false, false_or, m193i hτ.t0.mr, hi, hj, hij, bI_ite, c163, q], kp_t0 τ⟩
  rcases bW_01 y.toInt64 0 20 with q1 | q1
  · refine PR.of (v := .int (Int32.ofInt (-3))) h ⟨σ, by simp (decide := true) only [e116, g116_0, g116_8, g116_11, g116_19, g116_22, g116_27, g116_30, g116_39, g116_42, g116_52, g116_55, g116_58, g116_70, g116_73, g116_81, g116_84, g116_92, g116_95, g116_98, g116_109, g116_130, bm_run_ite, Option.toList_some, Option.bind_some, Option.toList_some, Option.toList_none, List.cons_append, List.nil_append, List.append_nil, eq_self, not_true_eq_false, not_false_eq_true, ite_true, ite_false, ↓reduceIte, Nat.reduceLT, Nat.reduceEqDiff, Nat.reduceAdd, or_true, true_or, or_false, false_or, c78 hr, hi, hj, hij, bI_ite, c157, q, q1], Kp.rfl σ⟩ ?_
    intro τ hτ eB _
    exact ⟨_, by simp (decide := true) only [e219, g219_0, g219_11, g219_14, g219_20, g219_23, g219_28, g219_31, g219_40, g219_43, g219_53, g219_56, g219_59, g219_71, g219_74, g219_79, g219_82, g219_87, g219_90, g219_93, g219_185, bm_run_ite, Option.toList_some, Option.bind_some, Option.toList_some, Option.toList_none, List.cons_append, List.nil_append, List.append_nil, eq_self, not_true_eq_false, not_false_eq_true, ite_true, ite_false, ↓reduceIte, Nat.reduceLT, Nat.reduceEqDiff, Nat.reduceAdd, or_true, true_or, or_false, false_or, m193i hτ.t0.mr, hi, hj, hij, bI_ite, c163, q, q1], kp_t0 τ⟩
  by_cases hL2 : L < 12
  case neg =>
    have e12 : L = 12 := by omega
    subst e12
    refine PR.of (v := .int (Int32.ofInt (-4))) h ⟨σ, by simp (decide := true) only [e116, g116_0, g116_8, g116_11, g116_19, g116_22, g116_27, g116_30, g116_39, g116_42, g116_52, g116_55, g116_58, g116_70, g116_73, g116_81, g116_84, g116_92, g116_95, g116_98, g116_109, g116_130, bm_run_ite, Option.toList_some, Option.bind_some, Option.toList_some, Option.toList_none, List.cons_append, List.nil_append, List.append_nil, eq_self, not_true_eq_false, not_false_eq_true, ite_true, ite_false, ↓reduceIte, Nat.reduceLT, Nat.reduceEqDiff, Nat.reduceAdd, or_true, true_or, or_false, false_or, c78 hr, hi, hj, hij, bI_ite, c157, q, q1, hr.f1], Kp.rfl σ⟩ ?_
    intro τ hτ eB _
    rw [hB] at eB
    exact ⟨_, by simp (decide := true) only [e219, g219_0, g219_11, g219_14, g219_20, g219_23, g219_28, g219_31, g219_40, g219_43, g219_53, g219_56, g219_59, g219_71, g219_74, g219_79, g219_82, g219_87, g219_90, g219_93, g219_185, bm_run_ite, Option.toList_some, Option.bind_some, Option.toList_some, Option.toList_none, List.cons_append, List.nil_append, List.append_nil, eq_self, not_true_eq_false, not_false_eq_true, ite_true, ite_false, ↓reduceIte, Nat.reduceLT, Nat.reduceEqDiff, Nat.reduceAdd, or_true, true_or, or_false, false_or, m193i hτ.t0.mr, hi, hj, hij, bI_ite, c163, q, q1, (t0_B τ).trans eB, hm25], kp_t0 τ⟩
  have l12 : nI L < 12 := nI_lt (b := 12) hL2 (by decide)
  have n12 : ¬ nI L = 12 := fun z => by rw [z] at l12; exact absurd l12 (by decide)
  obtain ⟨a, ha, rfl⟩ := hasI_of hi (by omega)
  obtain ⟨b, hb, rfl⟩ := hasI_of hj (by omega)
  obtain ⟨c, c1, c2, rfl⟩ := bW_of (a := 1) (b := 999) (by decide +kernel) (by decide +kernel) (by decide) q
  cases na : tb (B 24) a
  case true =>
    refine PR.of (v := .int (Int32.ofInt (-5))) h ⟨σ, by simp (decide := true) only [e116, g116_0, g116_8, g116_11, g116_19, g116_22, g116_27, g116_30, g116_39, g116_42, g116_52, g116_55, g116_58, g116_70, g116_73, g116_81, g116_84, g116_92, g116_95, g116_98, g116_109, g116_130, bm_run_ite, Option.toList_some, Option.bind_some, Option.toList_some, Option.toList_none, List.cons_append, List.nil_append, List.append_nil, eq_self, not_true_eq_false, not_false_eq_true, ite_true, ite_false, ↓reduceIte, Nat.reduceLT, Nat.reduceEqDiff, Nat.reduceAdd, or_true, true_or, or_false, false_or, c78 hr, hi, hj, hij, bI_ite, bI_itn, c157, q, q1, hr.f1, l12, c80 hr (show a < 32 by omega), na], Kp.rfl σ⟩ ?_
    intro τ hτ eB _
    rw [hB] at eB
    exact ⟨_, by simp (decide := true) only [e219, g219_0, g219_11, g219_14, g219_20, g219_23, g219_28, g219_31, g219_40, g219_43, g219_53, g219_56, g219_59, g219_71, g219_74, g219_79, g219_82, g219_87, g219_90, g219_93, g219_185, bm_run_ite, Option.toList_some, Option.bind_some, Option.toList_some, Option.toList_none, List.cons_append, List.nil_append, List.append_nil, eq_self, not_true_eq_false, not_false_eq_true, ite_true, ite_false, ↓reduceIte, Nat.reduceLT, Nat.reduceEqDiff, Nat.reduceAdd, or_true, true_or, or_false, false_or, m193i hτ.t0.mr, hi, hj, hij, bI_ite, bI_itn, c163, q, q1, (t0_B τ).trans eB, hm25, n12, m196 (show a < 32 by omega), na], kp_t0 τ⟩
  cases nb : tb (B 24) b
  case true =>
    refine PR.of (v := .int (Int32.ofInt (-5))) h ⟨σ, by simp (decide := true) only [e116, g116_0, g116_8, g116_11, g116_19, g116_22, g116_27, g116_30, g116_39, g116_42, g116_52, g116_55, g116_58, g116_70, g116_73, g116_81, g116_84, g116_92, g116_95, g116_98, g116_109, g116_130, bm_run_ite, Option.toList_some, Option.bind_some, Option.toList_some, Option.toList_none, List.cons_append, List.nil_append, List.append_nil, eq_self, not_true_eq_false, not_false_eq_true, ite_true, ite_false, ↓reduceIte, Nat.reduceLT, Nat.reduceEqDiff, Nat.reduceAdd, or_true, true_or, or_false, false_or, c78 hr, hi, hj, hij, bI_ite, bI_itn, c157, q, q1, hr.f1, l12, c80 hr (show a < 32 by omega), na, c80 hr (show b < 32 by omega), nb], Kp.rfl σ⟩ ?_
    intro τ hτ eB _
    rw [hB] at eB
    exact ⟨_, by simp (decide := true) only [e219, g219_0, g219_11, g219_14, g219_20, g219_23, g219_28, g219_31, g219_40, g219_43, g219_53, g219_56, g219_59, g219_71, g219_74, g219_79, g219_82, g219_87, g219_90, g219_93, g219_185, bm_run_ite, Option.toList_some, Option.bind_some, Option.toList_some, Option.toList_none, List.cons_append, List.nil_append, List.append_nil, eq_self, not_true_eq_false, not_false_eq_true, ite_true, ite_false, ↓reduceIte, Nat.reduceLT, Nat.reduceEqDiff, Nat.reduceAdd, or_true, true_or, or_false, false_or, m193i hτ.t0.mr, hi, hj, hij, bI_ite, bI_itn, c163, q, q1, (t0_B τ).trans eB, hm25, n12, m196 (show a < 32 by omega), na, m196 (show b < 32 by omega), nb], kp_t0 τ⟩
  obtain ⟨σ1, n, e, n1, e1, k1, af⟩ := rem_RS (S := S) (d := d + 6) h
  have e5 : ∀ a, a < 42 ∨ 141 < a → σ1.1 a = σ.1 a := fun a ha => af.at ha
  have hr1 : RW M L σ1 5 B := hr.of (fun a _ _ => e5 a (by omega))
  have hC : OKB M (L + 1) (adC B L (nI a) (nI b) (nI c) (B 22 + y)) := hok.ad hL2 ha hb (fun z => hij (by rw [z])) c2 _ na nb
  obtain ⟨σ2, k2, r2, f2⟩ := c91 (S := S) (d := d + 8) hr1 hL2 (nI a) (nI b) (nI c) (B 22 + y) 0
  have r2c : RW M (L + 1) σ2 5 (adC B L (nI a) (nI b) (nI c) (B 22 + y)) := by
    refine r2.eqB (fun k hk => ?_)
    unfold adC adB
    simp only [upd]
    have z := hok.2.1 L (Nat.le_refl L) hL2
    by_cases q2 : k = 10 + L
    · rw [q2]
      rw [if_neg (by omega), if_neg (by omega), if_neg (by omega), if_neg (by omega), if_neg (by omega), if_neg (by omega), if_pos rfl]
      exact z
    · have q3 : k ≠ 25 := by omega
      simp only [q2, q3, if_false]
  have b0 : (bm_wi σ2 218 0 0).1 219 = B := by rw [wi_n _ (by decide), f2.1 219 (by omega), e5 _ (by omega)]; exact hB
  obtain ⟨g1, k5, kg⟩ := m215 (S := S) (d := d + 9) (σ := bm_wi σ2 218 0 0)
  rw [b0, ← hB] at kg
  have b1 : (bm_row (bm_wi σ2 218 0 0) 228 g1).1 219 = B := (bm_row_1n _ _ (by decide)).trans b0
  obtain ⟨k7, rs⟩ := mut_fin (S := S) (d := d + 9) (ρ2 := bm_row (bm_row (bm_wi σ2 218 0 0) 228 g1) 219 (adC B L (nI a) (nI b) (nI c) (B 22 + y))) h af f2.b kg ((Fp.rfl _).r17 _).q (row_row1 _ _ _) (fun k hk => by rw [adC_out (by omega), hB]) hC r2c
  refine ⟨.int (nI L), σ2, _, M, L + 1, ?_, ?_, rs⟩
  · simp (decide := true) only [e116, g116_0, g116_8, g116_11, g116_19, g116_22, g116_27, g116_30, g116_39, g116_42, g116_52, g116_55, g116_58, g116_70, g116_73, g116_81, g116_84, g116_92, g116_95, g116_98, g116_109, g116_130, bm_run_ite, Option.toList_some, Option.bind_some, Option.toList_some, Option.toList_none, List.cons_append, List.nil_append, List.append_nil, eq_self, not_true_eq_false, not_false_eq_true, ite_true, ite_false, ↓reduceIte, Nat.reduceLT, Nat.reduceEqDiff, Nat.reduceAdd, or_true, true_or, or_false, false_or, c78 hr, hi, hj, hij, bI_ite, bI_itn, c157, q, q1, hr.f1, l12, c80 hr (show a < 32 by omega), na, c80 hr (show b < 32 by omega), nb, k1, hr1.f3, k2, r2.f1, nI_pred]
  · have p1 : ∀ τ : bm_S, τ.1 219 = B → bm_run S (d + 10) 219 97 [some (.ref 218), some (.int (nI a)), some (.int (nI b)), some (.int (nI c)), some (.int y), none] [] τ = (bm_call S (d + 9) 217 [.ref 218] (bm_row τ 219 (adC B L (nI a) (nI b) (nI c) (B 22 + y)))).bind (fun q => bm_run S (d + 10) 219 185 [some (.ref 218), some (.int (nI a)), some (.int (nI b)), some (.int (nI c)), some (.int y), some (.int (nI L))] (q.1.toList ++ []) q.2) := by
      intro τ ht
      rw [g219_97]
      simp (disch := omega) only [bm_run_ite, Option.toList_some, Option.bind_some, Option.toList_some, Option.toList_none, List.cons_append, List.nil_append, List.append_nil, eq_self, not_true_eq_false, not_false_eq_true, ite_true, ite_false, ↓reduceIte, Nat.reduceLT, Nat.reduceEqDiff, Nat.reduceAdd, or_true, true_or, or_false, false_or, nI_clamp2, nI_lt0F, nI_leT, nI_leF, nI_ltT, nI_ltF, n_leF, n_leT, nI_1, kA6, kA8, kA10, kA22, kA26, kA32, kA44, kA56, kA68, kA80, kA93, kA163, kA794, not_or, or_self, and_self, and_true, true_and, ht, hm25, bm_wi_def, row_row1, bm_row_row, upd_n]
      rfl
    simp (decide := true) only [e219, g219_0, g219_11, g219_14, g219_20, g219_23, g219_28, g219_31, g219_40, g219_43, g219_53, g219_56, g219_59, g219_71, g219_74, g219_79, g219_82, g219_87, g219_90, g219_93, g219_185, bm_run_ite, Option.toList_some, Option.bind_some, Option.toList_some, Option.toList_none, List.cons_append, List.nil_append, List.append_nil, eq_self, not_true_eq_false, not_false_eq_true, ite_true, ite_false, ↓reduceIte, Nat.reduceLT, Nat.reduceEqDiff, Nat.reduceAdd, or_true, true_or, or_false, false_or, m193i (mr _ b0), hi, hj, hij, bI_ite, bI_itn, c163, q, q1, b0, hm25, n12, m196 (show a < 32 by omega), na, m196 (show b < 32 by omega), nb, k5, p1 _ b1, k7]
end WRITE
