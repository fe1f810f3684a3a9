def frF (M L : Nat) (B : Nat → Int32) (m : Nat) : Nat → Nat → Int32
  | 0, _ => Int32.ofInt (-1)
  | r + 1, k => if tb (goB M L B k 24) m = true then nI k else frF M L B m r (k + 1)
section BREAKSIN
variable {S : am_S} {d : Nat} {σ : bm_S} {M L : Nat}
theorem c130l (hM : M ≤ 6) (hL : L ≤ 12) {B : Nat → Int32} (hg : GA M L B) {m : Nat} (hm : m < M) {o : Option Value} : ∀ (r k : Nat) (s : bm_S), k + r = 31 → RW M L s 149 (goB M L B k) → BK s 2 B → ∃ s1, bm_run S (d + 10) 130 27 [some (.ref 0), some (.int (nI m)), some (.int (nI k))] [] s = some (some (.int (frF M L B m r k)), s1) ∧ Fb 149 2 s s1 := by
  intro r
  induction r with
  | zero =>
    intro k s hk hr hb
    have e : (30 : Int32) < nI k := nI_lt (a := 30) (by omega) (by omega)
    refine ⟨s, ?_, Fb.rfl _ _ _⟩
    rw [g130_27]
    simp (disch := omega) only [bm_run_ite, Option.toList_some, Option.bind_some, Option.toList_some, Option.toList_none, List.cons_append, List.nil_append, List.append_nil, eq_self, not_true_eq_false, not_false_eq_true, ite_true, ite_false, ↓reduceIte, Nat.reduceLT, Nat.reduceEqDiff, Nat.reduceAdd, or_true, true_or, or_false, false_or, nI_clamp2, nI_lt0F, nI_leT, nI_leF, nI_ltT, nI_ltF, n_leF, n_leT, nI_1, kA6, kA8, kA10, kA22, kA26, kA32, kA44, kA56, kA68, kA80, kA93, kA163, kA794, not_or, or_self, and_self, and_true, true_and, g130_67, e, frF]
  | succ r ih =>
    intro k s hk hr hb
    have e : ¬ (30 : Int32) < nI k := nI_nlt (a := 30) (by omega) (by decide)
    rw [frF]
    cases q : tb (goB M L B k 24) m
    · have hb2 : BK s 2 (goB M L B k) := hb.cgK (fun i hi => goB_out hM hL (by omega) k)
      obtain ⟨s1, e1, h1, f1⟩ := c35 (S := S) (d := d + 4) hr hb2 (by unfold ob; omega) (goB_GA hM hL hg k) 1 (by decide)
      have hb3 : BK s1 2 B := f1.BK (by unfold ob; omega) hb
      obtain ⟨s2, e2, f2⟩ := ih (k + 1) s1 (by omega) h1 hb3
      refine ⟨s2, ?_, f1.tr f2⟩
      have z : nI 1 = (1 : Int32) := rfl
      rw [z] at e1
      rw [g130_27]
      simp (disch := omega) only [bm_run_ite, Option.toList_some, Option.bind_some, Option.toList_some, Option.toList_none, List.cons_append, List.nil_append, List.append_nil, eq_self, not_true_eq_false, not_false_eq_true, ite_true, ite_false, ↓reduceIte, Nat.reduceLT, Nat.reduceEqDiff, Nat.reduceAdd, or_true, true_or, or_false, false_or, nI_clamp2, nI_lt0F, nI_leT, nI_leF, nI_ltT, nI_ltF, n_leF, n_leT, nI_1, kA6, kA8, kA10, kA22, kA26, kA32, kA44, kA56, kA68, kA80, kA93, kA163, kA794, not_or, or_self, and_self, and_true, true_and, g130_0, g130_8, g130_11, g130_14, g130_25, g130_33, g130_44, g130_47, g130_49, g130_61, g130_67, e, c80 hr (show m < 32 by omega), q, bI_ite, Bool.false_eq_true, e1, e2]
    · refine ⟨s, ?_, Fb.rfl _ _ _⟩
      rw [g130_27]
      simp (disch := omega) only [bm_run_ite, Option.toList_some, Option.bind_some, Option.toList_some, Option.toList_none, List.cons_append, List.nil_append, List.append_nil, eq_self, not_true_eq_false, not_false_eq_true, ite_true, ite_false, ↓reduceIte, Nat.reduceLT, Nat.reduceEqDiff, Nat.reduceAdd, or_true, true_or, or_false, false_or, nI_clamp2, nI_lt0F, nI_leT, nI_leF, nI_ltT, nI_ltF, n_leF, n_leT, nI_1, kA6, kA8, kA10, kA22, kA26, kA32, kA44, kA56, kA68, kA80, kA93, kA163, kA794, not_or, or_self, and_self, and_true, true_and, g130_0, g130_8, g130_11, g130_14, g130_25, g130_33, g130_44, g130_47, g130_49, g130_61, g130_67, e, c80 hr (show m < 32 by omega), q, bI_ite]
theorem m250l (hM : M ≤ 6) (hL : L ≤ 12) {B : Nat → Int32} (h3 : B 3 = nI M) (h25 : B 25 = nI L) (hg : GA M L B) {m : Nat} (hm : m < M) : ∀ (r k : Nat) (s : bm_S), k + r = 31 → s.1 219 = goB M L B k → ∃ s1 n o, bm_run S (d + 10) 250 25 [some (.ref 218), some (.int (nI m)), some (.int (Int32.ofInt (-1))), some (.int (nI k))] [] s = bm_run S (d + 10) 250 58 [some (.ref 218), some (.int (nI m)), some (.int (frF M L B m r k)), o] [] s1 ∧ s1.1 219 = goB M L B n ∧ Fq s s1 := by
  intro r
  induction r with
  | zero =>
    intro k s hk b
    have e : (30 : Int32) < nI k := nI_lt (a := 30) (by omega) (by omega)
    refine ⟨s, k, some (.int (nI k)), ?_, b, Fq.rfl _⟩
    rw [g250_25]
    simp (disch := omega) only [bm_run_ite, Option.toList_some, Option.bind_some, Option.toList_some, Option.toList_none, List.cons_append, List.nil_append, List.append_nil, eq_self, not_true_eq_false, not_false_eq_true, ite_true, ite_false, ↓reduceIte, Nat.reduceLT, Nat.reduceEqDiff, Nat.reduceAdd, or_true, true_or, or_false, false_or, nI_clamp2, nI_lt0F, nI_leT, nI_leF, nI_ltT, nI_ltF, n_leF, n_leT, nI_1, kA6, kA8, kA10, kA22, kA26, kA32, kA44, kA56, kA68, kA80, kA93, kA163, kA794, not_or, or_self, and_self, and_true, true_and, e, frF]
  | succ r ih =>
    intro k s hk b
    have e : ¬ (30 : Int32) < nI k := nI_nlt (a := 30) (by omega) (by decide)
    have mr : MR M L s := ⟨⟨hM, hL⟩, by rw [b, goB_out hM hL (by omega)]; exact h3, by rw [b, goB_out hM hL (by omega)]; exact h25⟩
    obtain ⟨s1, e1, b1, f1⟩ := m212 (S := S) (d := d + 4) mr (by rw [b]; exact (goB_GA hM hL hg k).1) 0
    rw [b, D0_0] at b1
    have mb := m196 (S := S) (d := d + 8) (σ := s) (m := m) (by omega)
    rw [b] at mb
    rw [frF]
    cases q : tb (goB M L B k 24) m
    · obtain ⟨s2, n, o, e2, b2, f2⟩ := ih (k + 1) s1 (by omega) b1
      refine ⟨s2, n, o, ?_, b2, f1.tr f2⟩
      rw [g250_25]
      simp (disch := omega) only [bm_run_ite, Option.toList_some, Option.bind_some, Option.toList_some, Option.toList_none, List.cons_append, List.nil_append, List.append_nil, eq_self, not_true_eq_false, not_false_eq_true, ite_true, ite_false, ↓reduceIte, Nat.reduceLT, Nat.reduceEqDiff, Nat.reduceAdd, or_true, true_or, or_false, false_or, nI_clamp2, nI_lt0F, nI_leT, nI_leF, nI_ltT, nI_ltF, n_leF, n_leT, nI_1, kA6, kA8, kA10, kA22, kA26, kA32, kA44, kA56, kA68, kA80, kA93, kA163, kA794, not_or, or_self, and_self, and_true, true_and, g250_31, g250_36, g250_41, g250_46, g250_51, e, mb, q, bI_ite, Bool.false_eq_true, e1, e2]
    · refine ⟨s1, k + 1, some (.int (nI (k + 1))), ?_, b1, f1⟩
      have nk : ¬ nI k = Int32.ofInt (-1) := by
        intro z; have := nI_pos (show k < 2 ^ 31 by omega); rw [z] at this; exact this (by decide)
      rw [g250_25]
      simp (disch := omega) only [bm_run_ite, Option.toList_some, Option.bind_some, Option.toList_some, Option.toList_none, List.cons_append, List.nil_append, List.append_nil, eq_self, not_true_eq_false, not_false_eq_true, ite_true, ite_false, ↓reduceIte, Nat.reduceLT, Nat.reduceEqDiff, Nat.reduceAdd, or_true, true_or, or_false, false_or, nI_clamp2, nI_lt0F, nI_leT, nI_leF, nI_ltT, nI_ltF, n_leF, n_leT, nI_1, kA6, kA8, kA10, kA22, kA26, kA32, kA44, kA56, kA68, kA80, kA93, kA163, kA794, not_or, or_self, and_self, and_true, true_and, g250_31, g250_36, g250_41, g250_44, g250_46, g250_51, e, mb, q, bI_ite, e1]
      rw [g250_25]
      simp (disch := omega) only [bm_run_ite, Option.toList_some, Option.bind_some, Option.toList_some, Option.toList_none, List.cons_append, List.nil_append, List.append_nil, eq_self, not_true_eq_false, not_false_eq_true, ite_true, ite_false, ↓reduceIte, Nat.reduceLT, Nat.reduceEqDiff, Nat.reduceAdd, or_true, true_or, or_false, false_or, nI_clamp2, nI_lt0F, nI_leT, nI_leF, nI_ltT, nI_ltF, n_leF, n_leT, nI_1, kA6, kA8, kA10, kA22, kA26, kA32, kA44, kA56, kA68, kA80, kA93, kA163, kA794, not_or, or_self, and_self, and_true, true_and, g250_31, nk, ite_self]
theorem p_breaksIn (h : RS M L σ) (i : Int32) : PR S (d + 10) 130 250 [.int i] σ := by
  have hM := h.rw.M6
  have hL := h.rw.L12
  have hr := h.rw
  have hb := h.bk
  have hg := h.ga
  have hm3 := h.mr.m
  have hm25 := h.mr.l
  generalize hB : σ.1 219 = B at *
  cases hi : hasI i M
  · refine PR.of (v := .int (Int32.ofInt (-2))) h ⟨σ, by simp only [e130, g130_0, g130_8, g130_11, bm_run_ite, Option.toList_some, Option.bind_some, Option.toList_some, Option.toList_none, List.cons_append, List.nil_append, List.append_nil, eq_self, not_true_eq_false, not_false_eq_true, ite_true, ite_false, ↓reduceIte, Nat.reduceLT, Nat.reduceEqDiff, Nat.reduceAdd, or_true, true_or, or_false, false_or, c78 hr, hi, bI_itn, Bool.false_eq_true], Kp.rfl σ⟩ ?_
    intro τ hτ eB _
    exact ⟨_, by simp (decide := true) only [e250, g250_0, g250_11, g250_14, bm_run_ite, Option.toList_some, Option.bind_some, Option.toList_some, Option.toList_none, List.cons_append, List.nil_append, List.append_nil, eq_self, not_true_eq_false, not_false_eq_true, ite_true, ite_false, ↓reduceIte, Nat.reduceLT, Nat.reduceEqDiff, Nat.reduceAdd, or_true, true_or, or_false, false_or, m193i hτ.t0.mr, hi, bI_itn, Bool.false_eq_true], kp_t0 τ⟩
  · obtain ⟨m, hm, rfl⟩ := hasI_of hi (by omega)
    refine PR.of (v := .int (frF M L B m 31 0)) h ?_ ?_
    · obtain ⟨σ1, e1, f1, w1⟩ := c77 (S := S) (d := d + 6) (σ := σ) hr.iw w149 (by omega)
      obtain ⟨σ2, e2, f2⟩ := c130l (S := S) (d := d) hM hL hg hm (o := none) 31 0 σ1 rfl (w1 hr) ((f1.b (b := 2)).BK (by unfold ob; omega) hb)
      refine ⟨σ2, ?_, ((f1.b (b := 2)).tr f2).kp (by omega)⟩
      simp only [e130, g130_0, g130_8, g130_14, g130_25, e34, g34_0, g34_8, bm_run_ite, Option.toList_some, Option.bind_some, Option.toList_some, Option.toList_none, List.cons_append, List.nil_append, List.append_nil, eq_self, not_true_eq_false, not_false_eq_true, ite_true, ite_false, ↓reduceIte, Nat.reduceLT, Nat.reduceEqDiff, Nat.reduceAdd, or_true, true_or, or_false, false_or, c78 hr, hi, bI_itn, e1]
      exact e2
    · intro τ hτ eB _
      rw [hB] at eB
      have h0 := hτ.t0
      have e0 := (t0_B τ).trans eB
      obtain ⟨g1, e1, k1⟩ := m215 (S := S) (d := d + 9) (σ := bm_wi τ 218 0 0)
      rw [e0] at k1
      have r7 : (bm_row (bm_wi τ 218 0 0) 228 g1).1 219 = B := (bm_row_1n _ _ (by decide)).trans e0
      obtain ⟨σ2, n, o, e2, b2, f2⟩ := m250l (S := S) (d := d) hM hL hm3 hm25 hg hm 31 0 (bm_row (bm_wi τ 218 0 0) 228 g1) rfl r7
      have e26 : σ2.1 228 = g1 := by rw [f2.1 228 (by decide) (by decide) (by decide), row_row1]
      have ea := again (σ := bm_wi τ 218 0 0) (τ := σ2) (by rw [e0]; exact k1) e26 (fun i hi => by rw [b2, e0]; exact goB_out hM hL (by omega) n)
      have fu := f2.again
      refine ⟨bm_row σ2 219 ((bm_wi τ 218 0 0).1 219), ?_, (kp_t0 τ).tr fu.kp⟩
      simp only [e250, g250_0, g250_11, g250_17, g250_21, bm_run_ite, Option.toList_some, Option.bind_some, Option.toList_some, Option.toList_none, List.cons_append, List.nil_append, List.append_nil, eq_self, not_true_eq_false, not_false_eq_true, ite_true, ite_false, ↓reduceIte, Nat.reduceLT, Nat.reduceEqDiff, Nat.reduceAdd, or_true, true_or, or_false, false_or, m193i h0.mr, hi, bI_itn, e1]
      refine (show bm_run S (d + 10) 250 25 [some (.ref 218), some (.int (nI m)), some (.int (Int32.ofInt (-1))), some (.int (nI 0))] [] _ = _ from e2).trans ?_
      simp only [g250_58, g250_62, bm_run_ite, Option.toList_some, Option.bind_some, Option.toList_some, Option.toList_none, List.cons_append, List.nil_append, List.append_nil, eq_self, not_true_eq_false, not_false_eq_true, ite_true, ite_false, ↓reduceIte, Nat.reduceLT, Nat.reduceEqDiff, Nat.reduceAdd, or_true, true_or, or_false, false_or, m216, ea]
end BREAKSIN
