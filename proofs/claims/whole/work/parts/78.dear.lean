section DEAR
variable {S : am_S} {d : Nat} {σ τ : bm_S} {M L : Nat} {B : Nat → Int32}
theorem mwt (hB : τ.1 219 = B) (hl : LW B) (i f : Int32) : ∃ τ1, bm_call S (d + 2) 200 [.ref 218, .int i, .int f] τ = some (some (.int (woB B i f)), τ1) ∧ τ1.1 219 = B ∧ Kp τ τ1 ∧ (∀ a, a ≠ 223 → a ≠ 224 → τ1.1 a = τ.1 a) ∧ τ1.2 = τ.2 := by
  obtain ⟨g1, g2, e⟩ := m200 (S := S) (d := d) (σ := τ) (by rw [hB]; exact hl) i f
  rw [hB] at e
  refine ⟨_, e, ?_, ((Kp.rfl τ).row (by unfold Sc; omega) g2).row (by unfold Sc; omega) g1, fun a h1 h2 => ?_, rfl⟩
  · rw [bm_row_1n _ _ (by decide), bm_row_1n _ _ (by decide)]; exact hB
  · rw [bm_row_1n _ _ h1, bm_row_1n _ _ h2]
theorem cwt (hb : BK τ 2 B) (hl : LW B) (i f : Int32) : ∃ τ1, bm_call S (d + 3) 6 [.ref 2, .int i, .int f] τ = some (some (.int (woB B i f)), τ1) ∧ BK τ1 2 B ∧ Kp τ τ1 ∧ (∀ a, a ≠ 4 → τ1.1 a = τ.1 a) ∧ τ1.2 = τ.2 := by
  obtain ⟨g1, e⟩ := c6 (S := S) (d := d) (σ := τ) hb hl i f
  exact ⟨_, e, hb.row g1, (Kp.rfl τ).row (by unfold Sc; omega) g1, fun a h1 => bm_row_1n _ _ h1, rfl⟩
def deF (B : Nat → Int32) (x : Int32) : Nat → Nat
  | 0 => 0
  | k + 1 => if woB B (nI (deF B x k)) (B 22 + x) * woB B (nI (k + 1)) (B 22) < woB B (nI (k + 1)) (B 22 + x) * woB B (nI (deF B x k)) (B 22) then k + 1 else deF B x k
theorem p_dearest (h : RS M L σ) (x : Int32) : PR S (d + 10) 144 274 [.int x] σ := by
  have hM := h.rw.M6
  have hL := h.rw.L12
  obtain ⟨N, n1, n2, n3, n4⟩ := h.N
  have hl := h.ga.1.1
  have hb := h.bk
  have hr := h.rw
  generalize hB : σ.1 219 = B at *
  rcases bW_01 x.toInt64 0 99 with q | q
  · refine PR.ofk (v := .int (Int32.ofInt (-3))) h ⟨σ, by simp (decide := true) only [e144, g144_0, g144_9, g144_12, bm_run_ite, Option.toList_some, Option.bind_some, Option.toList_some, Option.toList_none, List.cons_append, List.nil_append, List.append_nil, eq_self, not_true_eq_false, not_false_eq_true, ite_true, ite_false, ↓reduceIte, Nat.reduceLT, Nat.reduceEqDiff, Nat.reduceAdd, or_true, true_or, or_false, false_or, c157, q], Kp.rfl σ⟩ ?_
    intro τ k
    exact ⟨_, by simp (decide := true) only [e274, g274_0, g274_14, g274_17, bm_run_ite, Option.toList_some, Option.bind_some, Option.toList_some, Option.toList_none, List.cons_append, List.nil_append, List.append_nil, eq_self, not_true_eq_false, not_false_eq_true, ite_true, ite_false, ↓reduceIte, Nat.reduceLT, Nat.reduceEqDiff, Nat.reduceAdd, or_true, true_or, or_false, false_or, c163, q], kp_t0 τ⟩
  obtain ⟨N, rfl⟩ : ∃ m, N = m + 1 := ⟨N - 1, by omega⟩
  refine PR.ofk (v := .int (nI (deF B x N))) h ?_ ?_
  · obtain ⟨σ1, k1, b1, kp1, fr1, _⟩ := cwt (S := S) (d := d + 6) hb hl (nI 0) (B 22)
    obtain ⟨σ2, k2, b2, kp2, fr2, _⟩ := cwt (S := S) (d := d + 6) b1 hl (nI 0) (B 22 + x)
    obtain ⟨⟨⟨o6, o7⟩, σ3⟩, e3, b3, kp3, fr3⟩ := loop_ex (fun k (s : (Option Value × Option Value) × bm_S) => bm_run S (d + 10) 144 55 [some (.ref 0), some (.int x), some (.int (nI (deF B x k))), some (.int (woB B (nI (deF B x k)) (B 22))), some (.int (woB B (nI (deF B x k)) (B 22 + x))), some (.int (nI (k + 1))), s.1.1, s.1.2] [] s.2) (fun k s => BK s.2 2 B ∧ Kp σ s.2 ∧ ∀ a, a ≠ 4 → s.2.1 a = σ.1 a) N ((none, none), σ2) ⟨b2, kp1.tr kp2, fun a ha => (fr2 a ha).trans (fr1 a ha)⟩ (by
      intro k s hk hp
      obtain ⟨p1, p2, p3⟩ := hp
      obtain ⟨s1, c1, b1, kp1, fr1, _⟩ := cwt (S := S) (d := d + 6) p1 hl (nI (k + 1)) (B 22)
      obtain ⟨s2, c2, b2, kp2, fr2, _⟩ := cwt (S := S) (d := d + 6) b1 hl (nI (k + 1)) (B 22 + x)
      have f0 : s.2.1 5 3 = B 22 := by rw [p3 5 (by decide)]; exact hr.f3
      have f1 : s1.1 5 3 = B 22 := by rw [fr1 5 (by decide)]; exact f0
      have fN : s.2.1 2 1 = nI (N + 1) := by rw [p3 2 (by decide)]; exact n4
      refine ⟨((some (.int (woB B (nI (k + 1)) (B 22))), some (.int (woB B (nI (k + 1)) (B 22 + x)))), s2), ?_, b2, (p2.tr kp1).tr kp2, fun a ha => (fr2 a ha).trans ((fr1 a ha).trans (p3 a ha))⟩
      rw [g144_55, deF]
      by_cases q2 : woB B (nI (deF B x k)) (B 22 + x) * woB B (nI (k + 1)) (B 22) < woB B (nI (k + 1)) (B 22 + x) * woB B (nI (deF B x k)) (B 22)
      · have q3 : ¬ woB B (nI (k + 1)) (B 22 + x) * woB B (nI (deF B x k)) (B 22) ≤ woB B (nI (deF B x k)) (B 22 + x) * woB B (nI (k + 1)) (B 22) := Int32.not_le.mpr q2
        simp (disch := omega) only [bm_run_ite, Option.toList_some, Option.bind_some, Option.toList_some, Option.toList_none, List.cons_append, List.nil_append, List.append_nil, eq_self, not_true_eq_false, not_false_eq_true, ite_true, ite_false, ↓reduceIte, Nat.reduceLT, Nat.reduceEqDiff, Nat.reduceAdd, or_true, true_or, or_false, false_or, nI_clamp2, nI_lt0F, nI_leT, nI_leF, nI_ltT, nI_ltF, n_leF, n_leT, nI_1, kA6, kA8, kA10, kA22, kA26, kA32, kA44, kA56, kA68, kA80, kA93, kA163, kA794, not_or, or_self, and_self, and_true, true_and, g144_67, g144_83, g144_103, g144_117, g144_127, fN, f0, f1, c1, c2, q2, q3]
      · have q3 : woB B (nI (k + 1)) (B 22 + x) * woB B (nI (deF B x k)) (B 22) ≤ woB B (nI (deF B x k)) (B 22 + x) * woB B (nI (k + 1)) (B 22) := Int32.not_lt.mp q2
        simp (disch := omega) only [bm_run_ite, Option.toList_some, Option.bind_some, Option.toList_some, Option.toList_none, List.cons_append, List.nil_append, List.append_nil, eq_self, not_true_eq_false, not_false_eq_true, ite_true, ite_false, ↓reduceIte, Nat.reduceLT, Nat.reduceEqDiff, Nat.reduceAdd, or_true, true_or, or_false, false_or, nI_clamp2, nI_lt0F, nI_leT, nI_leF, nI_ltT, nI_ltF, n_leF, n_leT, nI_1, kA6, kA8, kA10, kA22, kA26, kA32, kA44, kA56, kA68, kA80, kA93, kA163, kA794, not_or, or_self, and_self, and_true, true_and, g144_67, g144_83, g144_103, g144_127, fN, f0, f1, c1, c2, q2, q3])
    replace kp3 : Kp σ σ3 := kp3
    replace fr3 : ∀ a, a ≠ 4 → σ3.1 a = σ.1 a := fr3
    refine ⟨σ3, ?_, kp3⟩
    replace k1 : bm_call S (d + 9) 6 [.ref 2, .int 0, .int (B 22)] σ = some (some (.int (woB B (nI 0) (B 22))), σ1) := k1
    replace k2 : bm_call S (d + 9) 6 [.ref 2, .int 0, .int (B 22 + x)] σ1 = some (some (.int (woB B (nI 0) (B 22 + x))), σ2) := k2
    have f1 : σ1.1 5 3 = B 22 := by rw [fr1 5 (by decide)]; exact hr.f3
    simp (decide := true) only [e144, g144_0, g144_9, g144_15, g144_32, g144_50, bm_run_ite, Option.toList_some, Option.bind_some, Option.toList_some, Option.toList_none, List.cons_append, List.nil_append, List.append_nil, eq_self, not_true_eq_false, not_false_eq_true, ite_true, ite_false, ↓reduceIte, Nat.reduceLT, Nat.reduceEqDiff, Nat.reduceAdd, or_true, true_or, or_false, false_or, c157, q, hr.f3, k1, f1, k2]
    refine (show bm_run S (d + 10) 144 55 [some (.ref 0), some (.int x), some (.int (nI 0)), some (.int (woB B (nI 0) (B 22))), some (.int (woB B (nI 0) (B 22 + x))), some (.int (nI (0 + 1))), none, none] [] σ2 = _ from e3).trans ?_
    have fN : σ3.1 2 1 = nI (N + 1) := by rw [fr3 2 (by decide)]; exact n4
    rw [g144_55]
    simp (disch := omega) only [bm_run_ite, Option.toList_some, Option.bind_some, Option.toList_some, Option.toList_none, List.cons_append, List.nil_append, List.append_nil, eq_self, not_true_eq_false, not_false_eq_true, ite_true, ite_false, ↓reduceIte, Nat.reduceLT, Nat.reduceEqDiff, Nat.reduceAdd, or_true, true_or, or_false, false_or, nI_clamp2, nI_lt0F, nI_leT, nI_leF, nI_ltT, nI_ltF, n_leF, n_leT, nI_1, kA6, kA8, kA10, kA22, kA26, kA32, kA44, kA56, kA68, kA80, kA93, kA163, kA794, not_or, or_self, and_self, and_true, true_and, g144_133, fN]
  · intro τ k
    have b0 : (bm_wi τ 218 0 0).1 219 = B := by rw [wi_n _ (by decide), k.at (by unfold Sc; omega) (by omega)]; exact hB
    obtain ⟨⟨o4, σ3⟩, e3, b3, kp3⟩ := loop_ex (fun k (s : Option Value × bm_S) => bm_run S (d + 10) 274 24 [some (.ref 218), some (.int x), some (.int (nI (deF B x k))), some (.int (nI (k + 1))), s.1] [] s.2) (fun k s => s.2.1 219 = B ∧ Kp τ s.2) N (none, bm_wi τ 218 0 0) ⟨b0, kp_t0 τ⟩ (by
      intro k s hk hp
      obtain ⟨p1, p2⟩ := hp
      obtain ⟨s1, c1, b1, kp1, _⟩ := mwt (S := S) (d := d + 7) p1 hl (nI (k + 1)) (B 22 + x)
      obtain ⟨s2, c2, b2, kp2, _⟩ := mwt (S := S) (d := d + 7) b1 hl (nI (deF B x k)) (B 22)
      obtain ⟨s3, c3, b3, kp3, _⟩ := mwt (S := S) (d := d + 7) b2 hl (nI (deF B x k)) (B 22 + x)
      obtain ⟨s4, c4, b4, kp4, _⟩ := mwt (S := S) (d := d + 7) b3 hl (nI (k + 1)) (B 22)
      refine ⟨(some (.int (woB B (nI (k + 1)) (B 22 + x) * woB B (nI (deF B x k)) (B 22))), s4), ?_, b4, (((p2.tr kp1).tr kp2).tr kp3).tr kp4⟩
      rw [g274_24, deF]
      by_cases q2 : woB B (nI (deF B x k)) (B 22 + x) * woB B (nI (k + 1)) (B 22) < woB B (nI (k + 1)) (B 22 + x) * woB B (nI (deF B x k)) (B 22)
      · have q3 : ¬ woB B (nI (k + 1)) (B 22 + x) * woB B (nI (deF B x k)) (B 22) ≤ woB B (nI (deF B x k)) (B 22 + x) * woB B (nI (k + 1)) (B 22) := Int32.not_le.mpr q2
        simp (disch := omega) only [bm_run_ite, Option.toList_some, Option.bind_some, Option.toList_some, Option.toList_none, List.cons_append, List.nil_append, List.append_nil, eq_self, not_true_eq_false, not_false_eq_true, ite_true, ite_false, ↓reduceIte, Nat.reduceLT, Nat.reduceEqDiff, Nat.reduceAdd, or_true, true_or, or_false, false_or, nI_clamp2, nI_lt0F, nI_leT, nI_leF, nI_ltT, nI_ltF, n_leF, n_leT, nI_1, kA6, kA8, kA10, kA22, kA26, kA32, kA44, kA56, kA68, kA80, kA93, kA163, kA794, not_or, or_self, and_self, and_true, true_and, g274_34, g274_48, g274_60, g274_79, g274_91, g274_95, g274_97, p1, n3, b1, b2, b3, c1, c2, c3, c4, q2, q3]
      · have q3 : woB B (nI (k + 1)) (B 22 + x) * woB B (nI (deF B x k)) (B 22) ≤ woB B (nI (deF B x k)) (B 22 + x) * woB B (nI (k + 1)) (B 22) := Int32.not_lt.mp q2
        simp (disch := omega) only [bm_run_ite, Option.toList_some, Option.bind_some, Option.toList_some, Option.toList_none, List.cons_append, List.nil_append, List.append_nil, eq_self, not_true_eq_false, not_false_eq_true, ite_true, ite_false, ↓reduceIte, Nat.reduceLT, Nat.reduceEqDiff, Nat.reduceAdd, or_true, true_or, or_false, false_or, nI_clamp2, nI_lt0F, nI_leT, nI_leF, nI_ltT, nI_ltF, n_leF, n_leT, nI_1, kA6, kA8, kA10, kA22, kA26, kA32, kA44, kA56, kA68, kA80, kA93, kA163, kA794, not_or, or_self, and_self, and_true, true_and, g274_34, g274_48, g274_60, g274_79, g274_91, g274_97, p1, n3, b1, b2, b3, c1, c2, c3, c4, q2, q3])
    replace b3 : σ3.1 219 = B := b3
    refine ⟨σ3, ?_, kp3⟩
    simp (decide := true) only [e274, g274_0, g274_14, g274_20, bm_run_ite, Option.toList_some, Option.bind_some, Option.toList_some, Option.toList_none, List.cons_append, List.nil_append, List.append_nil, eq_self, not_true_eq_false, not_false_eq_true, ite_true, ite_false, ↓reduceIte, Nat.reduceLT, Nat.reduceEqDiff, Nat.reduceAdd, or_true, true_or, or_false, false_or, c163, q]
    refine (show bm_run S (d + 10) 274 24 [some (.ref 218), some (.int x), some (.int (nI 0)), some (.int (nI (0 + 1))), none] [] _ = _ from e3).trans ?_
    rw [g274_24]
    simp (disch := omega) only [bm_run_ite, Option.toList_some, Option.bind_some, Option.toList_some, Option.toList_none, List.cons_append, List.nil_append, List.append_nil, eq_self, not_true_eq_false, not_false_eq_true, ite_true, ite_false, ↓reduceIte, Nat.reduceLT, Nat.reduceEqDiff, Nat.reduceAdd, or_true, true_or, or_false, false_or, nI_clamp2, nI_lt0F, nI_leT, nI_leF, nI_ltT, nI_ltF, n_leF, n_leT, nI_1, kA6, kA8, kA10, kA22, kA26, kA32, kA44, kA56, kA68, kA80, kA93, kA163, kA794, not_or, or_self, and_self, and_true, true_and, g274_103, b3, n3]
end DEAR
