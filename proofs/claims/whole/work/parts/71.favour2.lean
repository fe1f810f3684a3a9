section FAVOUR2
variable {S : am_S} {d : Nat} {σ : bm_S} {M L : Nat}
theorem p_favour (h : RS M L σ) (x n : Int32) : PR S (d + 10) 135 259 [.int x, .int n] σ := by
  have hM := h.rw.M6
  have hL := h.rw.L12
  have hok := h.1.1
  generalize hB : σ.1 219 = B at hok
  rcases bW_01 x.toInt64 1 999 with q | q
  · refine PR.of (v := .int (Int32.ofInt (-3))) h ⟨σ, by simp (decide := true) only [e135, g135_0, g135_9, g135_24, bm_run_ite, Option.toList_some, Option.bind_some, Option.toList_some, Option.toList_none, List.cons_append, List.nil_append, List.append_nil, eq_self, not_true_eq_false, not_false_eq_true, ite_true, ite_false, ↓reduceIte, Nat.reduceLT, Nat.reduceEqDiff, Nat.reduceAdd, or_true, true_or, or_false, false_or, c157, q], Kp.rfl σ⟩ ?_
    intro τ hτ eB _
    exact ⟨_, by simp (decide := true) only [e259, g259_0, g259_14, g259_29, bm_run_ite, Option.toList_some, Option.bind_some, Option.toList_some, Option.toList_none, List.cons_append, List.nil_append, List.append_nil, eq_self, not_true_eq_false, not_false_eq_true, ite_true, ite_false, ↓reduceIte, Nat.reduceLT, Nat.reduceEqDiff, Nat.reduceAdd, or_true, true_or, or_false, false_or, c163, q], kp_t0 τ⟩
  rcases bW_01 n.toInt64 1 30 with q1 | q1
  · refine PR.of (v := .int (Int32.ofInt (-3))) h ⟨σ, by simp (decide := true) only [e135, g135_0, g135_9, g135_12, g135_21, g135_24, bm_run_ite, Option.toList_some, Option.bind_some, Option.toList_some, Option.toList_none, List.cons_append, List.nil_append, List.append_nil, eq_self, not_true_eq_false, not_false_eq_true, ite_true, ite_false, ↓reduceIte, Nat.reduceLT, Nat.reduceEqDiff, Nat.reduceAdd, or_true, true_or, or_false, false_or, c157, q, q1], Kp.rfl σ⟩ ?_
    intro τ hτ eB _
    exact ⟨_, by simp (decide := true) only [e259, g259_0, g259_14, g259_17, g259_26, g259_29, bm_run_ite, Option.toList_some, Option.bind_some, Option.toList_some, Option.toList_none, List.cons_append, List.nil_append, List.append_nil, eq_self, not_true_eq_false, not_false_eq_true, ite_true, ite_false, ↓reduceIte, Nat.reduceLT, Nat.reduceEqDiff, Nat.reduceAdd, or_true, true_or, or_false, false_or, c163, q, q1], kp_t0 τ⟩
  obtain ⟨x, x1, x2, rfl⟩ := bW_of (a := 1) (b := 999) (by decide +kernel) (by decide +kernel) (by decide) q
  obtain ⟨n, k1, k2, rfl⟩ := bW_of (a := 1) (b := 30) (by decide +kernel) (by decide +kernel) (by decide) q1
  have small : ∀ k, 6 ≤ k → k < 32 → tb (goB M L B n 24) k = false := fun k h1 h2 => (goB_GA hM hL hok.1 n).2.2 k (by omega) h2
  refine PR.of (v := .int (faF M L B (nI x) n M).1) h ?_ ?_
  · have hr := h.rw
    have hb := h.bk
    rw [hB] at hr hb
    obtain ⟨σ0, e0, _, f0⟩ := c36 (S := S) (d := d + 3) hr (by omega) hb (by unfold ob; omega) hok.1 n (by omega)
    obtain ⟨⟨o6, σ1⟩, e1, ks1⟩ := loop_ex (fun k (s : Option Value × bm_S) => bm_run S (d + 10) 135 53 [some (.ref 0), some (.int (nI x)), some (.int (nI n)), some (.int (faF M L B (nI x) n k).1), some (.int (faF M L B (nI x) n k).2), some (.int (nI k)), s.1] [] s.2) (fun _ s => Kp σ s.2) M (none, σ0) (f0.kp (by omega)) (by
      intro k s hk ks
      obtain ⟨h1, b1⟩ := h.kB ks
      have hr := h1.rw
      have hb := h1.bk
      rw [b1, hB] at hr hb
      rw [faF]
      cases hq : tb (B 24) k
      · have ok2 := hok.wi hk (k := x) (by omega)
        obtain ⟨s1, c1, f1, w1⟩ := c77 (S := S) (d := d + 6) (σ := s.2) hr.iw w149 (by omega)
        have hr2 := w1 hr
        have c2 := c93 (S := S) (d := d + 8) hr2 hk (nI x)
        have hr3 := hr2.w1 hk (mn (B (26 + k) + nI x))
        have fw : Fb 149 2 s1 (bm_wi s1 (149 + 1) k (mn (B (26 + k) + nI x))) := ⟨fun a ha _ => wi_n _ (by omega) _ _, rfl⟩
        have hb3 : BK (bm_wi s1 (149 + 1) k (mn (B (26 + k) + nI x))) 2 (wiB B k (nI x)) := (fw.BK (by unfold ob; omega) ((f1.b (b := 2)).BK (by unfold ob; omega) hb)).cgK (fun i hi => by unfold wiB; exact upd_n _ _ (by omega))
        obtain ⟨s2, c3, h3, f3⟩ := c35 (S := S) (d := d + 4) (b := 2) (B := wiB B k (nI x)) hr3 hb3 (by unfold ob; omega) ok2.1 n (by omega)
        have c4 := c288 (S := S) (d := d + 9) (σ := s2) (x := goB M L (wiB B k (nI x)) n 24) (fun j h1 h2 => (goB_GA hM hL ok2.1 n).2.2 j (by omega) h2)
        refine ⟨(some (.int (bcF (goB M L (wiB B k (nI x)) n 24))), s2), ?_, ks.tr ((((f1.b (b := 2)).tr fw).tr f3).kp (by omega))⟩
        replace c2 : bm_call S (d + 9) 93 [.ref 149, .int (nI k), .int (nI x)] s1 = some (none, bm_wi s1 (149 + 1) k (mn (B (26 + k) + nI x))) := c2
        generalize bm_wi s1 (149 + 1) k (mn (B (26 + k) + nI x)) = s3 at c2 c3
        by_cases q2 : bcF (goB M L (wiB B k (nI x)) n 24) < (faF M L B (nI x) n k).2
        · have q3 : ¬ (faF M L B (nI x) n k).2 ≤ bcF (goB M L (wiB B k (nI x)) n 24) := Int32.not_le.mpr q2
          rw [g135_53]
          simp (disch := omega) only [bm_run_ite, Option.toList_some, Option.bind_some, Option.toList_some, Option.toList_none, List.cons_append, List.nil_append, List.append_nil, eq_self, not_true_eq_false, not_false_eq_true, ite_true, ite_false, ↓reduceIte, Nat.reduceLT, Nat.reduceEqDiff, Nat.reduceAdd, or_true, true_or, or_false, false_or, nI_clamp2, nI_lt0F, nI_leT, nI_leF, nI_ltT, nI_ltF, n_leF, n_leT, nI_1, kA6, kA8, kA10, kA22, kA26, kA32, kA44, kA56, kA68, kA80, kA93, kA163, kA794, not_or, or_self, and_self, and_true, true_and, g135_0, g135_9, g135_12, g135_21, g135_24, g135_27, g135_45, g135_48, g135_65, g135_74, g135_77, g135_80, g135_91, g135_104, g135_116, g135_129, g135_138, g135_145, g135_151, e34, g34_0, g34_8, hr.f0, c80 hr (show k < 32 by omega), hq, bI_ite, Bool.false_eq_true, c1, c2, c3, h3.f2, c4, q2, q3]
        · have q3 : (faF M L B (nI x) n k).2 ≤ bcF (goB M L (wiB B k (nI x)) n 24) := Int32.not_lt.mp q2
          rw [g135_53]
          simp (disch := omega) only [bm_run_ite, Option.toList_some, Option.bind_some, Option.toList_some, Option.toList_none, List.cons_append, List.nil_append, List.append_nil, eq_self, not_true_eq_false, not_false_eq_true, ite_true, ite_false, ↓reduceIte, Nat.reduceLT, Nat.reduceEqDiff, Nat.reduceAdd, or_true, true_or, or_false, false_or, nI_clamp2, nI_lt0F, nI_leT, nI_leF, nI_ltT, nI_ltF, n_leF, n_leT, nI_1, kA6, kA8, kA10, kA22, kA26, kA32, kA44, kA56, kA68, kA80, kA93, kA163, kA794, not_or, or_self, and_self, and_true, true_and, g135_0, g135_9, g135_12, g135_21, g135_24, g135_27, g135_45, g135_48, g135_65, g135_74, g135_77, g135_80, g135_91, g135_104, g135_116, g135_129, g135_138, g135_145, g135_151, e34, g34_0, g34_8, hr.f0, c80 hr (show k < 32 by omega), hq, bI_ite, Bool.false_eq_true, c1, c2, c3, h3.f2, c4, q2, q3]
      · refine ⟨s, ?_, ks⟩
        rw [g135_53]
        simp (disch := omega) only [bm_run_ite, Option.toList_some, Option.bind_some, Option.toList_some, Option.toList_none, List.cons_append, List.nil_append, List.append_nil, eq_self, not_true_eq_false, not_false_eq_true, ite_true, ite_false, ↓reduceIte, Nat.reduceLT, Nat.reduceEqDiff, Nat.reduceAdd, or_true, true_or, or_false, false_or, nI_clamp2, nI_lt0F, nI_leT, nI_leF, nI_ltT, nI_ltF, n_leF, n_leT, nI_1, kA6, kA8, kA10, kA22, kA26, kA32, kA44, kA56, kA68, kA80, kA93, kA163, kA794, not_or, or_self, and_self, and_true, true_and, g135_0, g135_9, g135_12, g135_21, g135_24, g135_27, g135_45, g135_48, g135_65, g135_74, g135_77, g135_80, g135_91, g135_104, g135_116, g135_129, g135_138, g135_145, g135_151, hr.f0, c80 hr (show k < 32 by omega), hq, bI_ite])
    replace ks1 : Kp σ σ1 := ks1
    have f0 := (h.kB ks1).1.rw.f0
    have c0 := c288 (S := S) (d := d + 9) (σ := σ0) small
    refine ⟨σ1, ?_, ks1⟩
    simp (decide := true) only [e135, g135_0, g135_9, g135_12, g135_21, g135_27, g135_45, g135_48, bm_run_ite, Option.toList_some, Option.bind_some, Option.toList_some, Option.toList_none, List.cons_append, List.nil_append, List.append_nil, eq_self, not_true_eq_false, not_false_eq_true, ite_true, ite_false, ↓reduceIte, Nat.reduceLT, Nat.reduceEqDiff, Nat.reduceAdd, or_true, true_or, or_false, false_or, c157, q, q1, e0, c0]
    refine (show bm_run S (d + 10) 135 53 [some (.ref 0), some (.int (nI x)), some (.int (nI n)), some (.int (Int32.ofInt (-1))), some (.int (bcF (goB M L B n 24))), some (.int (nI 0)), none] [] σ0 = _ from e1).trans ?_
    rw [g135_53]
    simp (disch := omega) only [bm_run_ite, Option.toList_some, Option.bind_some, Option.toList_some, Option.toList_none, List.cons_append, List.nil_append, List.append_nil, eq_self, not_true_eq_false, not_false_eq_true, ite_true, ite_false, ↓reduceIte, Nat.reduceLT, Nat.reduceEqDiff, Nat.reduceAdd, or_true, true_or, or_false, false_or, nI_clamp2, nI_lt0F, nI_leT, nI_leF, nI_ltT, nI_ltF, n_leF, n_leT, nI_1, kA6, kA8, kA10, kA22, kA26, kA32, kA44, kA56, kA68, kA80, kA93, kA163, kA794, not_or, or_self, and_self, and_true, true_and, g135_151, f0]
  · intro τ hτ eB _
    rw [hB] at eB
    have h0 := hτ.t0
    have e0 := (t0_B τ).trans eB
    obtain ⟨σ0, c0, f0⟩ := m251 (S := S) (d := d + 2) h0.mr h0.ga n (by omega)
    rw [e0] at c0
    obtain ⟨⟨o6, σ1⟩, e1, ks1⟩ := loop_ex (fun k (s : Option Value × bm_S) => bm_run S (d + 10) 259 47 [some (.ref 218), some (.int (nI x)), some (.int (nI n)), some (.int (faF M L B (nI x) n k).1), some (.int (faF M L B (nI x) n k).2), some (.int (nI k)), s.1] [] s.2) (fun _ s => Kp τ s.2) M (none, σ0) ((kp_t0 τ).tr f0.kp) (by
      intro k s hk ks
      obtain ⟨h1, b1⟩ := hτ.kB ks
      have b2 := b1.trans eB
      have m3 := h1.mr.m
      rw [b2] at m3
      have mb := m196 (S := S) (d := d + 8) (σ := s.2) (m := k) (by omega)
      rw [b2] at mb
      rw [faF]
      cases hq : tb (B 24) k
      · obtain ⟨s1, c1, f1⟩ := m257 (S := S) (d := d + 1) (σ := s.2) b2 hok hk (k := x) (by omega) n (by omega)
        refine ⟨(some (.int (bcF (goB M L (wiB B k (nI x)) n 24))), s1), ?_, ks.tr f1.kp⟩
        by_cases q2 : bcF (goB M L (wiB B k (nI x)) n 24) < (faF M L B (nI x) n k).2
        · rw [g259_47]
          simp (disch := omega) only [bm_run_ite, Option.toList_some, Option.bind_some, Option.toList_some, Option.toList_none, List.cons_append, List.nil_append, List.append_nil, eq_self, not_true_eq_false, not_false_eq_true, ite_true, ite_false, ↓reduceIte, Nat.reduceLT, Nat.reduceEqDiff, Nat.reduceAdd, or_true, true_or, or_false, false_or, nI_clamp2, nI_lt0F, nI_leT, nI_leF, nI_ltT, nI_ltF, n_leF, n_leT, nI_1, kA6, kA8, kA10, kA22, kA26, kA32, kA44, kA56, kA68, kA80, kA93, kA163, kA794, not_or, or_self, and_self, and_true, true_and, g259_0, g259_14, g259_17, g259_26, g259_29, g259_32, g259_39, g259_42, g259_58, g259_64, g259_67, g259_72, g259_80, g259_83, g259_92, g259_95, g259_102, g259_108, b2, m3, mb, hq, bI_ite, Bool.false_eq_true, c1, m197, q2]
        · rw [g259_47]
          simp (disch := omega) only [bm_run_ite, Option.toList_some, Option.bind_some, Option.toList_some, Option.toList_none, List.cons_append, List.nil_append, List.append_nil, eq_self, not_true_eq_false, not_false_eq_true, ite_true, ite_false, ↓reduceIte, Nat.reduceLT, Nat.reduceEqDiff, Nat.reduceAdd, or_true, true_or, or_false, false_or, nI_clamp2, nI_lt0F, nI_leT, nI_leF, nI_ltT, nI_ltF, n_leF, n_leT, nI_1, kA6, kA8, kA10, kA22, kA26, kA32, kA44, kA56, kA68, kA80, kA93, kA163, kA794, not_or, or_self, and_self, and_true, true_and, g259_0, g259_14, g259_17, g259_26, g259_29, g259_32, g259_39, g259_42, g259_58, g259_64, g259_67, g259_72, g259_80, g259_83, g259_92, g259_95, g259_102, g259_108, b2, m3, mb, hq, bI_ite, Bool.false_eq_true, c1, m197, q2]
      · have q3 : ¬ (12 : Int32) < (faF M L B (nI x) n k).2 := Int32.not_lt.mpr (faF_le hok (by omega) k (by omega))
        refine ⟨(some (.int 12), s.2), ?_, ks⟩
        rw [g259_47]
        simp (disch := omega) only [bm_run_ite, Option.toList_some, Option.bind_some, Option.toList_some, Option.toList_none, List.cons_append, List.nil_append, List.append_nil, eq_self, not_true_eq_false, not_false_eq_true, ite_true, ite_false, ↓reduceIte, Nat.reduceLT, Nat.reduceEqDiff, Nat.reduceAdd, or_true, true_or, or_false, false_or, nI_clamp2, nI_lt0F, nI_leT, nI_leF, nI_ltT, nI_ltF, n_leF, n_leT, nI_1, kA6, kA8, kA10, kA22, kA26, kA32, kA44, kA56, kA68, kA80, kA93, kA163, kA794, not_or, or_self, and_self, and_true, true_and, g259_0, g259_14, g259_17, g259_26, g259_29, g259_32, g259_39, g259_42, g259_58, g259_64, g259_67, g259_72, g259_80, g259_83, g259_92, g259_95, g259_102, g259_108, b2, m3, mb, hq, bI_ite, q3])
    replace ks1 : Kp τ σ1 := ks1
    have m3 := (hτ.kB ks1).1.mr.m
    refine ⟨σ1, ?_, ks1⟩
    simp (decide := true) only [e259, g259_0, g259_14, g259_17, g259_26, g259_32, g259_39, g259_42, bm_run_ite, Option.toList_some, Option.bind_some, Option.toList_some, Option.toList_none, List.cons_append, List.nil_append, List.append_nil, eq_self, not_true_eq_false, not_false_eq_true, ite_true, ite_false, ↓reduceIte, Nat.reduceLT, Nat.reduceEqDiff, Nat.reduceAdd, or_true, true_or, or_false, false_or, c163, q, q1, c0, m197]
    refine (show bm_run S (d + 10) 259 47 [some (.ref 218), some (.int (nI x)), some (.int (nI n)), some (.int (Int32.ofInt (-1))), some (.int (bcF (goB M L B n 24))), some (.int (nI 0)), none] [] σ0 = _ from e1).trans ?_
    rw [g259_47]
    simp (disch := omega) only [bm_run_ite, Option.toList_some, Option.bind_some, Option.toList_some, Option.toList_none, List.cons_append, List.nil_append, List.append_nil, eq_self, not_true_eq_false, not_false_eq_true, ite_true, ite_false, ↓reduceIte, Nat.reduceLT, Nat.reduceEqDiff, Nat.reduceAdd, or_true, true_or, or_false, false_or, nI_clamp2, nI_lt0F, nI_leT, nI_leF, nI_ltT, nI_ltF, n_leF, n_leT, nI_1, kA6, kA8, kA10, kA22, kA26, kA32, kA44, kA56, kA68, kA80, kA93, kA163, kA794, not_or, or_self, and_self, and_true, true_and, g259_108, m3]
end FAVOUR2
