section MHOLD
variable {S : am_S} {d : Nat} {σ : bm_S} {M L : Nat}
theorem bI_or (a b : Bool) : bI a ||| bI b = bI (a || b) := by cases a <;> cases b <;> decide
theorem MR.eqS {τ : bm_S} (h : MR M L σ) (e : eqS (σ.1 219) (τ.1 219)) : MR M L τ := ⟨h.1, by rw [e 3 (by omega) (by omega)]; exact h.m, by rw [e 25 (by omega) (by omega)]; exact h.l⟩
theorem m211 (h : MR M L σ) (hw : GW M L (σ.1 219)) {D : Nat → Bool} (hD : ∀ l, l < L → tb (σ.1 218 21) l = D l) : ∃ σ1, bm_call S (d + 4) 211 [.ref 218] σ = some (some (.int (bI (anF M L (σ.1 219, D)))), σ1) ∧ σ1.1 219 = (tuS M L (σ.1 219, D)).1 ∧ (∀ l, l < L → tb (σ1.1 218 21) l = (tuS M L (σ.1 219, D)).2 l) ∧ (∀ i, i < 6 → σ1.1 225 i = netF D (σ.1 219) L i) ∧ Fq σ σ1 := by
  have hM := h.M6
  have hL := h.L12
  obtain ⟨hl, go, gm, gc⟩ := hw
  generalize hB : σ.1 219 = B at *
  obtain ⟨g1, ec, eg⟩ := m208 (S := S) (d := d + 2) h (by rw [hB]; exact go) (σ.1 218 21)
  have en : netF (tb (σ.1 218 21)) B L = netF D B L := netF_cg hD (fun l _ => ⟨rfl, rfl, rfl⟩)
  rw [hB, en] at eg
  generalize hg : netF D B L = g at *
  have hm : B 3 = nI M := by rw [← hB]; exact h.m
  have a0 : anF M L (B, D) = anS B g M := by unfold anF; rw [hg]
  have t0 : tuS M L (B, D) = seF L B g (B, D) M := by unfold tuS; rw [hg]
  rw [a0, t0]
  obtain ⟨σ1, e1, b1, n1, p1, c1, f1⟩ := loop_ex (fun k s => bm_run S (d + 4) 211 12 [some (.ref 218), some (.int (bI (anS B g k))), some (.int (nI k))] [] s) (fun k s => s.1 219 = B ∧ (∀ i, i < 6 → s.1 225 i = g i) ∧ (∀ i, i < k → s.1 226 i = shF B g i ∧ s.1 227 i = B (26 + i)) ∧ s.1 218 = σ.1 218 ∧ Fq σ s) M (bm_row σ 225 g1) ⟨by rw [bm_row_1n _ _ (by decide)]; exact hB, fun i hi => by rw [row_row1]; exact eg i hi, fun i hi => absurd hi (by omega), bm_row_1n _ _ (by decide), (Fq.rfl σ).row (by decide) (by decide) _⟩ (by
    intro k s hk hp
    obtain ⟨b1, n1, p1, c1, f1⟩ := hp
    have m3 : bm_call S (d + 3) 196 [.ref 218, .int (nI k)] s = some (some (.int (bI (tb (B 24) k))), s) := by rw [m196 (by omega), b1]
    refine ⟨bm_wi (bm_wi s 226 k (shF B g k)) 227 k (B (26 + k)), ?_, ?_, ?_, ?_, ?_, ?_⟩
    · have r17 : ∀ x, (bm_wi s 226 k x).1 219 = B := fun x => (wi_n _ (by decide) _ _).trans b1
      have r24 : ∀ x y, (bm_wi (bm_wi s 226 k x) 227 k y).1 226 k = x := fun x y => by rw [wi_n _ (by decide), wi_s, upd_s]
      rw [g211_12]
      have ea : bI (anS B g k) ||| bI (decide (0 < shF B g k)) = bI (anS B g (k + 1)) := bI_or _ _
      cases hq : tb (B 24) k
      · have es : shF B g k = -(B (26 + k) + g k) := by unfold shF; rw [hq]; rfl
        by_cases q : 0 < shF B g k
        · have q1 : ¬ -(B (26 + k) + g k) ≤ 0 := by rw [← es]; exact Int32.not_le.mpr q
          have e2 : bI (anS B g (k + 1)) = bI (anS B g k) ||| 1 := by rw [← ea]; simp [q, bI]
          rw [e2, es]
          simp (disch := omega) only [bm_run_ite, Option.toList_some, Option.bind_some, Option.toList_some, Option.toList_none, List.cons_append, List.nil_append, List.append_nil, eq_self, not_true_eq_false, not_false_eq_true, ite_true, ite_false, ↓reduceIte, Nat.reduceLT, Nat.reduceEqDiff, Nat.reduceAdd, or_true, true_or, or_false, false_or, nI_clamp2, nI_lt0F, nI_leT, nI_leF, nI_ltT, nI_ltF, n_leF, n_leT, nI_1, kA6, kA8, kA10, kA22, kA26, kA32, kA44, kA56, kA68, kA80, kA93, kA163, kA794, not_or, or_self, and_self, and_true, true_and, g211_0, g211_8, g211_22, g211_32, g211_35, g211_39, g211_56, g211_82, g211_86, g211_87, g211_95, g211_97, g211_107, g211_116, g211_119, g211_136, g211_139, g211_144, g211_147, g211_152, g211_158, b1, hm, m3, hq, bI_ite, Bool.false_eq_true, n1 k (show k < 6 by omega), r17, r24, q1]
        · have q1 : -(B (26 + k) + g k) ≤ 0 := by rw [← es]; exact Int32.not_lt.mp q
          have e2 : bI (anS B g (k + 1)) = bI (anS B g k) ||| 0 := by rw [← ea]; simp [q, bI]
          rw [e2, es]
          simp (disch := omega) only [bm_run_ite, Option.toList_some, Option.bind_some, Option.toList_some, Option.toList_none, List.cons_append, List.nil_append, List.append_nil, eq_self, not_true_eq_false, not_false_eq_true, ite_true, ite_false, ↓reduceIte, Nat.reduceLT, Nat.reduceEqDiff, Nat.reduceAdd, or_true, true_or, or_false, false_or, nI_clamp2, nI_lt0F, nI_leT, nI_leF, nI_ltT, nI_ltF, n_leF, n_leT, nI_1, kA6, kA8, kA10, kA22, kA26, kA32, kA44, kA56, kA68, kA80, kA93, kA163, kA794, not_or, or_self, and_self, and_true, true_and, g211_0, g211_8, g211_22, g211_32, g211_35, g211_39, g211_56, g211_82, g211_86, g211_87, g211_95, g211_97, g211_107, g211_116, g211_119, g211_136, g211_139, g211_144, g211_147, g211_152, g211_158, b1, hm, m3, hq, bI_ite, Bool.false_eq_true, n1 k (show k < 6 by omega), r17, r24, q1]
      · have es : shF B g k = 0 := by unfold shF; rw [hq]; rfl
        have q1 : (0 : Int32) ≤ 0 := Int32.le_refl 0
        have e2 : bI (anS B g (k + 1)) = bI (anS B g k) ||| 0 := by rw [← ea, es]; rfl
        rw [e2, es]
        simp (disch := omega) only [bm_run_ite, Option.toList_some, Option.bind_some, Option.toList_some, Option.toList_none, List.cons_append, List.nil_append, List.append_nil, eq_self, not_true_eq_false, not_false_eq_true, ite_true, ite_false, ↓reduceIte, Nat.reduceLT, Nat.reduceEqDiff, Nat.reduceAdd, or_true, true_or, or_false, false_or, nI_clamp2, nI_lt0F, nI_leT, nI_leF, nI_ltT, nI_ltF, n_leF, n_leT, nI_1, kA6, kA8, kA10, kA22, kA26, kA32, kA44, kA56, kA68, kA80, kA93, kA163, kA794, not_or, or_self, and_self, and_true, true_and, g211_0, g211_8, g211_22, g211_32, g211_35, g211_39, g211_56, g211_82, g211_86, g211_87, g211_95, g211_97, g211_107, g211_116, g211_119, g211_136, g211_139, g211_144, g211_147, g211_152, g211_158, b1, hm, m3, hq, bI_ite, Bool.false_eq_true, n1 k (show k < 6 by omega), r17, r24, q1]
    · rw [wi_n _ (by decide), wi_n _ (by decide)]; exact b1
    · intro i hi
      rw [wi_n _ (by decide), wi_n _ (by decide)]; exact n1 i hi
    · intro i hi
      rw [wi_n _ (by decide), wi_s, wi_s, wi_n _ (by decide)]
      by_cases e : i = k
      · subst e; exact ⟨upd_s _ _ _, upd_s _ _ _⟩
      · rw [upd_n _ _ e, upd_n _ _ e]; exact p1 i (by omega)
    · rw [wi_n _ (by decide), wi_n _ (by decide)]; exact c1
    · exact (f1.row (k := 226) (by decide) (by decide) _).row (k := 227) (by decide) (by decide) _)
  obtain ⟨σ2, e2, b2, d2, n2, p2, f2⟩ := loop_ex (fun k s => bm_run S (d + 4) 211 97 [some (.ref 218), some (.int (bI (anS B g M))), some (.int (nI k))] [] s) (fun k s => s.1 219 = (seF L B g (B, D) k).1 ∧ (∀ l, l < L → tb (s.1 218 21) l = (seF L B g (B, D) k).2 l) ∧ (∀ i, i < 6 → s.1 225 i = g i) ∧ (∀ i, i < M → s.1 226 i = shF B g i ∧ s.1 227 i = B (26 + i)) ∧ Fq σ s) M σ1 ⟨b1, fun l hl => by rw [c1]; exact hD l hl, n1, p1, f1⟩ (by
    intro k s hk hp
    obtain ⟨b2, d2, n2, p2, f2⟩ := hp
    obtain ⟨p3, p4⟩ := p2 k hk
    have eqC := eqS_seF hL B g (B, D) k
    replace eqC : eqS B (seF L B g (B, D) k).1 := eqC
    rw [seF]
    generalize seF L B g (B, D) k = C at *
    have hm2 : C.1 3 = nI M := by rw [eqC 3 (by omega) (by omega)]; exact hm
    have hl2 : C.1 25 = nI L := by rw [eqC 25 (by omega) (by omega), ← hB]; exact h.l
    unfold seS
    by_cases q : 0 < shF B g k
    · rw [if_pos q]
      obtain ⟨x1, x2, e3⟩ := m201 (S := S) (d := d + 1) (σ := s) (by rw [b2]; exact hl.cg eqC) (nI k) (B (26 + k)) (shF B g k)
      rw [b2] at e3
      generalize hτ : bm_row (bm_row s 224 x2) 223 x1 = τ at e3
      have t17 : τ.1 219 = C.1 := by rw [← hτ, bm_row_1n _ _ (by decide), bm_row_1n _ _ (by decide)]; exact b2
      have t16 : τ.1 218 = s.1 218 := by rw [← hτ, bm_row_1n _ _ (by decide), bm_row_1n _ _ (by decide)]
      have tf : Fq σ τ := by rw [← hτ]; exact (f2.row (by decide) (by decide) _).row (by decide) (by decide) _
      have tn : ∀ a, a ≠ 223 → a ≠ 224 → τ.1 a = s.1 a := by intro a h1 h2; rw [← hτ, bm_row_1n _ _ h1, bm_row_1n _ _ h2]
      have hMR : MR M L τ := ⟨h.1, by rw [t17]; exact hm2, by rw [t17]; exact hl2⟩
      have td : ∀ l, l < L → tb (τ.1 218 21) l = C.2 l := by rw [t16]; exact d2
      cases ht : tmB C.1 (nI k) (B (26 + k)) (shF B g k)
      · obtain ⟨σ3, e4, b4, d4, f4⟩ := m209 (S := S) (d := d + 2) hMR (m := k) (by omega) td
        rw [t17] at b4 d4
        refine ⟨σ3, ?_, by simpa using b4, by simpa using d4, ?_, ?_, tf.tr f4.q⟩
        · rw [g211_97]
          simp (disch := omega) only [bm_run_ite, Option.toList_some, Option.bind_some, Option.toList_some, Option.toList_none, List.cons_append, List.nil_append, List.append_nil, eq_self, not_true_eq_false, not_false_eq_true, ite_true, ite_false, ↓reduceIte, Nat.reduceLT, Nat.reduceEqDiff, Nat.reduceAdd, or_true, true_or, or_false, false_or, nI_clamp2, nI_lt0F, nI_leT, nI_leF, nI_ltT, nI_ltF, n_leF, n_leT, nI_1, kA6, kA8, kA10, kA22, kA26, kA32, kA44, kA56, kA68, kA80, kA93, kA163, kA794, not_or, or_self, and_self, and_true, true_and, g211_0, g211_8, g211_12, g211_22, g211_32, g211_35, g211_39, g211_56, g211_82, g211_86, g211_87, g211_95, g211_107, g211_116, g211_119, g211_136, g211_139, g211_144, g211_147, g211_152, g211_158, b2, hm2, p3, p4, q, e3, ht, bI_ite, Bool.false_eq_true, e4]
        · intro i hi; rw [f4.1 _ (by decide) (by decide), tn _ (by decide) (by decide)]; exact n2 i hi
        · intro i hi; rw [f4.1 _ (by decide) (by decide), f4.1 _ (by decide) (by decide), tn _ (by decide) (by decide), tn _ (by decide) (by decide)]; exact p2 i hi
      · obtain ⟨σ3, e4, b4, d4, f4⟩ := m210 (S := S) (d := d + 2) hMR (m := k) td
        rw [t17] at b4 d4
        refine ⟨σ3, ?_, by simpa using b4, by simpa using d4, ?_, ?_, tf.tr f4.q⟩
        · rw [g211_97]
          simp (disch := omega) only [bm_run_ite, Option.toList_some, Option.bind_some, Option.toList_some, Option.toList_none, List.cons_append, List.nil_append, List.append_nil, eq_self, not_true_eq_false, not_false_eq_true, ite_true, ite_false, ↓reduceIte, Nat.reduceLT, Nat.reduceEqDiff, Nat.reduceAdd, or_true, true_or, or_false, false_or, nI_clamp2, nI_lt0F, nI_leT, nI_leF, nI_ltT, nI_ltF, n_leF, n_leT, nI_1, kA6, kA8, kA10, kA22, kA26, kA32, kA44, kA56, kA68, kA80, kA93, kA163, kA794, not_or, or_self, and_self, and_true, true_and, g211_0, g211_8, g211_12, g211_22, g211_32, g211_35, g211_39, g211_56, g211_82, g211_86, g211_87, g211_95, g211_107, g211_116, g211_119, g211_136, g211_139, g211_144, g211_147, g211_152, g211_158, b2, hm2, p3, p4, q, e3, ht, bI_ite, Bool.false_eq_true, e4]
        · intro i hi; rw [f4.1 _ (by decide) (by decide), tn _ (by decide) (by decide)]; exact n2 i hi
        · intro i hi; rw [f4.1 _ (by decide) (by decide), f4.1 _ (by decide) (by decide), tn _ (by decide) (by decide), tn _ (by decide) (by decide)]; exact p2 i hi
    · rw [if_neg q]
      refine ⟨s, ?_, b2, d2, n2, p2, f2⟩
      rw [g211_97]
      simp (disch := omega) only [bm_run_ite, Option.toList_some, Option.bind_some, Option.toList_some, Option.toList_none, List.cons_append, List.nil_append, List.append_nil, eq_self, not_true_eq_false, not_false_eq_true, ite_true, ite_false, ↓reduceIte, Nat.reduceLT, Nat.reduceEqDiff, Nat.reduceAdd, or_true, true_or, or_false, false_or, nI_clamp2, nI_lt0F, nI_leT, nI_leF, nI_ltT, nI_ltF, n_leF, n_leT, nI_1, kA6, kA8, kA10, kA22, kA26, kA32, kA44, kA56, kA68, kA80, kA93, kA163, kA794, not_or, or_self, and_self, and_true, true_and, g211_0, g211_8, g211_12, g211_22, g211_32, g211_35, g211_39, g211_56, g211_82, g211_86, g211_87, g211_95, g211_107, g211_116, g211_119, g211_136, g211_139, g211_144, g211_147, g211_152, g211_158, b2, hm2, p3, q])
  refine ⟨σ2, ?_, b2, d2, n2, f2⟩
  have hm2 : (seF L B g (B, D) M).1 3 = nI M := by rw [eqS_seF hL B g (B, D) M 3 (by omega) (by omega)]; exact hm
  simp only [e211, g211_0, bm_run_ite, Option.toList_some, Option.bind_some, Option.toList_some, Option.toList_none, List.cons_append, List.nil_append, List.append_nil, eq_self, not_true_eq_false, not_false_eq_true, ite_true, ite_false, ↓reduceIte, Nat.reduceLT, Nat.reduceEqDiff, Nat.reduceAdd, or_true, true_or, or_false, false_or, ec, g211_8]
  refine (show bm_run S (d + 4) 211 12 [some (.ref 218), some (.int (bI (anS B g 0))), some (.int (nI 0))] [] _ = _ from e1).trans ?_
  rw [g211_12]
  simp (disch := omega) only [bm_run_ite, Option.toList_some, Option.bind_some, Option.toList_some, Option.toList_none, List.cons_append, List.nil_append, List.append_nil, eq_self, not_true_eq_false, not_false_eq_true, ite_true, ite_false, ↓reduceIte, Nat.reduceLT, Nat.reduceEqDiff, Nat.reduceAdd, or_true, true_or, or_false, false_or, nI_clamp2, nI_lt0F, nI_leT, nI_leF, nI_ltT, nI_ltF, n_leF, n_leT, nI_1, kA6, kA8, kA10, kA22, kA26, kA32, kA44, kA56, kA68, kA80, kA93, kA163, kA794, not_or, or_self, and_self, and_true, true_and, g211_95, b1, hm]
  refine (show bm_run S (d + 4) 211 97 [some (.ref 218), some (.int (bI (anS B g M))), some (.int (nI 0))] [] _ = _ from e2).trans ?_
  rw [g211_97]
  simp (disch := omega) only [bm_run_ite, Option.toList_some, Option.bind_some, Option.toList_some, Option.toList_none, List.cons_append, List.nil_append, List.append_nil, eq_self, not_true_eq_false, not_false_eq_true, ite_true, ite_false, ↓reduceIte, Nat.reduceLT, Nat.reduceEqDiff, Nat.reduceAdd, or_true, true_or, or_false, false_or, nI_clamp2, nI_lt0F, nI_leT, nI_leF, nI_ltT, nI_ltF, n_leF, n_leT, nI_1, kA6, kA8, kA10, kA22, kA26, kA32, kA44, kA56, kA68, kA80, kA93, kA163, kA794, not_or, or_self, and_self, and_true, true_and, g211_158, b2, hm2, bI_ok]
end MHOLD
