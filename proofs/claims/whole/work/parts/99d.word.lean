section CWORD
variable {S : am_S} {d : Nat} {σ : bm_S}
theorem t1 : bm_tag 1 = 1 ∧ bm_len 1 = 900 := by decide +kernel
theorem c50d {j s e : Nat} (hj : j < 19) (hs : s < e) (he : e ≤ 900) : ∀ r k, k + r = (wC j).length → ∀ o6 o7 o8, ∃ q6 q7 q8, bm_run S (d + 4) 50 8 [some (.ref 1), some (.int (nI s)), some (.int (nI e)), some (.int (nI (j + 1))), some (.int (Int32.ofInt (-1))), some (.int (nI (pC j + k))), o6, o7, o8] [] σ = bm_run S (d + 4) 50 8 [some (.ref 1), some (.int (nI s)), some (.int (nI e)), some (.int (nI (j + 1))), some (.int (Int32.ofInt (-1))), some (.int (nI (pC j + (wC j).length))), q6, q7, q8] [] σ := by
  obtain ⟨⟨t1, t2, t3, t4, t5, t7⟩, t6⟩ := tabC j hj
  intro r
  induction r with
  | zero =>
    intro k hk o6 o7 o8
    rw [show k = (wC j).length by omega]
    exact ⟨o6, o7, o8, rfl⟩
  | succ r ih =>
    intro k hk o6 o7 o8
    have ca := c294a (S := S) (d := d) (σ := σ) (j := pC j + k) (by omega)
    have lt : ¬ (97 : Int32) ≤ nI (pC j + (k + 1)) := nI_ge (b := 97) (by omega) (by decide)
    have sb : nI e - nI s = nI (e - s) := nI_sub (by omega)
    have m1 : ¬ Int32.ofInt (-1) = nI (e - s) := fun z => nm1 (k := e - s) (by omega) z.symm
    have mlt : Int32.ofInt (-1) < 0 := by decide
    obtain ⟨q6, q7, q8, e1⟩ := ih (k + 1) (by omega) (some (.int (am_byt 1 (pC j + k)))) (am_clr (some (.int (nI s + Int32.ofInt (-1))))) (some (.int 0))
    refine ⟨q6, q7, q8, Eq.trans ?_ e1⟩
    rw [g50_8]
    simp (decide := true) only [bm_run_ite, Option.toList_some, Option.bind_some, Option.toList_some, Option.toList_none, List.cons_append, List.nil_append, List.append_nil, eq_self, not_true_eq_false, not_false_eq_true, ite_true, ite_false, ↓reduceIte, Nat.reduceLT, Nat.reduceEqDiff, Nat.reduceAdd, or_true, true_or, or_false, false_or, nI_1, c293.1, g50_17, lt, g50_20, ca, g50_27, (t6 k (by omega)).2, g50_45, mlt, g50_87, g50_88, g50_102, g50_103, sb, m1, g50_133, Nat.add_assoc]
theorem c50a {j s e : Nat} (hj : j < 19) (hs : s < e) (he : e ≤ 900) : ∀ r k, k + r = (wC j).length → s + k ≤ e → (k = (wC j).length → ¬ e - s = (wC j).length) → (∀ i, i < k → σ.1 1 (s + i) = (wC j).getD i 0) → ∀ o6 o7 o8, (wo (σ.1 1) s e = wC j → bm_run S (d + 4) 50 8 [some (.ref 1), some (.int (nI s)), some (.int (nI e)), some (.int (nI (j + 1))), some (.int (nI k)), some (.int (nI (pC j + k))), o6, o7, o8] [] σ = some (some (.int (nI (201 + j))), σ)) ∧ (¬ wo (σ.1 1) s e = wC j → ∃ f q6 q7 q8, bm_run S (d + 4) 50 8 [some (.ref 1), some (.int (nI s)), some (.int (nI e)), some (.int (nI (j + 1))), some (.int (nI k)), some (.int (nI (pC j + k))), o6, o7, o8] [] σ = bm_run S (d + 4) 50 8 [some (.ref 1), some (.int (nI s)), some (.int (nI e)), some (.int (nI (j + 1))), some (.int f), some (.int (nI (pC j + (wC j).length))), q6, q7, q8] [] σ) := by
  obtain ⟨⟨u1, u2, u3, u4, u5, u7⟩, u6⟩ := tabC j hj
  obtain ⟨ta, tl⟩ := t1
  intro r
  induction r with
  | zero =>
    intro k hk hse hl hm o6 o7 o8
    have ek : k = (wC j).length := by omega
    refine ⟨fun q => absurd (wo_eq.mp q).1 (hl ek), fun _ => ?_⟩
    rw [ek]
    exact ⟨_, o6, o7, o8, rfl⟩
  | succ r ih =>
    intro k hk hse hl hm o6 o7 o8
    have ca := c294a (S := S) (d := d) (σ := σ) (j := pC j + k) (by omega)
    obtain ⟨v1, v2⟩ := u6 k (by omega)
    have lt : ¬ (97 : Int32) ≤ nI (pC j + (k + 1)) := nI_ge (b := 97) (by omega) (by decide)
    have sb : nI e - nI s = nI (e - s) := nI_sub (by omega)
    have m1 : ¬ Int32.ofInt (-1) = nI (e - s) := fun z => nm1 (k := e - s) (by omega) z.symm
    have k0 : ¬ nI k < 0 := nI_pos (by omega)
    have dead : ∀ b7 b8, (∃ z6 z7, bm_run S (d + 4) 50 8 [some (.ref 1), some (.int (nI s)), some (.int (nI e)), some (.int (nI (j + 1))), some (.int (nI k)), some (.int (nI (pC j + k))), o6, o7, o8] [] σ = bm_run S (d + 4) 50 8 [some (.ref 1), some (.int (nI s)), some (.int (nI e)), some (.int (nI (j + 1))), some (.int (Int32.ofInt (-1))), some (.int (nI (pC j + (k + 1)))), z6, z7, b7] [] σ) → ¬ wo (σ.1 1) s e = wC j → b8 = b7 → (wo (σ.1 1) s e = wC j → bm_run S (d + 4) 50 8 [some (.ref 1), some (.int (nI s)), some (.int (nI e)), some (.int (nI (j + 1))), some (.int (nI k)), some (.int (nI (pC j + k))), o6, o7, o8] [] σ = some (some (.int (nI (201 + j))), σ)) ∧ (¬ wo (σ.1 1) s e = wC j → ∃ f q6 q7 q8, bm_run S (d + 4) 50 8 [some (.ref 1), some (.int (nI s)), some (.int (nI e)), some (.int (nI (j + 1))), some (.int (nI k)), some (.int (nI (pC j + k))), o6, o7, o8] [] σ = bm_run S (d + 4) 50 8 [some (.ref 1), some (.int (nI s)), some (.int (nI e)), some (.int (nI (j + 1))), some (.int f), some (.int (nI (pC j + (wC j).length))), q6, q7, q8] [] σ) := by
      rintro b7 b8 ⟨z6, z7, hz⟩ hn _
      refine ⟨fun q => absurd q hn, fun _ => ?_⟩
      obtain ⟨q6, q7, q8, e1⟩ := c50d (S := S) (d := d) (σ := σ) hj hs he r (k + 1) (by omega) z6 z7 b7
      exact ⟨_, q6, q7, q8, hz.trans e1⟩
    by_cases q : s + k = e
    · have le : nI e ≤ nI (s + k) := by rw [q]; exact Int32.le_refl _
      have p0 : ¬ nI (s + k) < 0 := nI_pos (by omega)
      refine dead (some (.int 0)) _ ⟨some (.int (am_byt 1 (pC j + k))), am_clr (some (.int (nI (s + k)))), ?_⟩ (fun z => by have := (wo_eq.mp z).1; omega) rfl
      rw [g50_8]
      simp (decide := true) only [bm_run_ite, Option.toList_some, Option.bind_some, Option.toList_some, Option.toList_none, List.cons_append, List.nil_append, List.append_nil, eq_self, not_true_eq_false, not_false_eq_true, ite_true, ite_false, ↓reduceIte, Nat.reduceLT, Nat.reduceEqDiff, Nat.reduceAdd, or_true, true_or, or_false, false_or, nI_1, nI_add, c293.1, g50_17, lt, g50_20, ca, g50_27, v2, g50_45, k0, g50_56, p0, g50_61, le, g50_87, g50_88, g50_102, g50_103, sb, m1, g50_133, Nat.add_assoc]
    · have le : ¬ nI e ≤ nI (s + k) := nI_ge (by omega) (by omega)
      have p0 : ¬ nI (s + k) < 0 := nI_pos (by omega)
      have bd : ¬ 900 ≤ s + k := by omega
      have l9 : ¬ Int32.ofNat 900 ≤ nI (s + k) := nI_ge (b := 900) (by omega) (by decide)
      by_cases q2 : σ.1 1 (s + k) = (wC j).getD k 0
      · have q3 : σ.1 1 (s + k) = am_byt 1 (pC j + k) := by rw [v1]; exact q2
        have hm2 : ∀ i, i < k + 1 → σ.1 1 (s + i) = (wC j).getD i 0 := fun i hi => by
          by_cases ei : i = k
          · subst ei; exact q2
          · exact hm i (by omega)
        have go : bm_run S (d + 4) 50 8 [some (.ref 1), some (.int (nI s)), some (.int (nI e)), some (.int (nI (j + 1))), some (.int (nI k)), some (.int (nI (pC j + k))), o6, o7, o8] [] σ = bm_run S (d + 4) 50 103 [some (.ref 1), some (.int (nI s)), some (.int (nI e)), some (.int (nI (j + 1))), some (.int (nI k)), some (.int (nI (pC j + k))), some (.int (am_byt 1 (pC j + k))), am_clr (some (.int (nI (s + k)))), some (.int 1)] [.int (nI (k + 1))] σ := by
          rw [g50_8]
          simp (decide := true) only [bm_run_ite, Option.toList_some, Option.bind_some, Option.toList_some, Option.toList_none, List.cons_append, List.nil_append, List.append_nil, eq_self, not_true_eq_false, not_false_eq_true, ite_true, ite_false, ↓reduceIte, Nat.reduceLT, Nat.reduceEqDiff, Nat.reduceAdd, or_true, true_or, or_false, false_or, nI_1, nI_add, c293.1, g50_17, lt, g50_20, ca, g50_27, v2, g50_45, k0, g50_56, p0, g50_61, le, g50_67, ta, tl, l9, g50_74, nI_clamp2 (show s + k < 2147483648 by omega), bd, q3, g50_83, g50_88, g50_95, Nat.add_assoc]
        by_cases q4 : k + 1 = e - s
        · by_cases q5 : k + 1 = (wC j).length
          · have cb := c294a (S := S) (d := d) (σ := σ) (j := pC j + (k + 1)) (by omega)
            rw [q5, u3] at cb
            have ew : wo (σ.1 1) s e = wC j := wo_eq.mpr ⟨by omega, fun i hi => hm2 i (by omega)⟩
            refine ⟨fun _ => go.trans ?_, fun z => absurd ew z⟩
            have e2 : (200 : Int32) + nI (j + 1) = nI (201 + j) := by
              have := nI_add 200 (j + 1)
              rw [show 200 + (j + 1) = 201 + j by omega] at this
              exact this
            have e5 : nI (k + 1) = nI (e - s) := by rw [q4]
            have e6 : nI (pC j + (k + 1)) = nI (pC j + (wC j).length) := by rw [q5]
            rw [g50_103]
            simp (decide := true) only [bm_run_ite, Option.toList_some, Option.bind_some, Option.toList_some, Option.toList_none, List.cons_append, List.nil_append, List.append_nil, eq_self, not_true_eq_false, not_false_eq_true, ite_true, ite_false, ↓reduceIte, Nat.reduceLT, Nat.reduceEqDiff, Nat.reduceAdd, or_true, true_or, or_false, false_or, sb, e5, g50_113, nI_1, Nat.add_assoc, e6, cb, g50_122, g50_127, e2]
          · have cb := c294a (S := S) (d := d) (σ := σ) (j := pC j + (k + 1)) (by omega)
            obtain ⟨y1, y2⟩ := ih (k + 1) (by omega) (by omega) (fun z => absurd z q5) hm2 (some (.int (am_byt 1 (pC j + k)))) (am_clr (some (.int (nI (s + k))))) (some (.int 1))
            have st : bm_run S (d + 4) 50 8 [some (.ref 1), some (.int (nI s)), some (.int (nI e)), some (.int (nI (j + 1))), some (.int (nI k)), some (.int (nI (pC j + k))), o6, o7, o8] [] σ = bm_run S (d + 4) 50 8 [some (.ref 1), some (.int (nI s)), some (.int (nI e)), some (.int (nI (j + 1))), some (.int (nI (k + 1))), some (.int (nI (pC j + (k + 1)))), some (.int (am_byt 1 (pC j + k))), am_clr (some (.int (nI (s + k)))), some (.int 1)] [] σ := by
              refine go.trans ?_
              have e5 : nI (k + 1) = nI (e - s) := by rw [q4]
              rw [g50_103]
              simp (decide := true) only [bm_run_ite, Option.toList_some, Option.bind_some, Option.toList_some, Option.toList_none, List.cons_append, List.nil_append, List.append_nil, eq_self, not_true_eq_false, not_false_eq_true, ite_true, ite_false, ↓reduceIte, Nat.reduceLT, Nat.reduceEqDiff, Nat.reduceAdd, or_true, true_or, or_false, false_or, sb, e5, g50_113, nI_1, Nat.add_assoc, cb, g50_122, (u6 (k + 1) (by omega)).2, g50_133]
            refine ⟨fun z => st.trans (y1 z), fun z => ?_⟩
            obtain ⟨f, q6, q7, q8, e9⟩ := y2 z
            exact ⟨f, q6, q7, q8, st.trans e9⟩
        · have e5 : ¬ nI (k + 1) = nI (e - s) := fun z => q4 ((nI_eq (by omega) (by omega)).mp z)
          obtain ⟨y1, y2⟩ := ih (k + 1) (by omega) (by omega) (fun z => by omega) hm2 (some (.int (am_byt 1 (pC j + k)))) (am_clr (some (.int (nI (s + k))))) (some (.int 1))
          have st : bm_run S (d + 4) 50 8 [some (.ref 1), some (.int (nI s)), some (.int (nI e)), some (.int (nI (j + 1))), some (.int (nI k)), some (.int (nI (pC j + k))), o6, o7, o8] [] σ = bm_run S (d + 4) 50 8 [some (.ref 1), some (.int (nI s)), some (.int (nI e)), some (.int (nI (j + 1))), some (.int (nI (k + 1))), some (.int (nI (pC j + (k + 1)))), some (.int (am_byt 1 (pC j + k))), am_clr (some (.int (nI (s + k)))), some (.int 1)] [] σ := by
            refine go.trans ?_
            rw [g50_103]
            simp (decide := true) only [bm_run_ite, Option.toList_some, Option.bind_some, Option.toList_some, Option.toList_none, List.cons_append, List.nil_append, List.append_nil, eq_self, not_true_eq_false, not_false_eq_true, ite_true, ite_false, ↓reduceIte, Nat.reduceLT, Nat.reduceEqDiff, Nat.reduceAdd, or_true, true_or, or_false, false_or, sb, e5, g50_133, nI_1, Nat.add_assoc]
          refine ⟨fun z => st.trans (y1 z), fun z => ?_⟩
          obtain ⟨f, q6, q7, q8, e9⟩ := y2 z
          exact ⟨f, q6, q7, q8, st.trans e9⟩
      · have q3 : ¬ σ.1 1 (s + k) = am_byt 1 (pC j + k) := by rw [v1]; exact q2
        refine dead (some (.int 0)) _ ⟨some (.int (am_byt 1 (pC j + k))), am_clr (some (.int (nI (s + k)))), ?_⟩ (fun z => q2 ((wo_eq.mp z).2 k (by omega))) rfl
        rw [g50_8]
        simp (decide := true) only [bm_run_ite, Option.toList_some, Option.bind_some, Option.toList_some, Option.toList_none, List.cons_append, List.nil_append, List.append_nil, eq_self, not_true_eq_false, not_false_eq_true, ite_true, ite_false, ↓reduceIte, Nat.reduceLT, Nat.reduceEqDiff, Nat.reduceAdd, or_true, true_or, or_false, false_or, nI_1, nI_add, c293.1, g50_17, lt, g50_20, ca, g50_27, v2, g50_45, k0, g50_56, p0, g50_61, le, g50_67, ta, tl, l9, g50_74, nI_clamp2 (show s + k < 2147483648 by omega), bd, q3, g50_87, g50_88, g50_102, g50_103, sb, m1, g50_133, Nat.add_assoc]
theorem c50 {s e : Nat} (hs : s < e) (he : e ≤ 900) : bm_call S (d + 4) 50 [.ref 1, .int (nI s), .int (nI e)] σ = some (some (.int (ckF (wo (σ.1 1) s e))), σ) := by
  have main : ∀ f j, j + f = 19 → ∀ i4 o6 o7 o8, bm_run S (d + 4) 50 8 [some (.ref 1), some (.int (nI s)), some (.int (nI e)), some (.int (nI j)), some (.int i4), some (.int (nI (pC j - 1))), o6, o7, o8] [] σ = some (some (.int (if fdF wC (wo (σ.1 1) s e) f j < 19 then nI (201 + fdF wC (wo (σ.1 1) s e) f j) else 200)), σ) := by
    intro f
    induction f with
    | zero =>
      intro j hj i4 o6 o7 o8
      have e19 : j = 19 := by omega
      subst e19
      have p19 : pC 19 - 1 = 96 := by decide +kernel
      have le : (97 : Int32) ≤ nI 96 + 1 := by decide
      rw [g50_8, p19]
      simp (decide := true) only [bm_run_ite, Option.toList_some, Option.bind_some, Option.toList_some, Option.toList_none, List.cons_append, List.nil_append, List.append_nil, eq_self, not_true_eq_false, not_false_eq_true, ite_true, ite_false, ↓reduceIte, Nat.reduceLT, Nat.reduceEqDiff, Nat.reduceAdd, or_true, true_or, or_false, false_or, c293.1, g50_17, le, g50_139, fdF]
    | succ f ih =>
      intro j hj i4 o6 o7 o8
      have hj19 : j < 19 := by omega
      obtain ⟨⟨u1, u2, u3, u4, u5, u7⟩, u6⟩ := tabC j hj19
      have p1 : nI (pC j - 1 + 1) = nI (pC j) := by rw [Nat.sub_add_cancel u5]
      have lt : ¬ (97 : Int32) ≤ nI (pC j) := nI_ge (b := 97) (by omega) (by decide)
      have ca := c294a (S := S) (d := d) (σ := σ) (j := pC j - 1) (by omega)
      rw [u2] at ca
      obtain ⟨y1, y2⟩ := c50a (S := S) (d := d) (σ := σ) hj19 hs he (wC j).length 0 (by omega) (by omega) (fun z => by omega) (fun i hi => absurd hi (by omega)) (some (.int 32)) o7 o8
      have st : bm_run S (d + 4) 50 8 [some (.ref 1), some (.int (nI s)), some (.int (nI e)), some (.int (nI j)), some (.int i4), some (.int (nI (pC j - 1))), o6, o7, o8] [] σ = bm_run S (d + 4) 50 8 [some (.ref 1), some (.int (nI s)), some (.int (nI e)), some (.int (nI (j + 1))), some (.int (nI 0)), some (.int (nI (pC j + 0))), some (.int 32), o7, o8] [] σ := by
        rw [g50_8]
        simp (decide := true) only [bm_run_ite, Option.toList_some, Option.bind_some, Option.toList_some, Option.toList_none, List.cons_append, List.nil_append, List.append_nil, eq_self, not_true_eq_false, not_false_eq_true, ite_true, ite_false, ↓reduceIte, Nat.reduceLT, Nat.reduceEqDiff, Nat.reduceAdd, or_true, true_or, or_false, false_or, c293.1, nI_1, p1, g50_17, lt, g50_20, ca, g50_27, g50_36, g50_133]
        rfl
      refine st.trans ?_
      rw [fdF]
      by_cases q : wo (σ.1 1) s e = wC j
      · rw [if_pos q, if_pos hj19]
        exact y1 q
      · obtain ⟨f4, q6, q7, q8, e9⟩ := y2 q
        rw [if_neg q, e9, ← ih (j + 1) (by omega) f4 q6 q7 q8, u4]
        rfl
  rw [e50, g50_0]
  exact main 19 0 (by omega) 0 none none none
end CWORD
