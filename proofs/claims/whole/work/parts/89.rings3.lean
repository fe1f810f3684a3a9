section RINGP
variable {S : am_S} {d : Nat} {σ : bm_S} {M L : Nat} {B : Nat → Int32}
def rgV (a : rgT) (i : Int32) : Int32 := if nI a.1 = 0 then Int32.ofInt (-1) else if i = 0 then a.2.1 else if i = 1 then nI a.2.2.1 else if nI a.2.2.1 ≤ i - 10 then Int32.ofInt (-1) else nI (a.2.2.2 (i - 10).toNatClampNeg)
def rgI (i : Int32) : Prop := i = 0 ∨ i = 1 ∨ ∃ k, k < 6 ∧ i = nI (10 + k)
theorem c137r (h : RS M L σ) (hB : σ.1 219 = B) {i : Int32} (hi : rgI i) : ∃ σ1, bm_run S (d + 10) 137 26 [some (.ref 0), some (.int i)] [] σ = some (some (.int (rgV (rgs L B) i)), σ1) ∧ Kp σ σ1 := by
  obtain ⟨σ1, k1, kp, c0, c1, c2, c3, c4⟩ := c67 (S := S) (d := d) h hB
  refine ⟨σ1, ?_, kp⟩
  rw [g137_26]
  simp only [bm_run_ite, Option.toList_some, Option.bind_some, Option.toList_some, Option.toList_none, List.cons_append, List.nil_append, List.append_nil, eq_self, not_true_eq_false, not_false_eq_true, ite_true, ite_false, ↓reduceIte, Nat.reduceLT, Nat.reduceEqDiff, Nat.reduceAdd, or_true, true_or, or_false, false_or, k1, g137_37, c1]
  generalize rgs L B = a at *
  unfold rgV
  by_cases q : nI a.1 = 0
  · simp (decide := true) only [bm_run_ite, Option.toList_some, Option.bind_some, Option.toList_some, Option.toList_none, List.cons_append, List.nil_append, List.append_nil, eq_self, not_true_eq_false, not_false_eq_true, ite_true, ite_false, ↓reduceIte, Nat.reduceLT, Nat.reduceEqDiff, Nat.reduceAdd, or_true, true_or, or_false, false_or, q, g137_47]
  rcases hi with rfl | rfl | ⟨k, hk, rfl⟩
  · simp (decide := true) only [bm_run_ite, Option.toList_some, Option.bind_some, Option.toList_some, Option.toList_none, List.cons_append, List.nil_append, List.append_nil, eq_self, not_true_eq_false, not_false_eq_true, ite_true, ite_false, ↓reduceIte, Nat.reduceLT, Nat.reduceEqDiff, Nat.reduceAdd, or_true, true_or, or_false, false_or, q, g137_49, g137_53, c2]
  · simp (decide := true) only [bm_run_ite, Option.toList_some, Option.bind_some, Option.toList_some, Option.toList_none, List.cons_append, List.nil_append, List.append_nil, eq_self, not_true_eq_false, not_false_eq_true, ite_true, ite_false, ↓reduceIte, Nat.reduceLT, Nat.reduceEqDiff, Nat.reduceAdd, or_true, true_or, or_false, false_or, q, g137_49, g137_61, g137_66, c3]
  · have n0 : ¬ nI (10 + k) = 0 := fun z => by have := (nI_eq (a := 10 + k) (b := 0) (by omega) (by omega)).mp z; omega
    have n1 : ¬ nI (10 + k) = 1 := fun z => by have := (nI_eq (a := 10 + k) (b := 1) (by omega) (by omega)).mp z; omega
    have sb : nI (10 + k) - 10 = nI k := by
      have := nI_sub (a := 10 + k) (b := 10) (by omega)
      rw [show 10 + k - 10 = k by omega] at this
      exact this
    rw [if_neg q, if_neg n0, if_neg n1, sb, nI_clamp2 (by omega)]
    have at3 : k < a.2.2.1 → bm_call S (d + 9) 158 [.ref 175, .int (nI k)] σ1 = some (some (.int (nI (a.2.2.2 k))), σ1) := fun hk2 => by rw [at_row t173 l173 hk (by decide), c4 k hk2]
    by_cases q2 : a.2.2.1 ≤ k
    · have q3 : nI a.2.2.1 ≤ nI k := nI_le q2 (by omega)
      simp (decide := true) only [bm_run_ite, Option.toList_some, Option.bind_some, Option.toList_some, Option.toList_none, List.cons_append, List.nil_append, List.append_nil, eq_self, not_true_eq_false, not_false_eq_true, ite_true, ite_false, ↓reduceIte, Nat.reduceLT, Nat.reduceEqDiff, Nat.reduceAdd, or_true, true_or, or_false, false_or, q, n0, n1, sb, c3, q3, g137_49, g137_61, g137_74, g137_105, g137_106]
    · have q3 : ¬ nI a.2.2.1 ≤ nI k := nI_ge (by omega) (by omega)
      have at4 := at3 (by omega)
      simp (decide := true) only [bm_run_ite, Option.toList_some, Option.bind_some, Option.toList_some, Option.toList_none, List.cons_append, List.nil_append, List.append_nil, eq_self, not_true_eq_false, not_false_eq_true, ite_true, ite_false, ↓reduceIte, Nat.reduceLT, Nat.reduceEqDiff, Nat.reduceAdd, or_true, true_or, or_false, false_or, q, n0, n1, sb, c3, q3, g137_49, g137_61, g137_74, g137_88, at4, g137_102, g137_106]
theorem m264r (h : RS M L σ) (hB : σ.1 219 = B) {i : Int32} (hi : rgI i) : ∃ σ1, bm_run S (d + 10) 264 32 [some (.ref 218), some (.int i)] [] σ = some (some (.int (rgV (rgs L B) i)), σ1) ∧ Kp σ σ1 := by
  obtain ⟨σ1, k1, kp, c0, c1, c2, c3, c4⟩ := m262 (S := S) (d := d) h hB
  refine ⟨σ1, ?_, kp⟩
  rw [g264_32]
  simp only [bm_run_ite, Option.toList_some, Option.bind_some, Option.toList_some, Option.toList_none, List.cons_append, List.nil_append, List.append_nil, eq_self, not_true_eq_false, not_false_eq_true, ite_true, ite_false, ↓reduceIte, Nat.reduceLT, Nat.reduceEqDiff, Nat.reduceAdd, or_true, true_or, or_false, false_or, k1, g264_36, c1]
  generalize rgs L B = a at *
  unfold rgV
  by_cases q : nI a.1 = 0
  · simp (decide := true) only [bm_run_ite, Option.toList_some, Option.bind_some, Option.toList_some, Option.toList_none, List.cons_append, List.nil_append, List.append_nil, eq_self, not_true_eq_false, not_false_eq_true, ite_true, ite_false, ↓reduceIte, Nat.reduceLT, Nat.reduceEqDiff, Nat.reduceAdd, or_true, true_or, or_false, false_or, q, g264_43]
  rcases hi with rfl | rfl | ⟨k, hk, rfl⟩
  · simp (decide := true) only [bm_run_ite, Option.toList_some, Option.bind_some, Option.toList_some, Option.toList_none, List.cons_append, List.nil_append, List.append_nil, eq_self, not_true_eq_false, not_false_eq_true, ite_true, ite_false, ↓reduceIte, Nat.reduceLT, Nat.reduceEqDiff, Nat.reduceAdd, or_true, true_or, or_false, false_or, q, g264_45, g264_49, g264_92, c2]
  · simp (decide := true) only [bm_run_ite, Option.toList_some, Option.bind_some, Option.toList_some, Option.toList_none, List.cons_append, List.nil_append, List.append_nil, eq_self, not_true_eq_false, not_false_eq_true, ite_true, ite_false, ↓reduceIte, Nat.reduceLT, Nat.reduceEqDiff, Nat.reduceAdd, or_true, true_or, or_false, false_or, q, g264_45, g264_56, g264_61, g264_92, c3]
  · have n0 : ¬ nI (10 + k) = 0 := fun z => by have := (nI_eq (a := 10 + k) (b := 0) (by omega) (by omega)).mp z; omega
    have n1 : ¬ nI (10 + k) = 1 := fun z => by have := (nI_eq (a := 10 + k) (b := 1) (by omega) (by omega)).mp z; omega
    have sb : nI (10 + k) - 10 = nI k := by
      have := nI_sub (a := 10 + k) (b := 10) (by omega)
      rw [show 10 + k - 10 = k by omega] at this
      exact this
    rw [if_neg q, if_neg n0, if_neg n1, sb, nI_clamp2 (by omega)]
    by_cases q2 : a.2.2.1 ≤ k
    · have q3 : nI a.2.2.1 ≤ nI k := nI_le q2 (by omega)
      simp (decide := true) only [bm_run_ite, Option.toList_some, Option.bind_some, Option.toList_some, Option.toList_none, List.cons_append, List.nil_append, List.append_nil, eq_self, not_true_eq_false, not_false_eq_true, ite_true, ite_false, ↓reduceIte, Nat.reduceLT, Nat.reduceEqDiff, Nat.reduceAdd, or_true, true_or, or_false, false_or, q, n0, n1, sb, c3, q3, g264_45, g264_56, g264_68, g264_91, g264_92]
    · have q3 : ¬ nI a.2.2.1 ≤ nI k := nI_ge (by omega) (by omega)
      have at4 := c4 k (by omega)
      have bd : ¬ (nI k < 0 ∨ 6 ≤ k) := by rintro (z | z); exact nI_pos (by omega) z; omega
      simp (decide := true) only [bm_run_ite, Option.toList_some, Option.bind_some, Option.toList_some, Option.toList_none, List.cons_append, List.nil_append, List.append_nil, eq_self, not_true_eq_false, not_false_eq_true, ite_true, ite_false, ↓reduceIte, Nat.reduceLT, Nat.reduceEqDiff, Nat.reduceAdd, or_true, true_or, or_false, false_or, q, n0, n1, sb, c3, q3, g264_45, g264_56, g264_68, g264_79, bd, nI_clamp2 (show k < 2147483648 by omega), at4, g264_92]
theorem w1015 : ∀ k, k < 6 → bW (nI (10 + k)).toInt64 0 1 = 0 ∧ bW (nI (10 + k)).toInt64 10 15 = 1 ∧ ¬ nI (10 + k) = 0 ∧ ¬ nI (10 + k) = 1 := by decide +kernel
theorem p_ring (h : RS M L σ) (i : Int32) : PR S (d + 10) 137 264 [.int i] σ := by
  have s7 : ¬ Sc 219 := by unfold Sc; omega
  by_cases hi : rgI i
  · have ac : bm_call S (d + 10) 137 [.ref 0, .int i] σ = bm_run S (d + 10) 137 26 [some (.ref 0), some (.int i)] [] σ := by
      rcases hi with rfl | rfl | ⟨k, hk, rfl⟩
      · simp (decide := true) only [e137, g137_0, bm_run_ite, Option.toList_some, Option.bind_some, Option.toList_some, Option.toList_none, List.cons_append, List.nil_append, List.append_nil, eq_self, not_true_eq_false, not_false_eq_true, ite_true, ite_false, ↓reduceIte, Nat.reduceLT, Nat.reduceEqDiff, Nat.reduceAdd, or_true, true_or, or_false, false_or]
      · simp (decide := true) only [e137, g137_0, g137_4, bm_run_ite, Option.toList_some, Option.bind_some, Option.toList_some, Option.toList_none, List.cons_append, List.nil_append, List.append_nil, eq_self, not_true_eq_false, not_false_eq_true, ite_true, ite_false, ↓reduceIte, Nat.reduceLT, Nat.reduceEqDiff, Nat.reduceAdd, or_true, true_or, or_false, false_or]
      · obtain ⟨w1, w2, w3, w4⟩ := w1015 k hk
        simp (decide := true) only [e137, g137_0, g137_4, g137_9, g137_20, bm_run_ite, Option.toList_some, Option.bind_some, Option.toList_some, Option.toList_none, List.cons_append, List.nil_append, List.append_nil, eq_self, not_true_eq_false, not_false_eq_true, ite_true, ite_false, ↓reduceIte, Nat.reduceLT, Nat.reduceEqDiff, Nat.reduceAdd, or_true, true_or, or_false, false_or, c157, w2, w3, w4]
    have am : ∀ τ : bm_S, bm_call S (d + 10) 264 [.ref 218, .int i] τ = bm_run S (d + 10) 264 32 [some (.ref 218), some (.int i)] [] (bm_wi τ 218 0 0) := by
      intro τ
      rcases hi with rfl | rfl | ⟨k, hk, rfl⟩
      · have w : bW (0 : Int32).toInt64 0 1 = 1 := by decide +kernel
        simp (decide := true) only [e264, g264_0, g264_12, bm_run_ite, Option.toList_some, Option.bind_some, Option.toList_some, Option.toList_none, List.cons_append, List.nil_append, List.append_nil, eq_self, not_true_eq_false, not_false_eq_true, ite_true, ite_false, ↓reduceIte, Nat.reduceLT, Nat.reduceEqDiff, Nat.reduceAdd, or_true, true_or, or_false, false_or, c163, w]
      · have w : bW (1 : Int32).toInt64 0 1 = 1 := by decide +kernel
        simp (decide := true) only [e264, g264_0, g264_12, bm_run_ite, Option.toList_some, Option.bind_some, Option.toList_some, Option.toList_none, List.cons_append, List.nil_append, List.append_nil, eq_self, not_true_eq_false, not_false_eq_true, ite_true, ite_false, ↓reduceIte, Nat.reduceLT, Nat.reduceEqDiff, Nat.reduceAdd, or_true, true_or, or_false, false_or, c163, w]
      · obtain ⟨w1, w2, w3, w4⟩ := w1015 k hk
        simp (decide := true) only [e264, g264_0, g264_12, g264_15, g264_26, bm_run_ite, Option.toList_some, Option.bind_some, Option.toList_some, Option.toList_none, List.cons_append, List.nil_append, List.append_nil, eq_self, not_true_eq_false, not_false_eq_true, ite_true, ite_false, ↓reduceIte, Nat.reduceLT, Nat.reduceEqDiff, Nat.reduceAdd, or_true, true_or, or_false, false_or, c163, w1, w2]
    obtain ⟨σ1, k1, kp⟩ := c137r (S := S) (d := d) h rfl hi
    refine PR.ofk (v := .int (rgV (rgs L (σ.1 219)) i)) h ⟨σ1, ac.trans k1, kp⟩ ?_
    intro τ k
    have kk := k.tr (kp_t0 τ)
    obtain ⟨σ2, k2, kp2⟩ := m264r (S := S) (d := d) (h.kp kk) (kk.at s7 (by omega)) hi
    exact ⟨σ2, (am τ).trans k2, (kp_t0 τ).tr kp2⟩
  · have n0 : ¬ i = 0 := fun z => hi (Or.inl z)
    have n1 : ¬ i = 1 := fun z => hi (Or.inr (Or.inl z))
    have w2 : bW i.toInt64 10 15 = 0 := bW_n (fun z => by
      obtain ⟨k, a1, a2, rfl⟩ := bW_of (a := 10) (b := 15) (by decide +kernel) (by decide +kernel) (by decide) z
      exact hi (Or.inr (Or.inr ⟨k - 10, by omega, by rw [show 10 + (k - 10) = k by omega]⟩)))
    have w1 : bW i.toInt64 0 1 = 0 := bW_n (fun z => by
      obtain ⟨k, a1, a2, rfl⟩ := bW_of (a := 0) (b := 1) (by decide +kernel) (by decide +kernel) (by decide) z
      rcases (show k = 0 ∨ k = 1 by omega) with rfl | rfl
      · exact n0 rfl
      · exact n1 rfl)
    refine PR.ofk (v := .int (Int32.ofInt (-2))) h ⟨σ, by simp (decide := true) only [e137, g137_0, g137_4, g137_9, g137_20, g137_23, bm_run_ite, Option.toList_some, Option.bind_some, Option.toList_some, Option.toList_none, List.cons_append, List.nil_append, List.append_nil, eq_self, not_true_eq_false, not_false_eq_true, ite_true, ite_false, ↓reduceIte, Nat.reduceLT, Nat.reduceEqDiff, Nat.reduceAdd, or_true, true_or, or_false, false_or, c157, n0, n1, w2], Kp.rfl σ⟩ ?_
    intro τ k
    exact ⟨_, by simp (decide := true) only [e264, g264_0, g264_12, g264_15, g264_26, g264_29, bm_run_ite, Option.toList_some, Option.bind_some, Option.toList_some, Option.toList_none, List.cons_append, List.nil_append, List.append_nil, eq_self, not_true_eq_false, not_false_eq_true, ite_true, ite_false, ↓reduceIte, Nat.reduceLT, Nat.reduceEqDiff, Nat.reduceAdd, or_true, true_or, or_false, false_or, c163, w1, w2], kp_t0 τ⟩
end RINGP
