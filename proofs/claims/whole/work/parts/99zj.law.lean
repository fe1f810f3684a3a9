/-! the law, call by call -/
theorem nI_lit (i k : Nat) : nI i + nI k = nI (i + k) := nI_add i k
theorem lcmp_s (x : Int64) : lg_cmp x x = 0 := by unfold lg_cmp; simp
section LAWC
variable {S : am_S} {d : Nat} {σ : bm_S} {M L i : Nat}
theorem law_ix (hi : i + 6 ≤ S.1) (hS : S.1 ≤ 3072) {k : Nat} (hk : k < 6) : (nI i + nI k = nI (i + k)) ∧ (¬ (nI (i + k) < 0 ∨ S.1 ≤ i + k)) ∧ (nI (i + k)).toNatClampNeg = i + k := by
  refine ⟨nI_add i k, ?_, nI_clamp (by omega)⟩
  rintro (y | y)
  · exact nI_pos (by omega) y
  · omega
theorem lw_c0 (hi : i + 6 ≤ S.1) (hS : S.1 ≤ 3072) (h : RS M L σ) : ∃ σ2 M2 L2, bm_run S (d + 111) 308 224 [some (.retAddr 1000), some (.ref 0), some (.ref 218), some (.int (nI i))] [] σ = bm_run S (d + 111) 308 1534 [some (.retAddr 1000), some (.ref 0), some (.ref 218), some (.int (nI i))] [] σ2 ∧ RS M2 L2 σ2 := by
  obtain ⟨v, σ1, σ2, M2, L2, k1, k2, k3⟩ := p_feed (S := S) (d := d + 100) h (S.2 (i + 1)) (S.2 (i + 2)) (S.2 (i + 3)) (S.2 (i + 4)) (S.2 (i + 5))
  replace k1 : bm_call S (d + 110) 109 [.ref 0, .int (S.2 (i + 1)), .int (S.2 (i + 2)), .int (S.2 (i + 3)), .int (S.2 (i + 4)), .int (S.2 (i + 5))] σ = some (some v, σ1) := k1
  replace k2 : bm_call S (d + 110) 166 [.ref 218, .int (S.2 (i + 1)), .int (S.2 (i + 2)), .int (S.2 (i + 3)), .int (S.2 (i + 4)), .int (S.2 (i + 5))] σ1 = some (some v, σ2) := k2
  obtain ⟨x, rfl⟩ := bm_ret_int (m := 109) (by decide +kernel) k1
  obtain ⟨a1, b1, c1⟩ := law_ix hi hS (k := 1) (by decide)
  replace a1 : nI i + (1 : Int32) = nI (i + 1) := a1
  obtain ⟨a2, b2, c2⟩ := law_ix hi hS (k := 2) (by decide)
  replace a2 : nI i + (2 : Int32) = nI (i + 2) := a2
  obtain ⟨a3, b3, c3⟩ := law_ix hi hS (k := 3) (by decide)
  replace a3 : nI i + (3 : Int32) = nI (i + 3) := a3
  obtain ⟨a4, b4, c4⟩ := law_ix hi hS (k := 4) (by decide)
  replace a4 : nI i + (4 : Int32) = nI (i + 4) := a4
  obtain ⟨a5, b5, c5⟩ := law_ix hi hS (k := 5) (by decide)
  replace a5 : nI i + (5 : Int32) = nI (i + 5) := a5
  refine ⟨σ2, M2, L2, ?_, k3⟩
  rw [g308_224]
  simp (decide := true) only [bm_run_ite, Option.toList_some, Option.bind_some, Option.toList_some, Option.toList_none, List.cons_append, List.nil_append, List.append_nil, eq_self, not_true_eq_false, not_false_eq_true, ite_true, ite_false, ↓reduceIte, Nat.reduceLT, Nat.reduceEqDiff, Nat.reduceAdd, or_true, true_or, or_false, false_or, a1, b1, c1, a2, b2, c2, a3, b3, c3, a4, b4, c4, a5, b5, c5, k1, k2, g308_253, g308_282]
theorem lw_c1 (hi : i + 6 ≤ S.1) (hS : S.1 ≤ 3072) (h : RS M L σ) : ∃ σ2 M2 L2, bm_run S (d + 111) 308 287 [some (.retAddr 1000), some (.ref 0), some (.ref 218), some (.int (nI i))] [] σ = bm_run S (d + 111) 308 1534 [some (.retAddr 1000), some (.ref 0), some (.ref 218), some (.int (nI i))] [] σ2 ∧ RS M2 L2 σ2 := by
  obtain ⟨v, σ1, σ2, M2, L2, k1, k2, k3⟩ := p_fairs (S := S) (d := d + 10) h (S.2 (i + 1))
  replace k1 : bm_call S (d + 110) 110 [.ref 0, .int (S.2 (i + 1))] σ = some (some v, σ1) := k1
  replace k2 : bm_call S (d + 110) 191 [.ref 218, .int (S.2 (i + 1))] σ1 = some (some v, σ2) := k2
  obtain ⟨x, rfl⟩ := bm_ret_int (m := 110) (by decide +kernel) k1
  obtain ⟨a1, b1, c1⟩ := law_ix hi hS (k := 1) (by decide)
  replace a1 : nI i + (1 : Int32) = nI (i + 1) := a1
  refine ⟨σ2, M2, L2, ?_, k3⟩
  rw [g308_287]
  simp (decide := true) only [bm_run_ite, Option.toList_some, Option.bind_some, Option.toList_some, Option.toList_none, List.cons_append, List.nil_append, List.append_nil, eq_self, not_true_eq_false, not_false_eq_true, ite_true, ite_false, ↓reduceIte, Nat.reduceLT, Nat.reduceEqDiff, Nat.reduceAdd, or_true, true_or, or_false, false_or, a1, b1, c1, k1, k2, g308_296, g308_305]
theorem lw_c2 (hi : i + 6 ≤ S.1) (hS : S.1 ≤ 3072) (h : RS M L σ) : ∃ σ2 M2 L2, bm_run S (d + 111) 308 310 [some (.retAddr 1000), some (.ref 0), some (.ref 218), some (.int (nI i))] [] σ = bm_run S (d + 111) 308 1534 [some (.retAddr 1000), some (.ref 0), some (.ref 218), some (.int (nI i))] [] σ2 ∧ RS M2 L2 σ2 := by
  obtain ⟨v, σ1, σ2, M2, L2, k1, k2, k3⟩ := p_fault (S := S) (d := d + 100) h (S.2 (i + 1))
  replace k1 : bm_call S (d + 110) 111 [.ref 0, .int (S.2 (i + 1))] σ = some (some v, σ1) := k1
  replace k2 : bm_call S (d + 110) 192 [.ref 218, .int (S.2 (i + 1))] σ1 = some (some v, σ2) := k2
  obtain ⟨x, rfl⟩ := bm_ret_int (m := 111) (by decide +kernel) k1
  obtain ⟨a1, b1, c1⟩ := law_ix hi hS (k := 1) (by decide)
  replace a1 : nI i + (1 : Int32) = nI (i + 1) := a1
  refine ⟨σ2, M2, L2, ?_, k3⟩
  rw [g308_310]
  simp (decide := true) only [bm_run_ite, Option.toList_some, Option.bind_some, Option.toList_some, Option.toList_none, List.cons_append, List.nil_append, List.append_nil, eq_self, not_true_eq_false, not_false_eq_true, ite_true, ite_false, ↓reduceIte, Nat.reduceLT, Nat.reduceEqDiff, Nat.reduceAdd, or_true, true_or, or_false, false_or, a1, b1, c1, k1, k2, g308_319, g308_328]
theorem lw_c3 (hi : i + 6 ≤ S.1) (hS : S.1 ≤ 3072) (h : RS M L σ) : ∃ σ2 M2 L2, bm_run S (d + 111) 308 333 [some (.retAddr 1000), some (.ref 0), some (.ref 218), some (.int (nI i))] [] σ = bm_run S (d + 111) 308 1534 [some (.retAddr 1000), some (.ref 0), some (.ref 218), some (.int (nI i))] [] σ2 ∧ RS M2 L2 σ2 := by
  obtain ⟨v, σ1, σ2, M2, L2, k1, k2, k3⟩ := p_merchant (S := S) (d := d + 100) h (S.2 (i + 1)) (S.2 (i + 2))
  replace k1 : bm_call S (d + 110) 112 [.ref 0, .int (S.2 (i + 1)), .int (S.2 (i + 2))] σ = some (some v, σ1) := k1
  replace k2 : bm_call S (d + 110) 204 [.ref 218, .int (S.2 (i + 1)), .int (S.2 (i + 2))] σ1 = some (some v, σ2) := k2
  obtain ⟨x, rfl⟩ := bm_ret_int (m := 112) (by decide +kernel) k1
  obtain ⟨a1, b1, c1⟩ := law_ix hi hS (k := 1) (by decide)
  replace a1 : nI i + (1 : Int32) = nI (i + 1) := a1
  obtain ⟨a2, b2, c2⟩ := law_ix hi hS (k := 2) (by decide)
  replace a2 : nI i + (2 : Int32) = nI (i + 2) := a2
  refine ⟨σ2, M2, L2, ?_, k3⟩
  rw [g308_333]
  simp (decide := true) only [bm_run_ite, Option.toList_some, Option.bind_some, Option.toList_some, Option.toList_none, List.cons_append, List.nil_append, List.append_nil, eq_self, not_true_eq_false, not_false_eq_true, ite_true, ite_false, ↓reduceIte, Nat.reduceLT, Nat.reduceEqDiff, Nat.reduceAdd, or_true, true_or, or_false, false_or, a1, b1, c1, a2, b2, c2, k1, k2, g308_347, g308_361]
theorem lw_c4 (hi : i + 6 ≤ S.1) (hS : S.1 ≤ 3072) (h : RS M L σ) : ∃ σ2 M2 L2, bm_run S (d + 111) 308 366 [some (.retAddr 1000), some (.ref 0), some (.ref 218), some (.int (nI i))] [] σ = bm_run S (d + 111) 308 1534 [some (.retAddr 1000), some (.ref 0), some (.ref 218), some (.int (nI i))] [] σ2 ∧ RS M2 L2 σ2 := by
  obtain ⟨v, σ1, σ2, M2, L2, k1, k2, k3⟩ := p_letter (S := S) (d := d + 100) h (S.2 (i + 1)) (S.2 (i + 2))
  replace k1 : bm_call S (d + 110) 113 [.ref 0, .int (S.2 (i + 1)), .int (S.2 (i + 2))] σ = some (some v, σ1) := k1
  replace k2 : bm_call S (d + 110) 205 [.ref 218, .int (S.2 (i + 1)), .int (S.2 (i + 2))] σ1 = some (some v, σ2) := k2
  obtain ⟨x, rfl⟩ := bm_ret_int (m := 113) (by decide +kernel) k1
  obtain ⟨a1, b1, c1⟩ := law_ix hi hS (k := 1) (by decide)
  replace a1 : nI i + (1 : Int32) = nI (i + 1) := a1
  obtain ⟨a2, b2, c2⟩ := law_ix hi hS (k := 2) (by decide)
  replace a2 : nI i + (2 : Int32) = nI (i + 2) := a2
  refine ⟨σ2, M2, L2, ?_, k3⟩
  rw [g308_366]
  simp (decide := true) only [bm_run_ite, Option.toList_some, Option.bind_some, Option.toList_some, Option.toList_none, List.cons_append, List.nil_append, List.append_nil, eq_self, not_true_eq_false, not_false_eq_true, ite_true, ite_false, ↓reduceIte, Nat.reduceLT, Nat.reduceEqDiff, Nat.reduceAdd, or_true, true_or, or_false, false_or, a1, b1, c1, a2, b2, c2, k1, k2, g308_380, g308_394]
theorem lw_c5 (hi : i + 6 ≤ S.1) (hS : S.1 ≤ 3072) (h : RS M L σ) : ∃ σ2 M2 L2, bm_run S (d + 111) 308 399 [some (.retAddr 1000), some (.ref 0), some (.ref 218), some (.int (nI i))] [] σ = bm_run S (d + 111) 308 1534 [some (.retAddr 1000), some (.ref 0), some (.ref 218), some (.int (nI i))] [] σ2 ∧ RS M2 L2 σ2 := by
  obtain ⟨v, σ1, σ2, M2, L2, k1, k2, k3⟩ := p_worth (S := S) (d := d + 100) h (S.2 (i + 1)) (S.2 (i + 2))
  replace k1 : bm_call S (d + 110) 114 [.ref 0, .int (S.2 (i + 1)), .int (S.2 (i + 2))] σ = some (some v, σ1) := k1
  replace k2 : bm_call S (d + 110) 206 [.ref 218, .int (S.2 (i + 1)), .int (S.2 (i + 2))] σ1 = some (some v, σ2) := k2
  obtain ⟨x, rfl⟩ := bm_ret_int (m := 114) (by decide +kernel) k1
  obtain ⟨a1, b1, c1⟩ := law_ix hi hS (k := 1) (by decide)
  replace a1 : nI i + (1 : Int32) = nI (i + 1) := a1
  obtain ⟨a2, b2, c2⟩ := law_ix hi hS (k := 2) (by decide)
  replace a2 : nI i + (2 : Int32) = nI (i + 2) := a2
  refine ⟨σ2, M2, L2, ?_, k3⟩
  rw [g308_399]
  simp (decide := true) only [bm_run_ite, Option.toList_some, Option.bind_some, Option.toList_some, Option.toList_none, List.cons_append, List.nil_append, List.append_nil, eq_self, not_true_eq_false, not_false_eq_true, ite_true, ite_false, ↓reduceIte, Nat.reduceLT, Nat.reduceEqDiff, Nat.reduceAdd, or_true, true_or, or_false, false_or, a1, b1, c1, a2, b2, c2, k1, k2, g308_413, g308_427]
theorem lw_c6 (hi : i + 6 ≤ S.1) (hS : S.1 ≤ 3072) (h : RS M L σ) : ∃ σ2 M2 L2, bm_run S (d + 111) 308 432 [some (.retAddr 1000), some (.ref 0), some (.ref 218), some (.int (nI i))] [] σ = bm_run S (d + 111) 308 1534 [some (.retAddr 1000), some (.ref 0), some (.ref 218), some (.int (nI i))] [] σ2 ∧ RS M2 L2 σ2 := by
  obtain ⟨v, σ1, σ2, M2, L2, k1, k2, k3⟩ := p_seed (S := S) (d := d + 100) h (S.2 (i + 1))
  replace k1 : bm_call S (d + 110) 115 [.ref 0, .int (S.2 (i + 1))] σ = some (some v, σ1) := k1
  replace k2 : bm_call S (d + 110) 218 [.ref 218, .int (S.2 (i + 1))] σ1 = some (some v, σ2) := k2
  obtain ⟨x, rfl⟩ := bm_ret_int (m := 115) (by decide +kernel) k1
  obtain ⟨a1, b1, c1⟩ := law_ix hi hS (k := 1) (by decide)
  replace a1 : nI i + (1 : Int32) = nI (i + 1) := a1
  refine ⟨σ2, M2, L2, ?_, k3⟩
  rw [g308_432]
  simp (decide := true) only [bm_run_ite, Option.toList_some, Option.bind_some, Option.toList_some, Option.toList_none, List.cons_append, List.nil_append, List.append_nil, eq_self, not_true_eq_false, not_false_eq_true, ite_true, ite_false, ↓reduceIte, Nat.reduceLT, Nat.reduceEqDiff, Nat.reduceAdd, or_true, true_or, or_false, false_or, a1, b1, c1, k1, k2, g308_441, g308_450]
theorem lw_c7 (hi : i + 6 ≤ S.1) (hS : S.1 ≤ 3072) (h : RS M L σ) : ∃ σ2 M2 L2, bm_run S (d + 111) 308 455 [some (.retAddr 1000), some (.ref 0), some (.ref 218), some (.int (nI i))] [] σ = bm_run S (d + 111) 308 1534 [some (.retAddr 1000), some (.ref 0), some (.ref 218), some (.int (nI i))] [] σ2 ∧ RS M2 L2 σ2 := by
  obtain ⟨v, σ1, σ2, M2, L2, k1, k2, k3⟩ := p_write (S := S) (d := d + 100) h (S.2 (i + 1)) (S.2 (i + 2)) (S.2 (i + 3)) (S.2 (i + 4))
  replace k1 : bm_call S (d + 110) 116 [.ref 0, .int (S.2 (i + 1)), .int (S.2 (i + 2)), .int (S.2 (i + 3)), .int (S.2 (i + 4))] σ = some (some v, σ1) := k1
  replace k2 : bm_call S (d + 110) 219 [.ref 218, .int (S.2 (i + 1)), .int (S.2 (i + 2)), .int (S.2 (i + 3)), .int (S.2 (i + 4))] σ1 = some (some v, σ2) := k2
  obtain ⟨x, rfl⟩ := bm_ret_int (m := 116) (by decide +kernel) k1
  obtain ⟨a1, b1, c1⟩ := law_ix hi hS (k := 1) (by decide)
  replace a1 : nI i + (1 : Int32) = nI (i + 1) := a1
  obtain ⟨a2, b2, c2⟩ := law_ix hi hS (k := 2) (by decide)
  replace a2 : nI i + (2 : Int32) = nI (i + 2) := a2
  obtain ⟨a3, b3, c3⟩ := law_ix hi hS (k := 3) (by decide)
  replace a3 : nI i + (3 : Int32) = nI (i + 3) := a3
  obtain ⟨a4, b4, c4⟩ := law_ix hi hS (k := 4) (by decide)
  replace a4 : nI i + (4 : Int32) = nI (i + 4) := a4
  refine ⟨σ2, M2, L2, ?_, k3⟩
  rw [g308_455]
  simp (decide := true) only [bm_run_ite, Option.toList_some, Option.bind_some, Option.toList_some, Option.toList_none, List.cons_append, List.nil_append, List.append_nil, eq_self, not_true_eq_false, not_false_eq_true, ite_true, ite_false, ↓reduceIte, Nat.reduceLT, Nat.reduceEqDiff, Nat.reduceAdd, or_true, true_or, or_false, false_or, a1, b1, c1, a2, b2, c2, a3, b3, c3, a4, b4, c4, k1, k2, g308_479, g308_503]
theorem lw_c8 (hi : i + 6 ≤ S.1) (hS : S.1 ≤ 3072) (h : RS M L σ) : ∃ σ2 M2 L2, bm_run S (d + 111) 308 508 [some (.retAddr 1000), some (.ref 0), some (.ref 218), some (.int (nI i))] [] σ = bm_run S (d + 111) 308 1534 [some (.retAddr 1000), some (.ref 0), some (.ref 218), some (.int (nI i))] [] σ2 ∧ RS M2 L2 σ2 := by
  obtain ⟨v, σ1, σ2, M2, L2, k1, k2, k3⟩ := p_pay (S := S) (d := d + 100) h (S.2 (i + 1))
  replace k1 : bm_call S (d + 110) 117 [.ref 0, .int (S.2 (i + 1))] σ = some (some v, σ1) := k1
  replace k2 : bm_call S (d + 110) 224 [.ref 218, .int (S.2 (i + 1))] σ1 = some (some v, σ2) := k2
  obtain ⟨x, rfl⟩ := bm_ret_int (m := 117) (by decide +kernel) k1
  obtain ⟨a1, b1, c1⟩ := law_ix hi hS (k := 1) (by decide)
  replace a1 : nI i + (1 : Int32) = nI (i + 1) := a1
  refine ⟨σ2, M2, L2, ?_, k3⟩
  rw [g308_508]
  simp (decide := true) only [bm_run_ite, Option.toList_some, Option.bind_some, Option.toList_some, Option.toList_none, List.cons_append, List.nil_append, List.append_nil, eq_self, not_true_eq_false, not_false_eq_true, ite_true, ite_false, ↓reduceIte, Nat.reduceLT, Nat.reduceEqDiff, Nat.reduceAdd, or_true, true_or, or_false, false_or, a1, b1, c1, k1, k2, g308_517, g308_526]
theorem lw_c9 (hi : i + 6 ≤ S.1) (hS : S.1 ≤ 3072) (h : RS M L σ) : ∃ σ2 M2 L2, bm_run S (d + 111) 308 531 [some (.retAddr 1000), some (.ref 0), some (.ref 218), some (.int (nI i))] [] σ = bm_run S (d + 111) 308 1534 [some (.retAddr 1000), some (.ref 0), some (.ref 218), some (.int (nI i))] [] σ2 ∧ RS M2 L2 σ2 := by
  obtain ⟨v, σ1, σ2, M2, L2, k1, k2, k3⟩ := p_lend (S := S) (d := d + 100) h (S.2 (i + 1)) (S.2 (i + 2)) (S.2 (i + 3))
  replace k1 : bm_call S (d + 110) 118 [.ref 0, .int (S.2 (i + 1)), .int (S.2 (i + 2)), .int (S.2 (i + 3))] σ = some (some v, σ1) := k1
  replace k2 : bm_call S (d + 110) 225 [.ref 218, .int (S.2 (i + 1)), .int (S.2 (i + 2)), .int (S.2 (i + 3))] σ1 = some (some v, σ2) := k2
  obtain ⟨x, rfl⟩ := bm_ret_int (m := 118) (by decide +kernel) k1
  obtain ⟨a1, b1, c1⟩ := law_ix hi hS (k := 1) (by decide)
  replace a1 : nI i + (1 : Int32) = nI (i + 1) := a1
  obtain ⟨a2, b2, c2⟩ := law_ix hi hS (k := 2) (by decide)
  replace a2 : nI i + (2 : Int32) = nI (i + 2) := a2
  obtain ⟨a3, b3, c3⟩ := law_ix hi hS (k := 3) (by decide)
  replace a3 : nI i + (3 : Int32) = nI (i + 3) := a3
  refine ⟨σ2, M2, L2, ?_, k3⟩
  rw [g308_531]
  simp (decide := true) only [bm_run_ite, Option.toList_some, Option.bind_some, Option.toList_some, Option.toList_none, List.cons_append, List.nil_append, List.append_nil, eq_self, not_true_eq_false, not_false_eq_true, ite_true, ite_false, ↓reduceIte, Nat.reduceLT, Nat.reduceEqDiff, Nat.reduceAdd, or_true, true_or, or_false, false_or, a1, b1, c1, a2, b2, c2, a3, b3, c3, k1, k2, g308_550, g308_569]
theorem lw_c10 (hi : i + 6 ≤ S.1) (hS : S.1 ≤ 3072) (h : RS M L σ) : ∃ σ2 M2 L2, bm_run S (d + 111) 308 574 [some (.retAddr 1000), some (.ref 0), some (.ref 218), some (.int (nI i))] [] σ = bm_run S (d + 111) 308 1534 [some (.retAddr 1000), some (.ref 0), some (.ref 218), some (.int (nI i))] [] σ2 ∧ RS M2 L2 σ2 := by
  obtain ⟨v, σ1, σ2, M2, L2, k1, k2, k3⟩ := p_cancel (S := S) (d := d + 100) h (S.2 (i + 1))
  replace k1 : bm_call S (d + 110) 119 [.ref 0, .int (S.2 (i + 1))] σ = some (some v, σ1) := k1
  replace k2 : bm_call S (d + 110) 230 [.ref 218, .int (S.2 (i + 1))] σ1 = some (some v, σ2) := k2
  obtain ⟨x, rfl⟩ := bm_ret_int (m := 119) (by decide +kernel) k1
  obtain ⟨a1, b1, c1⟩ := law_ix hi hS (k := 1) (by decide)
  replace a1 : nI i + (1 : Int32) = nI (i + 1) := a1
  refine ⟨σ2, M2, L2, ?_, k3⟩
  rw [g308_574]
  simp (decide := true) only [bm_run_ite, Option.toList_some, Option.bind_some, Option.toList_some, Option.toList_none, List.cons_append, List.nil_append, List.append_nil, eq_self, not_true_eq_false, not_false_eq_true, ite_true, ite_false, ↓reduceIte, Nat.reduceLT, Nat.reduceEqDiff, Nat.reduceAdd, or_true, true_or, or_false, false_or, a1, b1, c1, k1, k2, g308_583, g308_592]
theorem lw_c11 (hi : i + 6 ≤ S.1) (hS : S.1 ≤ 3072) (h : RS M L σ) : ∃ σ2 M2 L2, bm_run S (d + 111) 308 597 [some (.retAddr 1000), some (.ref 0), some (.ref 218), some (.int (nI i))] [] σ = bm_run S (d + 111) 308 1534 [some (.retAddr 1000), some (.ref 0), some (.ref 218), some (.int (nI i))] [] σ2 ∧ RS M2 L2 σ2 := by
  obtain ⟨v, σ1, σ2, M2, L2, k1, k2, k3⟩ := p_hold (S := S) (d := d + 100) h (S.2 (i + 1)) (decide (¬ S.2 (i + 2) = 0))
  replace k1 : bm_call S (d + 110) 120 [.ref 0, .int (S.2 (i + 1)), .int (bI (decide (¬ S.2 (i + 2) = 0)))] σ = some (some v, σ1) := k1
  replace k2 : bm_call S (d + 110) 231 [.ref 218, .int (S.2 (i + 1)), .int (bI (decide (¬ S.2 (i + 2) = 0)))] σ1 = some (some v, σ2) := k2
  obtain ⟨x, rfl⟩ := bm_ret_int (m := 120) (by decide +kernel) k1
  obtain ⟨a1, b1, c1⟩ := law_ix hi hS (k := 1) (by decide)
  replace a1 : nI i + (1 : Int32) = nI (i + 1) := a1
  obtain ⟨a2, b2, c2⟩ := law_ix hi hS (k := 2) (by decide)
  replace a2 : nI i + (2 : Int32) = nI (i + 2) := a2
  refine ⟨σ2, M2, L2, ?_, k3⟩
  rw [g308_597]
  by_cases z : S.2 (i + 2) = 0
  · have e0 : bI (decide (¬ S.2 (i + 2) = 0)) = 0 := by simp [z, bI]
    rw [e0] at k1 k2
    simp (decide := true) only [bm_run_ite, Option.toList_some, Option.bind_some, Option.toList_some, Option.toList_none, List.cons_append, List.nil_append, List.append_nil, eq_self, not_true_eq_false, not_false_eq_true, ite_true, ite_false, ↓reduceIte, Nat.reduceLT, Nat.reduceEqDiff, Nat.reduceAdd, or_true, true_or, or_false, false_or, a1, b1, c1, a2, b2, c2, z, k1, k2, g308_611, g308_615, g308_616, g308_619, g308_633, g308_637, g308_638, g308_641]
  · have e0 : bI (decide (¬ S.2 (i + 2) = 0)) = 1 := by simp [z, bI]
    rw [e0] at k1 k2
    simp (decide := true) only [bm_run_ite, Option.toList_some, Option.bind_some, Option.toList_some, Option.toList_none, List.cons_append, List.nil_append, List.append_nil, eq_self, not_true_eq_false, not_false_eq_true, ite_true, ite_false, ↓reduceIte, Nat.reduceLT, Nat.reduceEqDiff, Nat.reduceAdd, or_true, true_or, or_false, false_or, a1, b1, c1, a2, b2, c2, z, k1, k2, g308_611, g308_615, g308_616, g308_619, g308_633, g308_637, g308_638, g308_641]
theorem lw_c12 (hi : i + 6 ≤ S.1) (hS : S.1 ≤ 3072) (h : RS M L σ) : ∃ σ2 M2 L2, bm_run S (d + 111) 308 646 [some (.retAddr 1000), some (.ref 0), some (.ref 218), some (.int (nI i))] [] σ = bm_run S (d + 111) 308 1534 [some (.retAddr 1000), some (.ref 0), some (.ref 218), some (.int (nI i))] [] σ2 ∧ RS M2 L2 σ2 := by
  obtain ⟨v, σ1, σ2, M2, L2, k1, k2, k3⟩ := p_undo (S := S) (d := d + 100) h (S.2 (i + 1))
  replace k1 : bm_call S (d + 110) 121 [.ref 0, .int (S.2 (i + 1))] σ = some (some v, σ1) := k1
  replace k2 : bm_call S (d + 110) 232 [.ref 218, .int (S.2 (i + 1))] σ1 = some (some v, σ2) := k2
  obtain ⟨x, rfl⟩ := bm_ret_int (m := 121) (by decide +kernel) k1
  obtain ⟨a1, b1, c1⟩ := law_ix hi hS (k := 1) (by decide)
  replace a1 : nI i + (1 : Int32) = nI (i + 1) := a1
  refine ⟨σ2, M2, L2, ?_, k3⟩
  rw [g308_646]
  simp (decide := true) only [bm_run_ite, Option.toList_some, Option.bind_some, Option.toList_some, Option.toList_none, List.cons_append, List.nil_append, List.append_nil, eq_self, not_true_eq_false, not_false_eq_true, ite_true, ite_false, ↓reduceIte, Nat.reduceLT, Nat.reduceEqDiff, Nat.reduceAdd, or_true, true_or, or_false, false_or, a1, b1, c1, k1, k2, g308_655, g308_664]
theorem lw_c13 (hi : i + 6 ≤ S.1) (hS : S.1 ≤ 3072) (h : RS M L σ) : ∃ σ2 M2 L2, bm_run S (d + 111) 308 669 [some (.retAddr 1000), some (.ref 0), some (.ref 218), some (.int (nI i))] [] σ = bm_run S (d + 111) 308 1534 [some (.retAddr 1000), some (.ref 0), some (.ref 218), some (.int (nI i))] [] σ2 ∧ RS M2 L2 σ2 := by
  obtain ⟨v, σ1, σ2, M2, L2, k1, k2, k3⟩ := p_judge (S := S) (d := d + 100) h (S.2 (i + 1)) (S.2 (i + 2))
  replace k1 : bm_call S (d + 110) 122 [.ref 0, .int (S.2 (i + 1)), .int (S.2 (i + 2))] σ = some (some v, σ1) := k1
  replace k2 : bm_call S (d + 110) 237 [.ref 218, .int (S.2 (i + 1)), .int (S.2 (i + 2))] σ1 = some (some v, σ2) := k2
  obtain ⟨x, rfl⟩ := bm_ret_int (m := 122) (by decide +kernel) k1
  obtain ⟨a1, b1, c1⟩ := law_ix hi hS (k := 1) (by decide)
  replace a1 : nI i + (1 : Int32) = nI (i + 1) := a1
  obtain ⟨a2, b2, c2⟩ := law_ix hi hS (k := 2) (by decide)
  replace a2 : nI i + (2 : Int32) = nI (i + 2) := a2
  refine ⟨σ2, M2, L2, ?_, k3⟩
  rw [g308_669]
  simp (decide := true) only [bm_run_ite, Option.toList_some, Option.bind_some, Option.toList_some, Option.toList_none, List.cons_append, List.nil_append, List.append_nil, eq_self, not_true_eq_false, not_false_eq_true, ite_true, ite_false, ↓reduceIte, Nat.reduceLT, Nat.reduceEqDiff, Nat.reduceAdd, or_true, true_or, or_false, false_or, a1, b1, c1, a2, b2, c2, k1, k2, g308_683, g308_697]
theorem lw_c14 (hi : i + 6 ≤ S.1) (hS : S.1 ≤ 3072) (h : RS M L σ) : ∃ σ2 M2 L2, bm_run S (d + 111) 308 702 [some (.retAddr 1000), some (.ref 0), some (.ref 218), some (.int (nI i))] [] σ = bm_run S (d + 111) 308 1534 [some (.retAddr 1000), some (.ref 0), some (.ref 218), some (.int (nI i))] [] σ2 ∧ RS M2 L2 σ2 := by
  obtain ⟨v, σ1, σ2, M2, L2, k1, k2, k3⟩ := p_perform (S := S) (d := d + 100) h (S.2 (i + 1))
  replace k1 : bm_call S (d + 110) 123 [.ref 0, .int (S.2 (i + 1))] σ = some (some v, σ1) := k1
  replace k2 : bm_call S (d + 110) 238 [.ref 218, .int (S.2 (i + 1))] σ1 = some (some v, σ2) := k2
  obtain ⟨x, rfl⟩ := bm_ret_int (m := 123) (by decide +kernel) k1
  obtain ⟨a1, b1, c1⟩ := law_ix hi hS (k := 1) (by decide)
  replace a1 : nI i + (1 : Int32) = nI (i + 1) := a1
  refine ⟨σ2, M2, L2, ?_, k3⟩
  rw [g308_702]
  simp (decide := true) only [bm_run_ite, Option.toList_some, Option.bind_some, Option.toList_some, Option.toList_none, List.cons_append, List.nil_append, List.append_nil, eq_self, not_true_eq_false, not_false_eq_true, ite_true, ite_false, ↓reduceIte, Nat.reduceLT, Nat.reduceEqDiff, Nat.reduceAdd, or_true, true_or, or_false, false_or, a1, b1, c1, k1, k2, g308_711, g308_720]
theorem lw_c15 (hi : i + 6 ≤ S.1) (hS : S.1 ≤ 3072) (h : RS M L σ) : ∃ σ2 M2 L2, bm_run S (d + 111) 308 725 [some (.retAddr 1000), some (.ref 0), some (.ref 218), some (.int (nI i))] [] σ = bm_run S (d + 111) 308 1534 [some (.retAddr 1000), some (.ref 0), some (.ref 218), some (.int (nI i))] [] σ2 ∧ RS M2 L2 σ2 := by
  obtain ⟨v, σ1, σ2, M2, L2, k1, k2, k3⟩ := p_year (S := S) (d := d + 100) h (S.2 (i + 1)) (S.2 (i + 2))
  replace k1 : bm_call S (d + 110) 124 [.ref 0, .int (S.2 (i + 1)), .int (S.2 (i + 2))] σ = some (some v, σ1) := k1
  replace k2 : bm_call S (d + 110) 240 [.ref 218, .int (S.2 (i + 1)), .int (S.2 (i + 2))] σ1 = some (some v, σ2) := k2
  obtain ⟨x, rfl⟩ := bm_ret_int (m := 124) (by decide +kernel) k1
  obtain ⟨a1, b1, c1⟩ := law_ix hi hS (k := 1) (by decide)
  replace a1 : nI i + (1 : Int32) = nI (i + 1) := a1
  obtain ⟨a2, b2, c2⟩ := law_ix hi hS (k := 2) (by decide)
  replace a2 : nI i + (2 : Int32) = nI (i + 2) := a2
  refine ⟨σ2, M2, L2, ?_, k3⟩
  rw [g308_725]
  simp (decide := true) only [bm_run_ite, Option.toList_some, Option.bind_some, Option.toList_some, Option.toList_none, List.cons_append, List.nil_append, List.append_nil, eq_self, not_true_eq_false, not_false_eq_true, ite_true, ite_false, ↓reduceIte, Nat.reduceLT, Nat.reduceEqDiff, Nat.reduceAdd, or_true, true_or, or_false, false_or, a1, b1, c1, a2, b2, c2, k1, k2, g308_739, g308_753]
theorem lw_c16 (hi : i + 6 ≤ S.1) (hS : S.1 ≤ 3072) (h : RS M L σ) : ∃ σ2 M2 L2, bm_run S (d + 111) 308 758 [some (.retAddr 1000), some (.ref 0), some (.ref 218), some (.int (nI i))] [] σ = bm_run S (d + 111) 308 1534 [some (.retAddr 1000), some (.ref 0), some (.ref 218), some (.int (nI i))] [] σ2 ∧ RS M2 L2 σ2 := by
  obtain ⟨v, σ1, σ2, M2, L2, k1, k2, k3⟩ := p_due (S := S) (d := d + 100) h (S.2 (i + 1))
  replace k1 : bm_call S (d + 110) 125 [.ref 0, .int (S.2 (i + 1))] σ = some (some v, σ1) := k1
  replace k2 : bm_call S (d + 110) 242 [.ref 218, .int (S.2 (i + 1))] σ1 = some (some v, σ2) := k2
  obtain ⟨x, rfl⟩ := bm_ret_int (m := 125) (by decide +kernel) k1
  obtain ⟨a1, b1, c1⟩ := law_ix hi hS (k := 1) (by decide)
  replace a1 : nI i + (1 : Int32) = nI (i + 1) := a1
  refine ⟨σ2, M2, L2, ?_, k3⟩
  rw [g308_758]
  simp (decide := true) only [bm_run_ite, Option.toList_some, Option.bind_some, Option.toList_some, Option.toList_none, List.cons_append, List.nil_append, List.append_nil, eq_self, not_true_eq_false, not_false_eq_true, ite_true, ite_false, ↓reduceIte, Nat.reduceLT, Nat.reduceEqDiff, Nat.reduceAdd, or_true, true_or, or_false, false_or, a1, b1, c1, k1, k2, g308_767, g308_776]
theorem lw_c17 (hi : i + 6 ≤ S.1) (hS : S.1 ≤ 3072) (h : RS M L σ) : ∃ σ2 M2 L2, bm_run S (d + 111) 308 781 [some (.retAddr 1000), some (.ref 0), some (.ref 218), some (.int (nI i))] [] σ = bm_run S (d + 111) 308 1534 [some (.retAddr 1000), some (.ref 0), some (.ref 218), some (.int (nI i))] [] σ2 ∧ RS M2 L2 σ2 := by
  obtain ⟨v, σ1, σ2, M2, L2, k1, k2, k3⟩ := p_net (S := S) (d := d + 100) h (S.2 (i + 1)) (S.2 (i + 2))
  replace k1 : bm_call S (d + 110) 126 [.ref 0, .int (S.2 (i + 1)), .int (S.2 (i + 2))] σ = some (some v, σ1) := k1
  replace k2 : bm_call S (d + 110) 243 [.ref 218, .int (S.2 (i + 1)), .int (S.2 (i + 2))] σ1 = some (some v, σ2) := k2
  obtain ⟨x, rfl⟩ := bm_ret_int (m := 126) (by decide +kernel) k1
  obtain ⟨a1, b1, c1⟩ := law_ix hi hS (k := 1) (by decide)
  replace a1 : nI i + (1 : Int32) = nI (i + 1) := a1
  obtain ⟨a2, b2, c2⟩ := law_ix hi hS (k := 2) (by decide)
  replace a2 : nI i + (2 : Int32) = nI (i + 2) := a2
  refine ⟨σ2, M2, L2, ?_, k3⟩
  rw [g308_781]
  simp (decide := true) only [bm_run_ite, Option.toList_some, Option.bind_some, Option.toList_some, Option.toList_none, List.cons_append, List.nil_append, List.append_nil, eq_self, not_true_eq_false, not_false_eq_true, ite_true, ite_false, ↓reduceIte, Nat.reduceLT, Nat.reduceEqDiff, Nat.reduceAdd, or_true, true_or, or_false, false_or, a1, b1, c1, a2, b2, c2, k1, k2, g308_795, g308_809]
theorem lw_c18 (hi : i + 6 ≤ S.1) (hS : S.1 ≤ 3072) (h : RS M L σ) : ∃ σ2 M2 L2, bm_run S (d + 111) 308 814 [some (.retAddr 1000), some (.ref 0), some (.ref 218), some (.int (nI i))] [] σ = bm_run S (d + 111) 308 1534 [some (.retAddr 1000), some (.ref 0), some (.ref 218), some (.int (nI i))] [] σ2 ∧ RS M2 L2 σ2 := by
  obtain ⟨v, σ1, σ2, M2, L2, k1, k2, k3⟩ := p_coin (S := S) (d := d + 100) h (S.2 (i + 1)) (S.2 (i + 2))
  replace k1 : bm_call S (d + 110) 127 [.ref 0, .int (S.2 (i + 1)), .int (S.2 (i + 2))] σ = some (some v, σ1) := k1
  replace k2 : bm_call S (d + 110) 246 [.ref 218, .int (S.2 (i + 1)), .int (S.2 (i + 2))] σ1 = some (some v, σ2) := k2
  obtain ⟨x, rfl⟩ := bm_ret_int (m := 127) (by decide +kernel) k1
  obtain ⟨a1, b1, c1⟩ := law_ix hi hS (k := 1) (by decide)
  replace a1 : nI i + (1 : Int32) = nI (i + 1) := a1
  obtain ⟨a2, b2, c2⟩ := law_ix hi hS (k := 2) (by decide)
  replace a2 : nI i + (2 : Int32) = nI (i + 2) := a2
  refine ⟨σ2, M2, L2, ?_, k3⟩
  rw [g308_814]
  simp (decide := true) only [bm_run_ite, Option.toList_some, Option.bind_some, Option.toList_some, Option.toList_none, List.cons_append, List.nil_append, List.append_nil, eq_self, not_true_eq_false, not_false_eq_true, ite_true, ite_false, ↓reduceIte, Nat.reduceLT, Nat.reduceEqDiff, Nat.reduceAdd, or_true, true_or, or_false, false_or, a1, b1, c1, a2, b2, c2, k1, k2, g308_828, g308_842]
theorem lw_c19 (hi : i + 6 ≤ S.1) (hS : S.1 ≤ 3072) (h : RS M L σ) : ∃ σ2 M2 L2, bm_run S (d + 111) 308 847 [some (.retAddr 1000), some (.ref 0), some (.ref 218), some (.int (nI i))] [] σ = bm_run S (d + 111) 308 1534 [some (.retAddr 1000), some (.ref 0), some (.ref 218), some (.int (nI i))] [] σ2 ∧ RS M2 L2 σ2 := by
  obtain ⟨v, σ1, σ2, M2, L2, k1, k2, k3⟩ := p_heaviest (S := S) (d := d + 100) h 
  replace k1 : bm_call S (d + 110) 128 [.ref 0] σ = some (some v, σ1) := k1
  replace k2 : bm_call S (d + 110) 247 [.ref 218] σ1 = some (some v, σ2) := k2
  obtain ⟨x, rfl⟩ := bm_ret_int (m := 128) (by decide +kernel) k1
  refine ⟨σ2, M2, L2, ?_, k3⟩
  rw [g308_847]
  simp (decide := true) only [bm_run_ite, Option.toList_some, Option.bind_some, Option.toList_some, Option.toList_none, List.cons_append, List.nil_append, List.append_nil, eq_self, not_true_eq_false, not_false_eq_true, ite_true, ite_false, ↓reduceIte, Nat.reduceLT, Nat.reduceEqDiff, Nat.reduceAdd, or_true, true_or, or_false, false_or, k1, k2, g308_851, g308_855]
theorem lw_c20 (hi : i + 6 ≤ S.1) (hS : S.1 ≤ 3072) (h : RS M L σ) : ∃ σ2 M2 L2, bm_run S (d + 111) 308 860 [some (.retAddr 1000), some (.ref 0), some (.ref 218), some (.int (nI i))] [] σ = bm_run S (d + 111) 308 1534 [some (.retAddr 1000), some (.ref 0), some (.ref 218), some (.int (nI i))] [] σ2 ∧ RS M2 L2 σ2 := by
  obtain ⟨v, σ1, σ2, M2, L2, k1, k2, k3⟩ := p_cashIn (S := S) (d := d + 100) h (S.2 (i + 1)) (S.2 (i + 2))
  replace k1 : bm_call S (d + 110) 129 [.ref 0, .int (S.2 (i + 1)), .int (S.2 (i + 2))] σ = some (some v, σ1) := k1
  replace k2 : bm_call S (d + 110) 249 [.ref 218, .int (S.2 (i + 1)), .int (S.2 (i + 2))] σ1 = some (some v, σ2) := k2
  obtain ⟨x, rfl⟩ := bm_ret_int (m := 129) (by decide +kernel) k1
  obtain ⟨a1, b1, c1⟩ := law_ix hi hS (k := 1) (by decide)
  replace a1 : nI i + (1 : Int32) = nI (i + 1) := a1
  obtain ⟨a2, b2, c2⟩ := law_ix hi hS (k := 2) (by decide)
  replace a2 : nI i + (2 : Int32) = nI (i + 2) := a2
  refine ⟨σ2, M2, L2, ?_, k3⟩
  rw [g308_860]
  simp (decide := true) only [bm_run_ite, Option.toList_some, Option.bind_some, Option.toList_some, Option.toList_none, List.cons_append, List.nil_append, List.append_nil, eq_self, not_true_eq_false, not_false_eq_true, ite_true, ite_false, ↓reduceIte, Nat.reduceLT, Nat.reduceEqDiff, Nat.reduceAdd, or_true, true_or, or_false, false_or, a1, b1, c1, a2, b2, c2, k1, k2, g308_874, g308_888]
theorem lw_c21 (hi : i + 6 ≤ S.1) (hS : S.1 ≤ 3072) (h : RS M L σ) : ∃ σ2 M2 L2, bm_run S (d + 111) 308 893 [some (.retAddr 1000), some (.ref 0), some (.ref 218), some (.int (nI i))] [] σ = bm_run S (d + 111) 308 1534 [some (.retAddr 1000), some (.ref 0), some (.ref 218), some (.int (nI i))] [] σ2 ∧ RS M2 L2 σ2 := by
  obtain ⟨v, σ1, σ2, M2, L2, k1, k2, k3⟩ := p_breaksIn (S := S) (d := d + 100) h (S.2 (i + 1))
  replace k1 : bm_call S (d + 110) 130 [.ref 0, .int (S.2 (i + 1))] σ = some (some v, σ1) := k1
  replace k2 : bm_call S (d + 110) 250 [.ref 218, .int (S.2 (i + 1))] σ1 = some (some v, σ2) := k2
  obtain ⟨x, rfl⟩ := bm_ret_int (m := 130) (by decide +kernel) k1
  obtain ⟨a1, b1, c1⟩ := law_ix hi hS (k := 1) (by decide)
  replace a1 : nI i + (1 : Int32) = nI (i + 1) := a1
  refine ⟨σ2, M2, L2, ?_, k3⟩
  rw [g308_893]
  simp (decide := true) only [bm_run_ite, Option.toList_some, Option.bind_some, Option.toList_some, Option.toList_none, List.cons_append, List.nil_append, List.append_nil, eq_self, not_true_eq_false, not_false_eq_true, ite_true, ite_false, ↓reduceIte, Nat.reduceLT, Nat.reduceEqDiff, Nat.reduceAdd, or_true, true_or, or_false, false_or, a1, b1, c1, k1, k2, g308_902, g308_911]
theorem lw_c22 (hi : i + 6 ≤ S.1) (hS : S.1 ≤ 3072) (h : RS M L σ) : ∃ σ2 M2 L2, bm_run S (d + 111) 308 916 [some (.retAddr 1000), some (.ref 0), some (.ref 218), some (.int (nI i))] [] σ = bm_run S (d + 111) 308 1534 [some (.retAddr 1000), some (.ref 0), some (.ref 218), some (.int (nI i))] [] σ2 ∧ RS M2 L2 σ2 := by
  obtain ⟨v, σ1, σ2, M2, L2, k1, k2, k3⟩ := p_broken (S := S) (d := d + 100) h (S.2 (i + 1))
  replace k1 : bm_call S (d + 110) 131 [.ref 0, .int (S.2 (i + 1))] σ = some (some v, σ1) := k1
  replace k2 : bm_call S (d + 110) 252 [.ref 218, .int (S.2 (i + 1))] σ1 = some (some v, σ2) := k2
  obtain ⟨x, rfl⟩ := bm_ret_int (m := 131) (by decide +kernel) k1
  obtain ⟨a1, b1, c1⟩ := law_ix hi hS (k := 1) (by decide)
  replace a1 : nI i + (1 : Int32) = nI (i + 1) := a1
  refine ⟨σ2, M2, L2, ?_, k3⟩
  rw [g308_916]
  simp (decide := true) only [bm_run_ite, Option.toList_some, Option.bind_some, Option.toList_some, Option.toList_none, List.cons_append, List.nil_append, List.append_nil, eq_self, not_true_eq_false, not_false_eq_true, ite_true, ite_false, ↓reduceIte, Nat.reduceLT, Nat.reduceEqDiff, Nat.reduceAdd, or_true, true_or, or_false, false_or, a1, b1, c1, k1, k2, g308_925, g308_934]
theorem lw_c23 (hi : i + 6 ≤ S.1) (hS : S.1 ≤ 3072) (h : RS M L σ) : ∃ σ2 M2 L2, bm_run S (d + 111) 308 939 [some (.retAddr 1000), some (.ref 0), some (.ref 218), some (.int (nI i))] [] σ = bm_run S (d + 111) 308 1534 [some (.retAddr 1000), some (.ref 0), some (.ref 218), some (.int (nI i))] [] σ2 ∧ RS M2 L2 σ2 := by
  obtain ⟨v, σ1, σ2, M2, L2, k1, k2, k3⟩ := p_chain (S := S) (d := d + 100) h (S.2 (i + 1)) (S.2 (i + 2))
  replace k1 : bm_call S (d + 110) 132 [.ref 0, .int (S.2 (i + 1)), .int (S.2 (i + 2))] σ = some (some v, σ1) := k1
  replace k2 : bm_call S (d + 110) 255 [.ref 218, .int (S.2 (i + 1)), .int (S.2 (i + 2))] σ1 = some (some v, σ2) := k2
  obtain ⟨x, rfl⟩ := bm_ret_int (m := 132) (by decide +kernel) k1
  obtain ⟨a1, b1, c1⟩ := law_ix hi hS (k := 1) (by decide)
  replace a1 : nI i + (1 : Int32) = nI (i + 1) := a1
  obtain ⟨a2, b2, c2⟩ := law_ix hi hS (k := 2) (by decide)
  replace a2 : nI i + (2 : Int32) = nI (i + 2) := a2
  refine ⟨σ2, M2, L2, ?_, k3⟩
  rw [g308_939]
  simp (decide := true) only [bm_run_ite, Option.toList_some, Option.bind_some, Option.toList_some, Option.toList_none, List.cons_append, List.nil_append, List.append_nil, eq_self, not_true_eq_false, not_false_eq_true, ite_true, ite_false, ↓reduceIte, Nat.reduceLT, Nat.reduceEqDiff, Nat.reduceAdd, or_true, true_or, or_false, false_or, a1, b1, c1, a2, b2, c2, k1, k2, g308_953, g308_967]
theorem lw_c24 (hi : i + 6 ≤ S.1) (hS : S.1 ≤ 3072) (h : RS M L σ) : ∃ σ2 M2 L2, bm_run S (d + 111) 308 972 [some (.retAddr 1000), some (.ref 0), some (.ref 218), some (.int (nI i))] [] σ = bm_run S (d + 111) 308 1534 [some (.retAddr 1000), some (.ref 0), some (.ref 218), some (.int (nI i))] [] σ2 ∧ RS M2 L2 σ2 := by
  obtain ⟨v, σ1, σ2, M2, L2, k1, k2, k3⟩ := p_pillar (S := S) (d := d + 100) h (S.2 (i + 1))
  replace k1 : bm_call S (d + 110) 133 [.ref 0, .int (S.2 (i + 1))] σ = some (some v, σ1) := k1
  replace k2 : bm_call S (d + 110) 256 [.ref 218, .int (S.2 (i + 1))] σ1 = some (some v, σ2) := k2
  obtain ⟨x, rfl⟩ := bm_ret_int (m := 133) (by decide +kernel) k1
  obtain ⟨a1, b1, c1⟩ := law_ix hi hS (k := 1) (by decide)
  replace a1 : nI i + (1 : Int32) = nI (i + 1) := a1
  refine ⟨σ2, M2, L2, ?_, k3⟩
  rw [g308_972]
  simp (decide := true) only [bm_run_ite, Option.toList_some, Option.bind_some, Option.toList_some, Option.toList_none, List.cons_append, List.nil_append, List.append_nil, eq_self, not_true_eq_false, not_false_eq_true, ite_true, ite_false, ↓reduceIte, Nat.reduceLT, Nat.reduceEqDiff, Nat.reduceAdd, or_true, true_or, or_false, false_or, a1, b1, c1, k1, k2, g308_981, g308_990]
theorem lw_c25 (hi : i + 6 ≤ S.1) (hS : S.1 ≤ 3072) (h : RS M L σ) : ∃ σ2 M2 L2, bm_run S (d + 111) 308 995 [some (.retAddr 1000), some (.ref 0), some (.ref 218), some (.int (nI i))] [] σ = bm_run S (d + 111) 308 1534 [some (.retAddr 1000), some (.ref 0), some (.ref 218), some (.int (nI i))] [] σ2 ∧ RS M2 L2 σ2 := by
  obtain ⟨v, σ1, σ2, M2, L2, k1, k2, k3⟩ := p_saves (S := S) (d := d + 100) h (S.2 (i + 1)) (S.2 (i + 2))
  replace k1 : bm_call S (d + 110) 134 [.ref 0, .int (S.2 (i + 1)), .int (S.2 (i + 2))] σ = some (some v, σ1) := k1
  replace k2 : bm_call S (d + 110) 258 [.ref 218, .int (S.2 (i + 1)), .int (S.2 (i + 2))] σ1 = some (some v, σ2) := k2
  obtain ⟨x, rfl⟩ := bm_ret_int (m := 134) (by decide +kernel) k1
  obtain ⟨a1, b1, c1⟩ := law_ix hi hS (k := 1) (by decide)
  replace a1 : nI i + (1 : Int32) = nI (i + 1) := a1
  obtain ⟨a2, b2, c2⟩ := law_ix hi hS (k := 2) (by decide)
  replace a2 : nI i + (2 : Int32) = nI (i + 2) := a2
  refine ⟨σ2, M2, L2, ?_, k3⟩
  rw [g308_995]
  simp (decide := true) only [bm_run_ite, Option.toList_some, Option.bind_some, Option.toList_some, Option.toList_none, List.cons_append, List.nil_append, List.append_nil, eq_self, not_true_eq_false, not_false_eq_true, ite_true, ite_false, ↓reduceIte, Nat.reduceLT, Nat.reduceEqDiff, Nat.reduceAdd, or_true, true_or, or_false, false_or, a1, b1, c1, a2, b2, c2, k1, k2, g308_1009, g308_1023]
theorem lw_c26 (hi : i + 6 ≤ S.1) (hS : S.1 ≤ 3072) (h : RS M L σ) : ∃ σ2 M2 L2, bm_run S (d + 111) 308 1028 [some (.retAddr 1000), some (.ref 0), some (.ref 218), some (.int (nI i))] [] σ = bm_run S (d + 111) 308 1534 [some (.retAddr 1000), some (.ref 0), some (.ref 218), some (.int (nI i))] [] σ2 ∧ RS M2 L2 σ2 := by
  obtain ⟨v, σ1, σ2, M2, L2, k1, k2, k3⟩ := p_favour (S := S) (d := d + 100) h (S.2 (i + 1)) (S.2 (i + 2))
  replace k1 : bm_call S (d + 110) 135 [.ref 0, .int (S.2 (i + 1)), .int (S.2 (i + 2))] σ = some (some v, σ1) := k1
  replace k2 : bm_call S (d + 110) 259 [.ref 218, .int (S.2 (i + 1)), .int (S.2 (i + 2))] σ1 = some (some v, σ2) := k2
  obtain ⟨x, rfl⟩ := bm_ret_int (m := 135) (by decide +kernel) k1
  obtain ⟨a1, b1, c1⟩ := law_ix hi hS (k := 1) (by decide)
  replace a1 : nI i + (1 : Int32) = nI (i + 1) := a1
  obtain ⟨a2, b2, c2⟩ := law_ix hi hS (k := 2) (by decide)
  replace a2 : nI i + (2 : Int32) = nI (i + 2) := a2
  refine ⟨σ2, M2, L2, ?_, k3⟩
  rw [g308_1028]
  simp (decide := true) only [bm_run_ite, Option.toList_some, Option.bind_some, Option.toList_some, Option.toList_none, List.cons_append, List.nil_append, List.append_nil, eq_self, not_true_eq_false, not_false_eq_true, ite_true, ite_false, ↓reduceIte, Nat.reduceLT, Nat.reduceEqDiff, Nat.reduceAdd, or_true, true_or, or_false, false_or, a1, b1, c1, a2, b2, c2, k1, k2, g308_1042, g308_1056]
theorem lw_c27 (hi : i + 6 ≤ S.1) (hS : S.1 ≤ 3072) (h : RS M L σ) : ∃ σ2 M2 L2, bm_run S (d + 111) 308 1061 [some (.retAddr 1000), some (.ref 0), some (.ref 218), some (.int (nI i))] [] σ = bm_run S (d + 111) 308 1534 [some (.retAddr 1000), some (.ref 0), some (.ref 218), some (.int (nI i))] [] σ2 ∧ RS M2 L2 σ2 := by
  obtain ⟨v, σ1, σ2, M2, L2, k1, k2, k3⟩ := p_rings (S := S) (d := d + 100) h 
  replace k1 : bm_call S (d + 110) 136 [.ref 0] σ = some (some v, σ1) := k1
  replace k2 : bm_call S (d + 110) 263 [.ref 218] σ1 = some (some v, σ2) := k2
  obtain ⟨x, rfl⟩ := bm_ret_int (m := 136) (by decide +kernel) k1
  refine ⟨σ2, M2, L2, ?_, k3⟩
  rw [g308_1061]
  simp (decide := true) only [bm_run_ite, Option.toList_some, Option.bind_some, Option.toList_some, Option.toList_none, List.cons_append, List.nil_append, List.append_nil, eq_self, not_true_eq_false, not_false_eq_true, ite_true, ite_false, ↓reduceIte, Nat.reduceLT, Nat.reduceEqDiff, Nat.reduceAdd, or_true, true_or, or_false, false_or, k1, k2, g308_1065, g308_1069]
theorem lw_c28 (hi : i + 6 ≤ S.1) (hS : S.1 ≤ 3072) (h : RS M L σ) : ∃ σ2 M2 L2, bm_run S (d + 111) 308 1074 [some (.retAddr 1000), some (.ref 0), some (.ref 218), some (.int (nI i))] [] σ = bm_run S (d + 111) 308 1534 [some (.retAddr 1000), some (.ref 0), some (.ref 218), some (.int (nI i))] [] σ2 ∧ RS M2 L2 σ2 := by
  obtain ⟨v, σ1, σ2, M2, L2, k1, k2, k3⟩ := p_ring (S := S) (d := d + 100) h (S.2 (i + 1))
  replace k1 : bm_call S (d + 110) 137 [.ref 0, .int (S.2 (i + 1))] σ = some (some v, σ1) := k1
  replace k2 : bm_call S (d + 110) 264 [.ref 218, .int (S.2 (i + 1))] σ1 = some (some v, σ2) := k2
  obtain ⟨x, rfl⟩ := bm_ret_int (m := 137) (by decide +kernel) k1
  obtain ⟨a1, b1, c1⟩ := law_ix hi hS (k := 1) (by decide)
  replace a1 : nI i + (1 : Int32) = nI (i + 1) := a1
  refine ⟨σ2, M2, L2, ?_, k3⟩
  rw [g308_1074]
  simp (decide := true) only [bm_run_ite, Option.toList_some, Option.bind_some, Option.toList_some, Option.toList_none, List.cons_append, List.nil_append, List.append_nil, eq_self, not_true_eq_false, not_false_eq_true, ite_true, ite_false, ↓reduceIte, Nat.reduceLT, Nat.reduceEqDiff, Nat.reduceAdd, or_true, true_or, or_false, false_or, a1, b1, c1, k1, k2, g308_1083, g308_1092]
theorem lw_c29 (hi : i + 6 ≤ S.1) (hS : S.1 ≤ 3072) (h : RS M L σ) : ∃ σ2 M2 L2, bm_run S (d + 111) 308 1097 [some (.retAddr 1000), some (.ref 0), some (.ref 218), some (.int (nI i))] [] σ = bm_run S (d + 111) 308 1534 [some (.retAddr 1000), some (.ref 0), some (.ref 218), some (.int (nI i))] [] σ2 ∧ RS M2 L2 σ2 := by
  obtain ⟨v, σ1, σ2, M2, L2, k1, k2, k3⟩ := p_hangs (S := S) (d := d + 100) h (S.2 (i + 1))
  replace k1 : bm_call S (d + 110) 138 [.ref 0, .int (S.2 (i + 1))] σ = some (some v, σ1) := k1
  replace k2 : bm_call S (d + 110) 265 [.ref 218, .int (S.2 (i + 1))] σ1 = some (some v, σ2) := k2
  obtain ⟨x, rfl⟩ := bm_ret_int (m := 138) (by decide +kernel) k1
  obtain ⟨a1, b1, c1⟩ := law_ix hi hS (k := 1) (by decide)
  replace a1 : nI i + (1 : Int32) = nI (i + 1) := a1
  refine ⟨σ2, M2, L2, ?_, k3⟩
  rw [g308_1097]
  simp (decide := true) only [bm_run_ite, Option.toList_some, Option.bind_some, Option.toList_some, Option.toList_none, List.cons_append, List.nil_append, List.append_nil, eq_self, not_true_eq_false, not_false_eq_true, ite_true, ite_false, ↓reduceIte, Nat.reduceLT, Nat.reduceEqDiff, Nat.reduceAdd, or_true, true_or, or_false, false_or, a1, b1, c1, k1, k2, g308_1106, g308_1115]
theorem lw_c30 (hi : i + 6 ≤ S.1) (hS : S.1 ≤ 3072) (h : RS M L σ) : ∃ σ2 M2 L2, bm_run S (d + 111) 308 1120 [some (.retAddr 1000), some (.ref 0), some (.ref 218), some (.int (nI i))] [] σ = bm_run S (d + 111) 308 1534 [some (.retAddr 1000), some (.ref 0), some (.ref 218), some (.int (nI i))] [] σ2 ∧ RS M2 L2 σ2 := by
  obtain ⟨v, σ1, σ2, M2, L2, k1, k2, k3⟩ := p_calm (S := S) (d := d + 100) h 
  replace k1 : bm_call S (d + 110) 139 [.ref 0] σ = some (some v, σ1) := k1
  replace k2 : bm_call S (d + 110) 268 [.ref 218] σ1 = some (some v, σ2) := k2
  obtain ⟨x, rfl⟩ := bm_ret_int (m := 139) (by decide +kernel) k1
  refine ⟨σ2, M2, L2, ?_, k3⟩
  rw [g308_1120]
  simp (decide := true) only [bm_run_ite, Option.toList_some, Option.bind_some, Option.toList_some, Option.toList_none, List.cons_append, List.nil_append, List.append_nil, eq_self, not_true_eq_false, not_false_eq_true, ite_true, ite_false, ↓reduceIte, Nat.reduceLT, Nat.reduceEqDiff, Nat.reduceAdd, or_true, true_or, or_false, false_or, k1, k2, g308_1124, g308_1128]
theorem lw_c31 (hi : i + 6 ≤ S.1) (hS : S.1 ≤ 3072) (h : RS M L σ) : ∃ σ2 M2 L2, bm_run S (d + 111) 308 1133 [some (.retAddr 1000), some (.ref 0), some (.ref 218), some (.int (nI i))] [] σ = bm_run S (d + 111) 308 1534 [some (.retAddr 1000), some (.ref 0), some (.ref 218), some (.int (nI i))] [] σ2 ∧ RS M2 L2 σ2 := by
  obtain ⟨v, σ1, σ2, M2, L2, k1, k2, k3⟩ := p_danger (S := S) (d := d + 100) h (S.2 (i + 1))
  replace k1 : bm_call S (d + 110) 140 [.ref 0, .int (S.2 (i + 1))] σ = some (some v, σ1) := k1
  replace k2 : bm_call S (d + 110) 269 [.ref 218, .int (S.2 (i + 1))] σ1 = some (some v, σ2) := k2
  obtain ⟨x, rfl⟩ := bm_ret_int (m := 140) (by decide +kernel) k1
  obtain ⟨a1, b1, c1⟩ := law_ix hi hS (k := 1) (by decide)
  replace a1 : nI i + (1 : Int32) = nI (i + 1) := a1
  refine ⟨σ2, M2, L2, ?_, k3⟩
  rw [g308_1133]
  simp (decide := true) only [bm_run_ite, Option.toList_some, Option.bind_some, Option.toList_some, Option.toList_none, List.cons_append, List.nil_append, List.append_nil, eq_self, not_true_eq_false, not_false_eq_true, ite_true, ite_false, ↓reduceIte, Nat.reduceLT, Nat.reduceEqDiff, Nat.reduceAdd, or_true, true_or, or_false, false_or, a1, b1, c1, k1, k2, g308_1142, g308_1151]
theorem lw_c32 (hi : i + 6 ≤ S.1) (hS : S.1 ≤ 3072) (h : RS M L σ) : ∃ σ2 M2 L2, bm_run S (d + 111) 308 1156 [some (.retAddr 1000), some (.ref 0), some (.ref 218), some (.int (nI i))] [] σ = bm_run S (d + 111) 308 1534 [some (.retAddr 1000), some (.ref 0), some (.ref 218), some (.int (nI i))] [] σ2 ∧ RS M2 L2 σ2 := by
  obtain ⟨v, σ1, σ2, M2, L2, k1, k2, k3⟩ := p_vital (S := S) (d := d + 100) h 
  replace k1 : bm_call S (d + 110) 141 [.ref 0] σ = some (some v, σ1) := k1
  replace k2 : bm_call S (d + 110) 270 [.ref 218] σ1 = some (some v, σ2) := k2
  obtain ⟨x, rfl⟩ := bm_ret_int (m := 141) (by decide +kernel) k1
  refine ⟨σ2, M2, L2, ?_, k3⟩
  rw [g308_1156]
  simp (decide := true) only [bm_run_ite, Option.toList_some, Option.bind_some, Option.toList_some, Option.toList_none, List.cons_append, List.nil_append, List.append_nil, eq_self, not_true_eq_false, not_false_eq_true, ite_true, ite_false, ↓reduceIte, Nat.reduceLT, Nat.reduceEqDiff, Nat.reduceAdd, or_true, true_or, or_false, false_or, k1, k2, g308_1160, g308_1164]
theorem lw_c33 (hi : i + 6 ≤ S.1) (hS : S.1 ≤ 3072) (h : RS M L σ) : ∃ σ2 M2 L2, bm_run S (d + 111) 308 1169 [some (.retAddr 1000), some (.ref 0), some (.ref 218), some (.int (nI i))] [] σ = bm_run S (d + 111) 308 1534 [some (.retAddr 1000), some (.ref 0), some (.ref 218), some (.int (nI i))] [] σ2 ∧ RS M2 L2 σ2 := by
  obtain ⟨v, σ1, σ2, M2, L2, k1, k2, k3⟩ := p_changing (S := S) (d := d + 90) h (S.2 (i + 1)) (S.2 (i + 2)) (S.2 (i + 3)) (S.2 (i + 4))
  replace k1 : bm_call S (d + 110) 142 [.ref 0, .int (S.2 (i + 1)), .int (S.2 (i + 2)), .int (S.2 (i + 3)), .int (S.2 (i + 4))] σ = some (some v, σ1) := k1
  replace k2 : bm_call S (d + 110) 272 [.ref 218, .int (S.2 (i + 1)), .int (S.2 (i + 2)), .int (S.2 (i + 3)), .int (S.2 (i + 4))] σ1 = some (some v, σ2) := k2
  obtain ⟨x, rfl⟩ := bm_ret_long (m := 142) (by decide +kernel) k1
  obtain ⟨a1, b1, c1⟩ := law_ix hi hS (k := 1) (by decide)
  replace a1 : nI i + (1 : Int32) = nI (i + 1) := a1
  obtain ⟨a2, b2, c2⟩ := law_ix hi hS (k := 2) (by decide)
  replace a2 : nI i + (2 : Int32) = nI (i + 2) := a2
  obtain ⟨a3, b3, c3⟩ := law_ix hi hS (k := 3) (by decide)
  replace a3 : nI i + (3 : Int32) = nI (i + 3) := a3
  obtain ⟨a4, b4, c4⟩ := law_ix hi hS (k := 4) (by decide)
  replace a4 : nI i + (4 : Int32) = nI (i + 4) := a4
  refine ⟨σ2, M2, L2, ?_, k3⟩
  rw [g308_1169]
  simp (decide := true) only [bm_run_ite, Option.toList_some, Option.bind_some, Option.toList_some, Option.toList_none, List.cons_append, List.nil_append, List.append_nil, eq_self, not_true_eq_false, not_false_eq_true, ite_true, ite_false, ↓reduceIte, Nat.reduceLT, Nat.reduceEqDiff, Nat.reduceAdd, or_true, true_or, or_false, false_or, a1, b1, c1, a2, b2, c2, a3, b3, c3, a4, b4, c4, lcmp_s, k1, k2, g308_1193, g308_1217]
theorem lw_c34 (hi : i + 6 ≤ S.1) (hS : S.1 ≤ 3072) (h : RS M L σ) : ∃ σ2 M2 L2, bm_run S (d + 111) 308 1223 [some (.retAddr 1000), some (.ref 0), some (.ref 218), some (.int (nI i))] [] σ = bm_run S (d + 111) 308 1534 [some (.retAddr 1000), some (.ref 0), some (.ref 218), some (.int (nI i))] [] σ2 ∧ RS M2 L2 σ2 := by
  obtain ⟨v, σ1, σ2, M2, L2, k1, k2, k3⟩ := p_interest (S := S) (d := d + 100) h (S.2 (i + 1)) (S.2 (i + 2))
  replace k1 : bm_call S (d + 110) 143 [.ref 0, .int (S.2 (i + 1)), .int (S.2 (i + 2))] σ = some (some v, σ1) := k1
  replace k2 : bm_call S (d + 110) 273 [.ref 218, .int (S.2 (i + 1)), .int (S.2 (i + 2))] σ1 = some (some v, σ2) := k2
  obtain ⟨x, rfl⟩ := bm_ret_int (m := 143) (by decide +kernel) k1
  obtain ⟨a1, b1, c1⟩ := law_ix hi hS (k := 1) (by decide)
  replace a1 : nI i + (1 : Int32) = nI (i + 1) := a1
  obtain ⟨a2, b2, c2⟩ := law_ix hi hS (k := 2) (by decide)
  replace a2 : nI i + (2 : Int32) = nI (i + 2) := a2
  refine ⟨σ2, M2, L2, ?_, k3⟩
  rw [g308_1223]
  simp (decide := true) only [bm_run_ite, Option.toList_some, Option.bind_some, Option.toList_some, Option.toList_none, List.cons_append, List.nil_append, List.append_nil, eq_self, not_true_eq_false, not_false_eq_true, ite_true, ite_false, ↓reduceIte, Nat.reduceLT, Nat.reduceEqDiff, Nat.reduceAdd, or_true, true_or, or_false, false_or, a1, b1, c1, a2, b2, c2, k1, k2, g308_1237, g308_1251]
theorem lw_c35 (hi : i + 6 ≤ S.1) (hS : S.1 ≤ 3072) (h : RS M L σ) : ∃ σ2 M2 L2, bm_run S (d + 111) 308 1256 [some (.retAddr 1000), some (.ref 0), some (.ref 218), some (.int (nI i))] [] σ = bm_run S (d + 111) 308 1534 [some (.retAddr 1000), some (.ref 0), some (.ref 218), some (.int (nI i))] [] σ2 ∧ RS M2 L2 σ2 := by
  obtain ⟨v, σ1, σ2, M2, L2, k1, k2, k3⟩ := p_dearest (S := S) (d := d + 100) h (S.2 (i + 1))
  replace k1 : bm_call S (d + 110) 144 [.ref 0, .int (S.2 (i + 1))] σ = some (some v, σ1) := k1
  replace k2 : bm_call S (d + 110) 274 [.ref 218, .int (S.2 (i + 1))] σ1 = some (some v, σ2) := k2
  obtain ⟨x, rfl⟩ := bm_ret_int (m := 144) (by decide +kernel) k1
  obtain ⟨a1, b1, c1⟩ := law_ix hi hS (k := 1) (by decide)
  replace a1 : nI i + (1 : Int32) = nI (i + 1) := a1
  refine ⟨σ2, M2, L2, ?_, k3⟩
  rw [g308_1256]
  simp (decide := true) only [bm_run_ite, Option.toList_some, Option.bind_some, Option.toList_some, Option.toList_none, List.cons_append, List.nil_append, List.append_nil, eq_self, not_true_eq_false, not_false_eq_true, ite_true, ite_false, ↓reduceIte, Nat.reduceLT, Nat.reduceEqDiff, Nat.reduceAdd, or_true, true_or, or_false, false_or, a1, b1, c1, k1, k2, g308_1265, g308_1274]
theorem lw_c36 (hi : i + 6 ≤ S.1) (hS : S.1 ≤ 3072) (h : RS M L σ) : ∃ σ2 M2 L2, bm_run S (d + 111) 308 1279 [some (.retAddr 1000), some (.ref 0), some (.ref 218), some (.int (nI i))] [] σ = bm_run S (d + 111) 308 1534 [some (.retAddr 1000), some (.ref 0), some (.ref 218), some (.int (nI i))] [] σ2 ∧ RS M2 L2 σ2 := by
  obtain ⟨v, σ1, σ2, M2, L2, k1, k2, k3⟩ := p_missing (S := S) (d := d + 100) h (S.2 (i + 1))
  replace k1 : bm_call S (d + 110) 145 [.ref 0, .int (S.2 (i + 1))] σ = some (some v, σ1) := k1
  replace k2 : bm_call S (d + 110) 277 [.ref 218, .int (S.2 (i + 1))] σ1 = some (some v, σ2) := k2
  obtain ⟨x, rfl⟩ := bm_ret_int (m := 145) (by decide +kernel) k1
  obtain ⟨a1, b1, c1⟩ := law_ix hi hS (k := 1) (by decide)
  replace a1 : nI i + (1 : Int32) = nI (i + 1) := a1
  refine ⟨σ2, M2, L2, ?_, k3⟩
  rw [g308_1279]
  simp (decide := true) only [bm_run_ite, Option.toList_some, Option.bind_some, Option.toList_some, Option.toList_none, List.cons_append, List.nil_append, List.append_nil, eq_self, not_true_eq_false, not_false_eq_true, ite_true, ite_false, ↓reduceIte, Nat.reduceLT, Nat.reduceEqDiff, Nat.reduceAdd, or_true, true_or, or_false, false_or, a1, b1, c1, k1, k2, g308_1288, g308_1297]
theorem lw_c37 (hi : i + 6 ≤ S.1) (hS : S.1 ≤ 3072) (h : RS M L σ) : ∃ σ2 M2 L2, bm_run S (d + 111) 308 1302 [some (.retAddr 1000), some (.ref 0), some (.ref 218), some (.int (nI i))] [] σ = bm_run S (d + 111) 308 1534 [some (.retAddr 1000), some (.ref 0), some (.ref 218), some (.int (nI i))] [] σ2 ∧ RS M2 L2 σ2 := by
  obtain ⟨v, σ1, σ2, M2, L2, k1, k2, k3⟩ := p_look (S := S) (d := d + 100) h (S.2 (i + 1))
  replace k1 : bm_call S (d + 110) 146 [.ref 0, .int (S.2 (i + 1))] σ = some (some v, σ1) := k1
  replace k2 : bm_call S (d + 110) 278 [.ref 218, .int (S.2 (i + 1))] σ1 = some (some v, σ2) := k2
  obtain ⟨x, rfl⟩ := bm_ret_int (m := 146) (by decide +kernel) k1
  obtain ⟨a1, b1, c1⟩ := law_ix hi hS (k := 1) (by decide)
  replace a1 : nI i + (1 : Int32) = nI (i + 1) := a1
  refine ⟨σ2, M2, L2, ?_, k3⟩
  rw [g308_1302]
  simp (decide := true) only [bm_run_ite, Option.toList_some, Option.bind_some, Option.toList_some, Option.toList_none, List.cons_append, List.nil_append, List.append_nil, eq_self, not_true_eq_false, not_false_eq_true, ite_true, ite_false, ↓reduceIte, Nat.reduceLT, Nat.reduceEqDiff, Nat.reduceAdd, or_true, true_or, or_false, false_or, a1, b1, c1, k1, k2, g308_1311, g308_1320]
theorem lw_c38 (hi : i + 6 ≤ S.1) (hS : S.1 ≤ 3072) (h : RS M L σ) : ∃ σ2 M2 L2, bm_run S (d + 111) 308 1325 [some (.retAddr 1000), some (.ref 0), some (.ref 218), some (.int (nI i))] [] σ = bm_run S (d + 111) 308 1534 [some (.retAddr 1000), some (.ref 0), some (.ref 218), some (.int (nI i))] [] σ2 ∧ RS M2 L2 σ2 := by
  obtain ⟨v, σ1, σ2, M2, L2, k1, k2, k3⟩ := p_numbers (S := S) (d := d + 100) h (S.2 (i + 1)) (S.2 (i + 2)) (S.2 (i + 3))
  replace k1 : bm_call S (d + 110) 147 [.ref 0, .int (S.2 (i + 1)), .int (S.2 (i + 2)), .int (S.2 (i + 3))] σ = some (some v, σ1) := k1
  replace k2 : bm_call S (d + 110) 280 [.ref 218, .int (S.2 (i + 1)), .int (S.2 (i + 2)), .int (S.2 (i + 3))] σ1 = some (some v, σ2) := k2
  obtain ⟨x, rfl⟩ := bm_ret_int (m := 147) (by decide +kernel) k1
  obtain ⟨a1, b1, c1⟩ := law_ix hi hS (k := 1) (by decide)
  replace a1 : nI i + (1 : Int32) = nI (i + 1) := a1
  obtain ⟨a2, b2, c2⟩ := law_ix hi hS (k := 2) (by decide)
  replace a2 : nI i + (2 : Int32) = nI (i + 2) := a2
  obtain ⟨a3, b3, c3⟩ := law_ix hi hS (k := 3) (by decide)
  replace a3 : nI i + (3 : Int32) = nI (i + 3) := a3
  refine ⟨σ2, M2, L2, ?_, k3⟩
  rw [g308_1325]
  simp (decide := true) only [bm_run_ite, Option.toList_some, Option.bind_some, Option.toList_some, Option.toList_none, List.cons_append, List.nil_append, List.append_nil, eq_self, not_true_eq_false, not_false_eq_true, ite_true, ite_false, ↓reduceIte, Nat.reduceLT, Nat.reduceEqDiff, Nat.reduceAdd, or_true, true_or, or_false, false_or, a1, b1, c1, a2, b2, c2, a3, b3, c3, k1, k2, g308_1344, g308_1363]
theorem lw_c39 (hi : i + 6 ≤ S.1) (hS : S.1 ≤ 3072) (h : RS M L σ) : ∃ σ2 M2 L2, bm_run S (d + 111) 308 1368 [some (.retAddr 1000), some (.ref 0), some (.ref 218), some (.int (nI i))] [] σ = bm_run S (d + 111) 308 1534 [some (.retAddr 1000), some (.ref 0), some (.ref 218), some (.int (nI i))] [] σ2 ∧ RS M2 L2 σ2 := by
  obtain ⟨v, σ1, σ2, M2, L2, k1, k2, k3⟩ := p_put (S := S) (d := d + 100) h (S.2 (i + 1)) (S.2 (i + 2)) (((S.2 (i + 3)).toInt64 <<< ((Int32.toInt64 32) &&& 63)) ||| ((S.2 (i + 4)).toInt64 &&& 4294967295))
  replace k1 : bm_call S (d + 110) 148 [.ref 0, .int (S.2 (i + 1)), .int (S.2 (i + 2)), .long (((S.2 (i + 3)).toInt64 <<< ((Int32.toInt64 32) &&& 63)) ||| ((S.2 (i + 4)).toInt64 &&& 4294967295))] σ = some (some v, σ1) := k1
  replace k2 : bm_call S (d + 110) 281 [.ref 218, .int (S.2 (i + 1)), .int (S.2 (i + 2)), .long (((S.2 (i + 3)).toInt64 <<< ((Int32.toInt64 32) &&& 63)) ||| ((S.2 (i + 4)).toInt64 &&& 4294967295))] σ1 = some (some v, σ2) := k2
  obtain ⟨x, rfl⟩ := bm_ret_long (m := 148) (by decide +kernel) k1
  obtain ⟨a1, b1, c1⟩ := law_ix hi hS (k := 1) (by decide)
  replace a1 : nI i + (1 : Int32) = nI (i + 1) := a1
  obtain ⟨a2, b2, c2⟩ := law_ix hi hS (k := 2) (by decide)
  replace a2 : nI i + (2 : Int32) = nI (i + 2) := a2
  obtain ⟨a3, b3, c3⟩ := law_ix hi hS (k := 3) (by decide)
  replace a3 : nI i + (3 : Int32) = nI (i + 3) := a3
  obtain ⟨a4, b4, c4⟩ := law_ix hi hS (k := 4) (by decide)
  replace a4 : nI i + (4 : Int32) = nI (i + 4) := a4
  refine ⟨σ2, M2, L2, ?_, k3⟩
  rw [g308_1368]
  simp (decide := true) only [bm_run_ite, Option.toList_some, Option.bind_some, Option.toList_some, Option.toList_none, List.cons_append, List.nil_append, List.append_nil, eq_self, not_true_eq_false, not_false_eq_true, ite_true, ite_false, ↓reduceIte, Nat.reduceLT, Nat.reduceEqDiff, Nat.reduceAdd, or_true, true_or, or_false, false_or, a1, b1, c1, a2, b2, c2, a3, b3, c3, a4, b4, c4, lcmp_s, k1, k2, g308_1402, g308_1436]
theorem lw_c40 (hi : i + 6 ≤ S.1) (hS : S.1 ≤ 3072) (h : RS M L σ) : ∃ σ2 M2 L2, bm_run S (d + 111) 308 1442 [some (.retAddr 1000), some (.ref 0), some (.ref 218), some (.int (nI i))] [] σ = bm_run S (d + 111) 308 1534 [some (.retAddr 1000), some (.ref 0), some (.ref 218), some (.int (nI i))] [] σ2 ∧ RS M2 L2 σ2 := by
  obtain ⟨v, σ1, σ2, M2, L2, k1, k2, k3⟩ := p_lists (S := S) (d := d + 100) h (S.2 (i + 1))
  replace k1 : bm_call S (d + 110) 149 [.ref 0, .int (S.2 (i + 1))] σ = some (some v, σ1) := k1
  replace k2 : bm_call S (d + 110) 282 [.ref 218, .int (S.2 (i + 1))] σ1 = some (some v, σ2) := k2
  obtain ⟨x, rfl⟩ := bm_ret_int (m := 149) (by decide +kernel) k1
  obtain ⟨a1, b1, c1⟩ := law_ix hi hS (k := 1) (by decide)
  replace a1 : nI i + (1 : Int32) = nI (i + 1) := a1
  refine ⟨σ2, M2, L2, ?_, k3⟩
  rw [g308_1442]
  simp (decide := true) only [bm_run_ite, Option.toList_some, Option.bind_some, Option.toList_some, Option.toList_none, List.cons_append, List.nil_append, List.append_nil, eq_self, not_true_eq_false, not_false_eq_true, ite_true, ite_false, ↓reduceIte, Nat.reduceLT, Nat.reduceEqDiff, Nat.reduceAdd, or_true, true_or, or_false, false_or, a1, b1, c1, k1, k2, g308_1451, g308_1460]
theorem lw_c41 (hi : i + 6 ≤ S.1) (hS : S.1 ≤ 3072) (h : RS M L σ) : ∃ σ2 M2 L2, bm_run S (d + 111) 308 1465 [some (.retAddr 1000), some (.ref 0), some (.ref 218), some (.int (nI i))] [] σ = bm_run S (d + 111) 308 1534 [some (.retAddr 1000), some (.ref 0), some (.ref 218), some (.int (nI i))] [] σ2 ∧ RS M2 L2 σ2 := by
  obtain ⟨v, σ1, σ2, M2, L2, k1, k2, k3⟩ := p_image (S := S) (d := d + 100) h (S.2 (i + 1))
  replace k1 : bm_call S (d + 110) 150 [.ref 0, .int (S.2 (i + 1))] σ = some (some v, σ1) := k1
  replace k2 : bm_call S (d + 110) 283 [.ref 218, .int (S.2 (i + 1))] σ1 = some (some v, σ2) := k2
  obtain ⟨x, rfl⟩ := bm_ret_int (m := 150) (by decide +kernel) k1
  obtain ⟨a1, b1, c1⟩ := law_ix hi hS (k := 1) (by decide)
  replace a1 : nI i + (1 : Int32) = nI (i + 1) := a1
  refine ⟨σ2, M2, L2, ?_, k3⟩
  rw [g308_1465]
  simp (decide := true) only [bm_run_ite, Option.toList_some, Option.bind_some, Option.toList_some, Option.toList_none, List.cons_append, List.nil_append, List.append_nil, eq_self, not_true_eq_false, not_false_eq_true, ite_true, ite_false, ↓reduceIte, Nat.reduceLT, Nat.reduceEqDiff, Nat.reduceAdd, or_true, true_or, or_false, false_or, a1, b1, c1, k1, k2, g308_1474, g308_1483]
theorem lw_c42 (hi : i + 6 ≤ S.1) (hS : S.1 ≤ 3072) (h : RS M L σ) : ∃ σ2 M2 L2, bm_run S (d + 111) 308 1488 [some (.retAddr 1000), some (.ref 0), some (.ref 218), some (.int (nI i))] [] σ = bm_run S (d + 111) 308 1534 [some (.retAddr 1000), some (.ref 0), some (.ref 218), some (.int (nI i))] [] σ2 ∧ RS M2 L2 σ2 := by
  obtain ⟨v, σ1, σ2, M2, L2, k1, k2, k3⟩ := p_restore (S := S) (d := d + 100) h (S.2 (i + 1))
  replace k1 : bm_call S (d + 110) 151 [.ref 0, .int (S.2 (i + 1))] σ = some (some v, σ1) := k1
  replace k2 : bm_call S (d + 110) 284 [.ref 218, .int (S.2 (i + 1))] σ1 = some (some v, σ2) := k2
  obtain ⟨x, rfl⟩ := bm_ret_int (m := 151) (by decide +kernel) k1
  obtain ⟨a1, b1, c1⟩ := law_ix hi hS (k := 1) (by decide)
  replace a1 : nI i + (1 : Int32) = nI (i + 1) := a1
  refine ⟨σ2, M2, L2, ?_, k3⟩
  rw [g308_1488]
  simp (decide := true) only [bm_run_ite, Option.toList_some, Option.bind_some, Option.toList_some, Option.toList_none, List.cons_append, List.nil_append, List.append_nil, eq_self, not_true_eq_false, not_false_eq_true, ite_true, ite_false, ↓reduceIte, Nat.reduceLT, Nat.reduceEqDiff, Nat.reduceAdd, or_true, true_or, or_false, false_or, a1, b1, c1, k1, k2, g308_1497, g308_1506]
theorem lw_c43 (hi : i + 6 ≤ S.1) (hS : S.1 ≤ 3072) (h : RS M L σ) : ∃ σ2 M2 L2, bm_run S (d + 111) 308 1511 [some (.retAddr 1000), some (.ref 0), some (.ref 218), some (.int (nI i))] [] σ = bm_run S (d + 111) 308 1534 [some (.retAddr 1000), some (.ref 0), some (.ref 218), some (.int (nI i))] [] σ2 ∧ RS M2 L2 σ2 := by
  obtain ⟨v, σ1, σ2, M2, L2, k1, k2, k3⟩ := p_count (S := S) (d := d + 100) h (S.2 (i + 1))
  replace k1 : bm_call S (d + 110) 152 [.ref 0, .int (S.2 (i + 1))] σ = some (some v, σ1) := k1
  replace k2 : bm_call S (d + 110) 287 [.ref 218, .int (S.2 (i + 1))] σ1 = some (some v, σ2) := k2
  obtain ⟨x, rfl⟩ := bm_ret_int (m := 152) (by decide +kernel) k1
  obtain ⟨a1, b1, c1⟩ := law_ix hi hS (k := 1) (by decide)
  replace a1 : nI i + (1 : Int32) = nI (i + 1) := a1
  refine ⟨σ2, M2, L2, ?_, k3⟩
  rw [g308_1511]
  simp (decide := true) only [bm_run_ite, Option.toList_some, Option.bind_some, Option.toList_some, Option.toList_none, List.cons_append, List.nil_append, List.append_nil, eq_self, not_true_eq_false, not_false_eq_true, ite_true, ite_false, ↓reduceIte, Nat.reduceLT, Nat.reduceEqDiff, Nat.reduceAdd, or_true, true_or, or_false, false_or, a1, b1, c1, k1, k2, g308_1520, g308_1529]
theorem law_loop (hS : S.1 ≤ 3072) : ∀ r i (σ : bm_S) (M L : Nat), S.1 < i + 6 * r → i ≤ S.1 → RS M L σ → ∃ σ2, bm_run S (d + 111) 308 18 [some (.retAddr 1000), some (.ref 0), some (.ref 218), some (.int (nI i))] [] σ = some (some (.int 1), σ2) := by
  intro r
  induction r with
  | zero => intro i σ M L h1 h2; omega
  | succ r ih =>
    intro i σ M L h1 h2 h
    have e6 : (Int32.ofNat S.1 - 6 < nI i) = (S.1 < i + 6) := by
      rcases Nat.lt_or_ge S.1 6 with q | q
      · have e : ∀ k, k < 6 → Int32.ofNat k - 6 < 0 := by decide
        have e2 := e S.1 q
        have : Int32.ofNat S.1 - 6 < nI i := by
          rcases Int32.lt_or_le (Int32.ofNat S.1 - 6) (nI i) with z | z
          · exact z
          · exact absurd (Int32.lt_of_le_of_lt z e2) (nI_pos (by omega))
        rw [eq_true this, eq_true (show S.1 < i + 6 by omega)]
      · have e : Int32.ofNat S.1 - 6 = nI (S.1 - 6) := nI_sub (a := S.1) (b := 6) q
        rw [e]
        by_cases z : S.1 < i + 6
        · rw [eq_true (nI_lt (show S.1 - 6 < i by omega) (by omega)), eq_true z]
        · rw [eq_false (nI_nlt (show i ≤ S.1 - 6 by omega) (by omega)), eq_false z]
    by_cases q : S.1 < i + 6
    · refine ⟨σ, ?_⟩
      rw [g308_18]
      simp only [bm_run_ite, Option.toList_some, Option.bind_some, Option.toList_some, Option.toList_none, List.cons_append, List.nil_append, List.append_nil, eq_self, not_true_eq_false, not_false_eq_true, ite_true, ite_false, ↓reduceIte, Nat.reduceLT, Nat.reduceEqDiff, Nat.reduceAdd, or_true, true_or, or_false, false_or, e6, q, g308_1540]
    · have hi : i + 6 ≤ S.1 := by omega
      obtain ⟨_, b0, c0⟩ := law_ix hi hS (k := 0) (by decide)
      rw [Nat.add_zero] at b0 c0
      have key : ∃ σ2 M2 L2, bm_run S (d + 111) 308 27 [some (.retAddr 1000), some (.ref 0), some (.ref 218), some (.int (nI i))] [] σ = bm_run S (d + 111) 308 1534 [some (.retAddr 1000), some (.ref 0), some (.ref 218), some (.int (nI i))] [] σ2 ∧ RS M2 L2 σ2 := by
        rw [g308_27]
        simp only [bm_run_ite, Option.toList_some, Option.bind_some, Option.toList_some, Option.toList_none, List.cons_append, List.nil_append, List.append_nil, eq_self, not_true_eq_false, not_false_eq_true, ite_true, ite_false, ↓reduceIte, Nat.reduceLT, Nat.reduceEqDiff, Nat.reduceAdd, or_true, true_or, or_false, false_or, c0, b0]
        generalize S.2 i &&& 63 = y
        by_cases y0 : y = 0
        · rw [if_pos y0]; exact lw_c0 hi hS h
        rw [if_neg y0]
        by_cases y1 : y = 1
        · rw [if_pos y1]; exact lw_c1 hi hS h
        rw [if_neg y1]
        by_cases y2 : y = 2
        · rw [if_pos y2]; exact lw_c2 hi hS h
        rw [if_neg y2]
        by_cases y3 : y = 3
        · rw [if_pos y3]; exact lw_c3 hi hS h
        rw [if_neg y3]
        by_cases y4 : y = 4
        · rw [if_pos y4]; exact lw_c4 hi hS h
        rw [if_neg y4]
        by_cases y5 : y = 5
        · rw [if_pos y5]; exact lw_c5 hi hS h
        rw [if_neg y5]
        by_cases y6 : y = 6
        · rw [if_pos y6]; exact lw_c6 hi hS h
        rw [if_neg y6]
        by_cases y7 : y = 7
        · rw [if_pos y7]; exact lw_c7 hi hS h
        rw [if_neg y7]
        by_cases y8 : y = 8
        · rw [if_pos y8]; exact lw_c8 hi hS h
        rw [if_neg y8]
        by_cases y9 : y = 9
        · rw [if_pos y9]; exact lw_c9 hi hS h
        rw [if_neg y9]
        by_cases y10 : y = 10
        · rw [if_pos y10]; exact lw_c10 hi hS h
        rw [if_neg y10]
        by_cases y11 : y = 11
        · rw [if_pos y11]; exact lw_c11 hi hS h
        rw [if_neg y11]
        by_cases y12 : y = 12
        · rw [if_pos y12]; exact lw_c12 hi hS h
        rw [if_neg y12]
        by_cases y13 : y = 13
        · rw [if_pos y13]; exact lw_c13 hi hS h
        rw [if_neg y13]
        by_cases y14 : y = 14
        · rw [if_pos y14]; exact lw_c14 hi hS h
        rw [if_neg y14]
        by_cases y15 : y = 15
        · rw [if_pos y15]; exact lw_c15 hi hS h
        rw [if_neg y15]
        by_cases y16 : y = 16
        · rw [if_pos y16]; exact lw_c16 hi hS h
        rw [if_neg y16]
        by_cases y17 : y = 17
        · rw [if_pos y17]; exact lw_c17 hi hS h
        rw [if_neg y17]
        by_cases y18 : y = 18
        · rw [if_pos y18]; exact lw_c18 hi hS h
        rw [if_neg y18]
        by_cases y19 : y = 19
        · rw [if_pos y19]; exact lw_c19 hi hS h
        rw [if_neg y19]
        by_cases y20 : y = 20
        · rw [if_pos y20]; exact lw_c20 hi hS h
        rw [if_neg y20]
        by_cases y21 : y = 21
        · rw [if_pos y21]; exact lw_c21 hi hS h
        rw [if_neg y21]
        by_cases y22 : y = 22
        · rw [if_pos y22]; exact lw_c22 hi hS h
        rw [if_neg y22]
        by_cases y23 : y = 23
        · rw [if_pos y23]; exact lw_c23 hi hS h
        rw [if_neg y23]
        by_cases y24 : y = 24
        · rw [if_pos y24]; exact lw_c24 hi hS h
        rw [if_neg y24]
        by_cases y25 : y = 25
        · rw [if_pos y25]; exact lw_c25 hi hS h
        rw [if_neg y25]
        by_cases y26 : y = 26
        · rw [if_pos y26]; exact lw_c26 hi hS h
        rw [if_neg y26]
        by_cases y27 : y = 27
        · rw [if_pos y27]; exact lw_c27 hi hS h
        rw [if_neg y27]
        by_cases y28 : y = 28
        · rw [if_pos y28]; exact lw_c28 hi hS h
        rw [if_neg y28]
        by_cases y29 : y = 29
        · rw [if_pos y29]; exact lw_c29 hi hS h
        rw [if_neg y29]
        by_cases y30 : y = 30
        · rw [if_pos y30]; exact lw_c30 hi hS h
        rw [if_neg y30]
        by_cases y31 : y = 31
        · rw [if_pos y31]; exact lw_c31 hi hS h
        rw [if_neg y31]
        by_cases y32 : y = 32
        · rw [if_pos y32]; exact lw_c32 hi hS h
        rw [if_neg y32]
        by_cases y33 : y = 33
        · rw [if_pos y33]; exact lw_c33 hi hS h
        rw [if_neg y33]
        by_cases y34 : y = 34
        · rw [if_pos y34]; exact lw_c34 hi hS h
        rw [if_neg y34]
        by_cases y35 : y = 35
        · rw [if_pos y35]; exact lw_c35 hi hS h
        rw [if_neg y35]
        by_cases y36 : y = 36
        · rw [if_pos y36]; exact lw_c36 hi hS h
        rw [if_neg y36]
        by_cases y37 : y = 37
        · rw [if_pos y37]; exact lw_c37 hi hS h
        rw [if_neg y37]
        by_cases y38 : y = 38
        · rw [if_pos y38]; exact lw_c38 hi hS h
        rw [if_neg y38]
        by_cases y39 : y = 39
        · rw [if_pos y39]; exact lw_c39 hi hS h
        rw [if_neg y39]
        by_cases y40 : y = 40
        · rw [if_pos y40]; exact lw_c40 hi hS h
        rw [if_neg y40]
        by_cases y41 : y = 41
        · rw [if_pos y41]; exact lw_c41 hi hS h
        rw [if_neg y41]
        by_cases y42 : y = 42
        · rw [if_pos y42]; exact lw_c42 hi hS h
        rw [if_neg y42]
        by_cases y43 : y = 43
        · rw [if_pos y43]; exact lw_c43 hi hS h
        rw [if_neg y43]
        exact ⟨σ, M, L, rfl, h⟩
      obtain ⟨σ2, M2, L2, k1, k2⟩ := key
      obtain ⟨σ3, k3⟩ := ih (i + 6) σ2 M2 L2 (by omega) hi k2
      refine ⟨σ3, ?_⟩
      have e7 : nI i + 6 = nI (i + 6) := nI_add i 6
      rw [g308_18]
      simp only [bm_run_ite, Option.toList_some, Option.bind_some, Option.toList_some, Option.toList_none, List.cons_append, List.nil_append, List.append_nil, eq_self, not_true_eq_false, not_false_eq_true, ite_true, ite_false, ↓reduceIte, Nat.reduceLT, Nat.reduceEqDiff, Nat.reduceAdd, or_true, true_or, or_false, false_or, e6, q, k1]
      rw [g308_1534, e7]
      exact k3
end LAWC
