/-! the smallest methods -/
theorem lg_lt0 (x y : Int64) : (lg_cmp x y < 0) ↔ x < y := by
  unfold lg_cmp
  by_cases h1 : x > y
  · rw [if_pos h1]
    have h2 : ¬ x < y := by
      simp only [GT.gt, Int64.lt_iff_toInt_lt] at *
      omega
    simp [h2]
  · rw [if_neg h1]
    by_cases h2 : x = y
    · subst h2
      have h3 : ¬ x < x := by
        simp only [Int64.lt_iff_toInt_lt]
        omega
      simp [h3]
    · rw [if_neg h2]
      have h3 : x < y := by
        have h4 : ¬ x.toInt = y.toInt := fun z => h2 (Int64.toInt_inj.mp z)
        simp only [GT.gt, Int64.lt_iff_toInt_lt] at *
        omega
      simp [h3]
theorem lg_gt0 (x y : Int64) : (0 < lg_cmp x y) ↔ y < x := by
  unfold lg_cmp
  by_cases h1 : x > y
  · rw [if_pos h1]
    have h2 : y < x := h1
    simp [h2]
  · rw [if_neg h1]
    have h2 : ¬ y < x := h1
    by_cases h3 : x = y
    · rw [if_pos h3]; simp [h2]
    · rw [if_neg h3]; simp [h2]
theorem lg_eq0 (x y : Int64) : (lg_cmp x y = 0) ↔ x = y := by
  unfold lg_cmp
  by_cases h1 : x > y
  · rw [if_pos h1]
    have h2 : ¬ x = y := by
      intro z; subst z
      simp only [GT.gt, Int64.lt_iff_toInt_lt] at h1
      omega
    simp [h2]
  · rw [if_neg h1]
    by_cases h3 : x = y
    · rw [if_pos h3]; simp [h3]
    · rw [if_neg h3]; simp [h3]
def bW (v a b : Int64) : Int32 := if v < a then 0 else if b < v then 0 else 1
theorem bW_01 (v a b : Int64) : bW v a b = 0 ∨ bW v a b = 1 := by
  unfold bW; split
  · exact Or.inl rfl
  · split
    · exact Or.inl rfl
    · exact Or.inr rfl
section LEAF
variable {S : am_S} {d : Nat} {σ : bm_S}
theorem c157 (v a b : Int64) : bm_call S d 157 [.long v, .long a, .long b] σ = some (some (.int (bW v a b)), σ) := by
  simp only [e157, g157_0, g157_6, g157_13, g157_17, g157_18, bm_run_ite, Option.toList_some, Option.bind_some, Option.toList_some, Option.toList_none, List.cons_append, List.nil_append, List.append_nil, eq_self, not_true_eq_false, not_false_eq_true, ite_true, ite_false, ↓reduceIte, Nat.reduceLT, Nat.reduceEqDiff, Nat.reduceAdd, or_true, true_or, or_false, false_or, lg_lt0, lg_gt0]
  unfold bW
  repeat' split
  all_goals simp_all
theorem c163 (v a b : Int64) : bm_call S d 163 [.long v, .long a, .long b] σ = some (some (.int (bW v a b)), σ) := by
  simp only [e163, g163_0, g163_6, g163_13, g163_17, g163_18, bm_run_ite, Option.toList_some, Option.bind_some, Option.toList_some, Option.toList_none, List.cons_append, List.nil_append, List.append_nil, eq_self, not_true_eq_false, not_false_eq_true, ite_true, ite_false, ↓reduceIte, Nat.reduceLT, Nat.reduceEqDiff, Nat.reduceAdd, or_true, true_or, or_false, false_or, lg_lt0, lg_gt0]
  unfold bW
  repeat' split
  all_goals simp_all
theorem c158 {a : Nat} (h : bm_tag a = 0) (hn : bm_len a < 2 ^ 31) (i : Int32) : bm_call S d 158 [.ref a, .int i] σ = some (some (.int (rd (σ.1 a) (bm_len a) i)), σ) := by
  simp only [e158, g158_0, g158_4, g158_10, g158_16, g158_17, bm_run_ite, Option.toList_some, Option.bind_some, Option.toList_some, Option.toList_none, List.cons_append, List.nil_append, List.append_nil, eq_self, not_true_eq_false, not_false_eq_true, ite_true, ite_false, ↓reduceIte, Nat.reduceLT, Nat.reduceEqDiff, Nat.reduceAdd, or_true, true_or, or_false, false_or, h]
  unfold rd
  by_cases h0 : i < 0
  · simp [h0]
  · by_cases h1 : Int32.ofNat (bm_len a) ≤ i
    · simp [h0, h1]
    · have h2 : ¬ bm_len a ≤ i.toNatClampNeg := Nat.not_le.mpr (ix_lt h0 h1 hn)
      simp [h0, h1, h2]
theorem c159 {a : Nat} (h : bm_tag a = 0) (hn : bm_len a < 2 ^ 31) (i v : Int32) : bm_call S d 159 [.ref a, .int i, .int v] σ = some (none, bm_row σ a (wr (σ.1 a) (bm_len a) i v)) := by
  simp only [e159, g159_0, g159_4, g159_10, g159_14, bm_run_ite, Option.toList_some, Option.bind_some, Option.toList_some, Option.toList_none, List.cons_append, List.nil_append, List.append_nil, eq_self, not_true_eq_false, not_false_eq_true, ite_true, ite_false, ↓reduceIte, Nat.reduceLT, Nat.reduceEqDiff, Nat.reduceAdd, or_true, true_or, or_false, false_or, h]
  unfold wr
  by_cases h0 : i < 0
  · simp [h0, bm_row_self]
  · by_cases h1 : Int32.ofNat (bm_len a) ≤ i
    · simp [h0, h1, bm_row_self]
    · have h2 : ¬ bm_len a ≤ i.toNatClampNeg := Nat.not_le.mpr (ix_lt h0 h1 hn)
      simp [h0, h1, h2, bm_wi_def]
theorem c160 (a b : Int64) : bm_call S d 160 [.long a, .long b] σ = some (some (.long (if b = 0 then 0 else a / b)), σ) := by
  simp only [e160, g160_0, g160_6, g160_10, g160_13, bm_run_ite, Option.toList_some, Option.bind_some, Option.toList_some, Option.toList_none, List.cons_append, List.nil_append, List.append_nil, eq_self, not_true_eq_false, not_false_eq_true, ite_true, ite_false, ↓reduceIte, Nat.reduceLT, Nat.reduceEqDiff, Nat.reduceAdd, or_true, true_or, or_false, false_or, lg_eq0]
  by_cases h : b = 0
  · simp [h]
  · simp [h]
theorem c161 (a b : Int32) : bm_call S d 161 [.int a, .int b] σ = some (some (.int (if b = 0 then 0 else am_rem a b)), σ) := by
  simp only [e161, g161_0, g161_4, g161_8, g161_11, bm_run_ite, Option.toList_some, Option.bind_some, Option.toList_some, Option.toList_none, List.cons_append, List.nil_append, List.append_nil, eq_self, not_true_eq_false, not_false_eq_true, ite_true, ite_false, ↓reduceIte, Nat.reduceLT, Nat.reduceEqDiff, Nat.reduceAdd, or_true, true_or, or_false, false_or]
  by_cases h : b = 0
  · simp [h]
  · simp [h]
theorem c289 (a b : Int32) : bm_call S d 289 [.int a, .int b] σ = some (some (.int (if a < b then b else a)), σ) := by
  simp only [e289, g289_0, g289_5, g289_9, g289_10, bm_run_ite, Option.toList_some, Option.bind_some, Option.toList_some, Option.toList_none, List.cons_append, List.nil_append, List.append_nil, eq_self, not_true_eq_false, not_false_eq_true, ite_true, ite_false, ↓reduceIte, Nat.reduceLT, Nat.reduceEqDiff, Nat.reduceAdd, or_true, true_or, or_false, false_or]
  split <;> rfl
theorem c291 (a b : Int32) : bm_call S d 291 [.int a, .int b] σ = some (some (.int (if b < a then b else a)), σ) := by
  simp only [e291, g291_0, g291_5, g291_9, g291_10, bm_run_ite, Option.toList_some, Option.bind_some, Option.toList_some, Option.toList_none, List.cons_append, List.nil_append, List.append_nil, eq_self, not_true_eq_false, not_false_eq_true, ite_true, ite_false, ↓reduceIte, Nat.reduceLT, Nat.reduceEqDiff, Nat.reduceAdd, or_true, true_or, or_false, false_or]
  split <;> rfl
theorem c290 (a b : Int64) : bm_call S d 290 [.long a, .long b] σ = some (some (.long (if a < b then b else a)), σ) := by
  simp only [e290, g290_0, g290_6, g290_10, g290_11, bm_run_ite, Option.toList_some, Option.bind_some, Option.toList_some, Option.toList_none, List.cons_append, List.nil_append, List.append_nil, eq_self, not_true_eq_false, not_false_eq_true, ite_true, ite_false, ↓reduceIte, Nat.reduceLT, Nat.reduceEqDiff, Nat.reduceAdd, or_true, true_or, or_false, false_or, lg_lt0]
  split <;> rfl
theorem c292 (a b : Int64) : bm_call S d 292 [.long a, .long b] σ = some (some (.long (if b < a then b else a)), σ) := by
  simp only [e292, g292_0, g292_6, g292_10, g292_11, bm_run_ite, Option.toList_some, Option.bind_some, Option.toList_some, Option.toList_none, List.cons_append, List.nil_append, List.append_nil, eq_self, not_true_eq_false, not_false_eq_true, ite_true, ite_false, ↓reduceIte, Nat.reduceLT, Nat.reduceEqDiff, Nat.reduceAdd, or_true, true_or, or_false, false_or, lg_gt0]
  split <;> rfl
/-- a whole row is copied into one of its length -/
theorem c162 {a b : Nat} (ha : bm_tag a = 0) (hb : bm_tag b = 0) (hl : bm_len a = bm_len b) (hn : bm_len b < 2 ^ 31) : bm_call S (d + 1) 162 [.ref a, .ref b] σ = some (none, bm_row σ b (va_cpy (σ.1 a) (σ.1 b) 0 0 (bm_len b))) := by
  have e0 : ((0 : Int32)).toNatClampNeg = 0 := rfl
  have h1 : ¬ (Int32.ofNat (bm_len b)) < 0 := nI_pos hn
  have h2 : (Int32.ofNat (bm_len b)).toNatClampNeg = bm_len b := nI_clamp hn
  have h3 : ¬ ((0 : Int32) < 0) := by decide
  simp only [e162, g162_0, g162_11, bm_run_ite, Option.toList_some, Option.bind_some, Option.toList_some, Option.toList_none, List.cons_append, List.nil_append, List.append_nil, eq_self, not_true_eq_false, not_false_eq_true, ite_true, ite_false, ↓reduceIte, Nat.reduceLT, Nat.reduceEqDiff, Nat.reduceAdd, or_true, true_or, or_false, false_or, ha, hb, hl, c291, ite_self, e0, h1, h2, h3, Nat.zero_add, Nat.le_refl, and_true, and_self]
end LEAF
