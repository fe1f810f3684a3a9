/-! THE REFERENCE's questions and deeds -/
def MR (M L : Nat) (σ : bm_S) : Prop := (M ≤ 6 ∧ L ≤ 12) ∧ σ.1 219 3 = nI M ∧ σ.1 219 25 = nI L
theorem bW_hasI {n : Nat} (h : n < 2147483648) (i : Int32) : bW i.toInt64 0 (nI n - 1).toInt64 = bI (hasI i n) := by
  have e0 : (i.toInt64 < 0) ↔ i < 0 := by
    rw [Int64.lt_iff_toInt_lt, Int32.lt_iff_toInt_lt, Int32.toInt_toInt64]
    have q1 : (0 : Int64).toInt = 0 := by decide +kernel
    have q2 : (0 : Int32).toInt = 0 := by decide +kernel
    rw [q1, q2]
  have e1 : ((nI n - 1).toInt64 < i.toInt64) ↔ nI n ≤ i := by
    rw [Int64.lt_iff_toInt_lt, Int32.le_iff_toInt_le, Int32.toInt_toInt64, Int32.toInt_toInt64]
    have q2 : (nI n - 1).toInt = (n : Int) - 1 := by
      have q3 : (1 : Int32).toInt = 1 := by decide +kernel
      rw [Int32.toInt_sub, nI_toInt2 h, q3, Int.bmod_eq_of_le (by omega) (by omega)]
    rw [q2, nI_toInt2 h]
    omega
  unfold bW hasI
  by_cases h0 : i < 0
  · rw [if_pos (e0.mpr h0)]; simp [h0, bI]
  · rw [if_neg (fun q => h0 (e0.mp q))]
    by_cases h1 : nI n ≤ i
    · rw [if_pos (e1.mpr h1)]; simp [h1, bI]
    · rw [if_neg (fun q => h1 (e1.mp q))]; simp [h0, h1, bI]
section MASK
variable {S : am_S} {d : Nat} {σ : bm_S} {M L : Nat}
theorem MR.M6 (h : MR M L σ) : M ≤ 6 := h.1.1
theorem MR.L12 (h : MR M L σ) : L ≤ 12 := h.1.2
theorem MR.m (h : MR M L σ) : σ.1 219 3 = nI M := h.2.1
theorem MR.l (h : MR M L σ) : σ.1 219 25 = nI L := h.2.2
theorem m176 (x : Int32) {l : Nat} (hl : l < 32) : bm_call S d 176 [.long x.toInt64, .int (nI l)] σ = some (some (.int (bI (tb x l))), σ) := by
  simp only [e176, g176_0, g176_10, g176_14, g176_15, bm_run_ite, Option.toList_some, Option.bind_some, Option.toList_some, Option.toList_none, List.cons_append, List.nil_append, List.append_nil, eq_self, not_true_eq_false, not_false_eq_true, ite_true, ite_false, ↓reduceIte, Nat.reduceLT, Nat.reduceEqDiff, Nat.reduceAdd, or_true, true_or, or_false, false_or, sh1l x hl, lg_eq0]
  have e9 : ¬ (0 : Int64) = 1 := by decide
  cases tb x l
  · simp [bI]
  · simp [bI]
theorem m193 (h : MR M L σ) (v : Int64) : bm_call S (d + 1) 193 [.ref 218, .long v] σ = some (some (.int (bW v 0 (nI M - 1).toInt64)), σ) := by
  have hM := h.M6
  simp only [e193, g193_0, g193_14, bm_run_ite, Option.toList_some, Option.bind_some, Option.toList_some, Option.toList_none, List.cons_append, List.nil_append, List.append_nil, eq_self, not_true_eq_false, not_false_eq_true, ite_true, ite_false, ↓reduceIte, Nat.reduceLT, Nat.reduceEqDiff, Nat.reduceAdd, or_true, true_or, or_false, false_or, c163, h.m]
  rcases bW_01 v 0 (nI M - 1).toInt64 with q | q <;> simp [q]
theorem m194 (h : MR M L σ) (v : Int64) : bm_call S (d + 1) 194 [.ref 218, .long v] σ = some (some (.int (bW v 0 (nI L - 1).toInt64)), σ) := by
  simp only [e194, g194_0, g194_15, bm_run_ite, Option.toList_some, Option.bind_some, Option.toList_some, Option.toList_none, List.cons_append, List.nil_append, List.append_nil, eq_self, not_true_eq_false, not_false_eq_true, ite_true, ite_false, ↓reduceIte, Nat.reduceLT, Nat.reduceEqDiff, Nat.reduceAdd, or_true, true_or, or_false, false_or, c163, h.l]
  rcases bW_01 v 0 (nI L - 1).toInt64 with q | q <;> simp [q]
theorem m193i (h : MR M L σ) (i : Int32) : bm_call S (d + 1) 193 [.ref 218, .long i.toInt64] σ = some (some (.int (bI (hasI i M))), σ) := by
  have hM := h.M6
  rw [m193 h, bW_hasI (by omega)]
theorem m194i (h : MR M L σ) (i : Int32) : bm_call S (d + 1) 194 [.ref 218, .long i.toInt64] σ = some (some (.int (bI (hasI i L))), σ) := by
  have hL := h.L12
  rw [m194 h, bW_hasI (by omega)]
theorem m196 {m : Nat} (hm : m < 32) : bm_call S (d + 1) 196 [.ref 218, .int (nI m)] σ = some (some (.int (bI (tb (σ.1 219 24) m))), σ) := by
  simp only [e196, g196_0, g196_12, bm_run_ite, Option.toList_some, Option.bind_some, Option.toList_some, Option.toList_none, List.cons_append, List.nil_append, List.append_nil, eq_self, not_true_eq_false, not_false_eq_true, ite_true, ite_false, ↓reduceIte, Nat.reduceLT, Nat.reduceEqDiff, Nat.reduceAdd, or_true, true_or, or_false, false_or, m176 _ hm, bI_ok]
theorem m202 {l : Nat} (hl : l < 12) : bm_call S d 202 [.ref 218, .int (nI l)] σ = some (some (.int (bI (oB (σ.1 219) l))), σ) := by
  simp (disch := omega) only [bm_run_ite, Option.toList_some, Option.bind_some, Option.toList_some, Option.toList_none, List.cons_append, List.nil_append, List.append_nil, eq_self, not_true_eq_false, not_false_eq_true, ite_true, ite_false, ↓reduceIte, Nat.reduceLT, Nat.reduceEqDiff, Nat.reduceAdd, or_true, true_or, or_false, false_or, nI_clamp2, nI_lt0F, nI_leT, nI_leF, nI_ltT, nI_ltF, n_leF, n_leT, nI_1, kA6, kA8, kA10, kA22, kA26, kA32, kA44, kA56, kA68, kA80, kA93, kA163, kA794, not_or, or_self, and_self, and_true, true_and, e202, g202_0, g202_12, g202_16, g202_17, oB]
  by_cases e : σ.1 219 (80 + l) = 0 <;> simp [e, bI]
theorem m207 (h : MR M L σ) (f : Int32) : bm_call S (d + 1) 207 [.ref 218, .int f] σ = some (some (.int (orS (dB (σ.1 219) f) L)), σ) := by
  have hL := h.L12
  simp only [e207, g207_0]
  refine (loop_eq (fun k => bm_run S (d + 1) 207 4 [some (.ref 218), some (.int f), some (.int (orS (dB (σ.1 219) f) k)), some (.int (nI k))] [] σ) L ?_).trans ?_
  · intro k hk
    rw [g207_4]
    simp (disch := omega) only [bm_run_ite, Option.toList_some, Option.bind_some, Option.toList_some, Option.toList_none, List.cons_append, List.nil_append, List.append_nil, eq_self, not_true_eq_false, not_false_eq_true, ite_true, ite_false, ↓reduceIte, Nat.reduceLT, Nat.reduceEqDiff, Nat.reduceAdd, or_true, true_or, or_false, false_or, nI_clamp2, nI_lt0F, nI_leT, nI_leF, nI_ltT, nI_ltF, n_leF, n_leT, nI_1, kA6, kA8, kA10, kA22, kA26, kA32, kA44, kA56, kA68, kA80, kA93, kA163, kA794, not_or, or_self, and_self, and_true, true_and, g207_0, g207_15, g207_21, g207_24, g207_37, g207_43, g207_44, g207_52, h.l, m202 (show k < 12 by omega), bI_ite]
    cases ho : oB (σ.1 219) k
    · have e : dB (σ.1 219) f k = false := by simp only [oB] at ho; simp [dB, ho]
      simp only [orS, e, Bool.false_eq_true, ite_false]
    · simp only [oB, decide_eq_true_eq] at ho
      by_cases q : σ.1 219 (68 + k) = f
      · have e : dB (σ.1 219) f k = true := by simp [dB, ho, q]
        simp only [orS, e, q, ite_true, not_true_eq_false, ite_false]; rfl
      · have e : dB (σ.1 219) f k = false := by simp [dB, q]
        simp only [orS, e, q, ite_true, not_false_eq_true, Bool.false_eq_true, ite_false]
  · simp (disch := omega) only [bm_run_ite, Option.toList_some, Option.bind_some, Option.toList_some, Option.toList_none, List.cons_append, List.nil_append, List.append_nil, eq_self, not_true_eq_false, not_false_eq_true, ite_true, ite_false, ↓reduceIte, Nat.reduceLT, Nat.reduceEqDiff, Nat.reduceAdd, or_true, true_or, or_false, false_or, nI_clamp2, nI_lt0F, nI_leT, nI_leF, nI_ltT, nI_ltF, n_leF, n_leT, nI_1, kA6, kA8, kA10, kA22, kA26, kA32, kA44, kA56, kA68, kA80, kA93, kA163, kA794, not_or, or_self, and_self, and_true, true_and, g207_0, g207_4, g207_15, g207_21, g207_24, g207_37, g207_43, g207_44, g207_52, h.l]
theorem m203 (h : MR M L σ) (m : Int32) {o : Nat} (ho : o ≤ 44) : bm_call S (d + 1) 203 [.ref 218, .int m, .int (nI o)] σ = some (some (.int (smS (sowF (σ.1 219) o m) L)), σ) := by
  have hL := h.L12
  simp only [e203, g203_0]
  refine (loop_eq (fun k => bm_run S (d + 1) 203 5 [some (.ref 218), some (.int m), some (.int (nI o)), some (.int (smS (sowF (σ.1 219) o m) k)), some (.int (nI k))] [] σ) L ?_).trans ?_
  · intro k hk
    rw [g203_5]
    simp (disch := omega) only [bm_run_ite, Option.toList_some, Option.bind_some, Option.toList_some, Option.toList_none, List.cons_append, List.nil_append, List.append_nil, eq_self, not_true_eq_false, not_false_eq_true, ite_true, ite_false, ↓reduceIte, Nat.reduceLT, Nat.reduceEqDiff, Nat.reduceAdd, or_true, true_or, or_false, false_or, nI_clamp2, nI_lt0F, nI_leT, nI_leF, nI_ltT, nI_ltF, n_leF, n_leT, nI_1, kA6, kA8, kA10, kA22, kA26, kA32, kA44, kA56, kA68, kA80, kA93, kA163, kA794, not_or, or_self, and_self, and_true, true_and, g203_0, g203_17, g203_24, g203_27, g203_40, g203_53, g203_54, g203_62, h.l, m202 (show k < 12 by omega), bI_ite, nI_add]
    cases hp : oB (σ.1 219) k
    · simp only [smS, sowF, hp, Bool.false_eq_true, ite_false]
    · by_cases e : σ.1 219 (o + k) = m
      · simp only [smS, sowF, hp, e, ite_true, not_true_eq_false, ite_false]
      · simp only [smS, sowF, hp, e, ite_true, not_false_eq_true, ite_false]
  · simp (disch := omega) only [bm_run_ite, Option.toList_some, Option.bind_some, Option.toList_some, Option.toList_none, List.cons_append, List.nil_append, List.append_nil, eq_self, not_true_eq_false, not_false_eq_true, ite_true, ite_false, ↓reduceIte, Nat.reduceLT, Nat.reduceEqDiff, Nat.reduceAdd, or_true, true_or, or_false, false_or, nI_clamp2, nI_lt0F, nI_leT, nI_leF, nI_ltT, nI_ltF, n_leF, n_leT, nI_1, kA6, kA8, kA10, kA22, kA26, kA32, kA44, kA56, kA68, kA80, kA93, kA163, kA794, not_or, or_self, and_self, and_true, true_and, g203_0, g203_5, g203_17, g203_24, g203_27, g203_40, g203_53, g203_54, g203_62, h.l]
theorem m208 (h : MR M L σ) (g : GO M L (σ.1 219)) (X : Int32) : ∃ g1, bm_call S (d + 1) 208 [.ref 218, .int X] σ = some (none, bm_row σ 225 g1) ∧ ∀ i, i < 6 → g1 i = netF (tb X) (σ.1 219) L i := by
  have hM := h.M6
  have hL := h.L12
  obtain ⟨g0, e0, p0⟩ := loop_ex (fun k (s : Nat → Int32) => bm_run S (d + 1) 208 2 [some (.ref 218), some (.int X), some (.int (nI k))] [] (bm_row σ 225 s)) (fun k s => ∀ i, i < k → s i = 0) 6 (σ.1 225) (fun i hi => absurd hi (by omega)) (by
    intro k s hk hp
    refine ⟨upd s k 0, ?_, ?_⟩
    · rw [g208_2]
      simp (disch := omega) only [bm_run_ite, Option.toList_some, Option.bind_some, Option.toList_some, Option.toList_none, List.cons_append, List.nil_append, List.append_nil, eq_self, not_true_eq_false, not_false_eq_true, ite_true, ite_false, ↓reduceIte, Nat.reduceLT, Nat.reduceEqDiff, Nat.reduceAdd, or_true, true_or, or_false, false_or, nI_clamp2, nI_lt0F, nI_leT, nI_leF, nI_ltT, nI_ltF, n_leF, n_leT, nI_1, kA6, kA8, kA10, kA22, kA26, kA32, kA44, kA56, kA68, kA80, kA93, kA163, kA794, not_or, or_self, and_self, and_true, true_and, g208_0, g208_8, g208_21, g208_23, g208_34, g208_40, g208_43, g208_46, g208_98, g208_104, kI6, wi_row]
    · intro i hi
      by_cases e : i = k
      · subst e; rw [upd_s]
      · rw [upd_n _ _ e]; exact hp i (by omega))
  have e2 : bm_row σ 225 (σ.1 225) = σ := bm_row_self σ _
  rw [e2] at e0
  obtain ⟨g1, e1, p1⟩ := loop_ex (fun k (s : Nat → Int32) => bm_run S (d + 1) 208 23 [some (.ref 218), some (.int X), some (.int (nI k))] [] (bm_row σ 225 s)) (fun k s => ∀ i, i < 6 → s i = netF (tb X) (σ.1 219) k i) L g0 p0 (by
    intro k s hk hp
    obtain ⟨a, b, ha, hb, hab, ea, eb⟩ := g k hk
    have r7 : ∀ q : Nat → Int32, (bm_row σ 225 q).1 219 = σ.1 219 := fun q => bm_row_1n σ q (by decide)
    cases hd : tb X k
    · refine ⟨s, ?_, ?_⟩
      · rw [g208_23]
        simp (disch := omega) only [bm_run_ite, Option.toList_some, Option.bind_some, Option.toList_some, Option.toList_none, List.cons_append, List.nil_append, List.append_nil, eq_self, not_true_eq_false, not_false_eq_true, ite_true, ite_false, ↓reduceIte, Nat.reduceLT, Nat.reduceEqDiff, Nat.reduceAdd, or_true, true_or, or_false, false_or, nI_clamp2, nI_lt0F, nI_leT, nI_leF, nI_ltT, nI_ltF, n_leF, n_leT, nI_1, kA6, kA8, kA10, kA22, kA26, kA32, kA44, kA56, kA68, kA80, kA93, kA163, kA794, not_or, or_self, and_self, and_true, true_and, g208_0, g208_2, g208_8, g208_21, g208_34, g208_40, g208_43, g208_46, g208_98, g208_104, r7, h.l, m176 X (show k < 32 by omega), hd, bI, Bool.false_eq_true]
      · simp only [netF, hd, Bool.false_eq_true, ite_false]; exact hp
    · refine ⟨upd (upd s a (s a - σ.1 219 (56 + k))) b (upd s a (s a - σ.1 219 (56 + k)) b + σ.1 219 (56 + k)), ?_, ?_⟩
      · have e9 : ¬ (1 : Int32) = 0 := by decide
        rw [g208_23]
        simp (disch := omega) only [bm_run_ite, Option.toList_some, Option.bind_some, Option.toList_some, Option.toList_none, List.cons_append, List.nil_append, List.append_nil, eq_self, not_true_eq_false, not_false_eq_true, ite_true, ite_false, ↓reduceIte, Nat.reduceLT, Nat.reduceEqDiff, Nat.reduceAdd, or_true, true_or, or_false, false_or, nI_clamp2, nI_lt0F, nI_leT, nI_leF, nI_ltT, nI_ltF, n_leF, n_leT, nI_1, kA6, kA8, kA10, kA22, kA26, kA32, kA44, kA56, kA68, kA80, kA93, kA163, kA794, not_or, or_self, and_self, and_true, true_and, g208_0, g208_2, g208_8, g208_21, g208_34, g208_40, g208_43, g208_46, g208_98, g208_104, r7, h.l, m176 X (show k < 32 by omega), hd, bI, e9, ea, eb, wi_row, row_row1]
      · intro i hi
        simp only [netF, hd, ite_true, ea, eb, cN_nI (show a < 2147483648 by omega), cN_nI (show b < 2147483648 by omega)]
        have q1 := hp a (by omega)
        have q2 := hp b (by omega)
        have q3 := hp i hi
        simp only [upd]
        simp only [q1, q2, q3])
  refine ⟨g1, ?_, p1⟩
  have r7 : ∀ q : Nat → Int32, (bm_row σ 225 q).1 219 = σ.1 219 := fun q => bm_row_1n σ q (by decide)
  rw [e208, g208_0]
  refine (show bm_run S (d + 1) 208 2 [some (.ref 218), some (.int X), some (.int (nI 0))] [] σ = _ from e0).trans ?_
  simp (disch := omega) only [g208_2, g208_21, bm_run_ite, Option.toList_some, Option.bind_some, Option.toList_some, Option.toList_none, List.cons_append, List.nil_append, List.append_nil, eq_self, not_true_eq_false, not_false_eq_true, ite_true, ite_false, ↓reduceIte, Nat.reduceLT, Nat.reduceEqDiff, Nat.reduceAdd, or_true, true_or, or_false, false_or, nI_clamp2, nI_lt0F, nI_leT, nI_leF, nI_ltT, nI_ltF, n_leF, n_leT, nI_1, kA6, kA8, kA10, kA22, kA26, kA32, kA44, kA56, kA68, kA80, kA93, kA163, kA794, not_or, or_self, and_self, and_true, true_and, kI6]
  refine (show bm_run S (d + 1) 208 23 [some (.ref 218), some (.int X), some (.int (nI 0))] [] _ = _ from e1).trans ?_
  simp (disch := omega) only [g208_23, g208_104, bm_run_ite, Option.toList_some, Option.bind_some, Option.toList_some, Option.toList_none, List.cons_append, List.nil_append, List.append_nil, eq_self, not_true_eq_false, not_false_eq_true, ite_true, ite_false, ↓reduceIte, Nat.reduceLT, Nat.reduceEqDiff, Nat.reduceAdd, or_true, true_or, or_false, false_or, nI_clamp2, nI_lt0F, nI_leT, nI_leF, nI_ltT, nI_ltF, n_leF, n_leT, nI_1, kA6, kA8, kA10, kA22, kA26, kA32, kA44, kA56, kA68, kA80, kA93, kA163, kA794, not_or, or_self, and_self, and_true, true_and, r7, h.l]
theorem m221 {a b : Nat} (ha : a < 6) (hb : b < 6) (n : Int32) : bm_call S d 221 [.ref 218, .int (nI a), .int (nI b), .int n] σ = some (none, bm_row σ 219 (gvB (σ.1 219) a b n)) := by
  simp (disch := omega) only [bm_run_ite, Option.toList_some, Option.bind_some, Option.toList_some, Option.toList_none, List.cons_append, List.nil_append, List.append_nil, eq_self, not_true_eq_false, not_false_eq_true, ite_true, ite_false, ↓reduceIte, Nat.reduceLT, Nat.reduceEqDiff, Nat.reduceAdd, or_true, true_or, or_false, false_or, nI_clamp2, nI_lt0F, nI_leT, nI_leF, nI_ltT, nI_ltF, n_leF, n_leT, nI_1, kA6, kA8, kA10, kA22, kA26, kA32, kA44, kA56, kA68, kA80, kA93, kA163, kA794, not_or, or_self, and_self, and_true, true_and, e221, g221_0, g221_38, g221_44, g221_55, wi_s]
  have e : ∀ x : Int32, mn x = if x ≤ 999999 then x else 999999 := fun _ => rfl
  unfold gvB
  rw [e]
  by_cases q : upd (σ.1 219) (26 + a) (σ.1 219 (26 + a) - n) (26 + b) + n ≤ 999999
  · simp only [q, ite_true, bm_wi_def, row_row1, bm_row_row]
  · simp only [q, ite_false, bm_wi_def, row_row1, bm_row_row]
theorem m222 (h : MR M L σ) (g : GO M L (σ.1 219)) {l : Nat} (hl : l < L) : bm_call S (d + 1) 222 [.ref 218, .int (nI l)] σ = some (none, bm_row σ 219 (pyB (σ.1 219) l)) := by
  have hM := h.M6
  have hL := h.L12
  obtain ⟨a, b, ha, hb, hab, ea, eb⟩ := g l hl
  simp (disch := omega) only [bm_run_ite, Option.toList_some, Option.bind_some, Option.toList_some, Option.toList_none, List.cons_append, List.nil_append, List.append_nil, eq_self, not_true_eq_false, not_false_eq_true, ite_true, ite_false, ↓reduceIte, Nat.reduceLT, Nat.reduceEqDiff, Nat.reduceAdd, or_true, true_or, or_false, false_or, nI_clamp2, nI_lt0F, nI_leT, nI_leF, nI_ltT, nI_ltF, n_leF, n_leT, nI_1, kA6, kA8, kA10, kA22, kA26, kA32, kA44, kA56, kA68, kA80, kA93, kA163, kA794, not_or, or_self, and_self, and_true, true_and, e222, g222_0, g222_31, ea, eb, m221 (show a < 6 by omega) (show b < 6 by omega)]
  unfold pyB
  rw [ea, eb, cN_nI (by omega), cN_nI (by omega), bm_wi_def, row_row1, bm_row_row]
theorem m220 (h : MR M L σ) (g : GO M L (σ.1 219)) (i : Int32) : bm_call S (d + 2) 220 [.ref 218, .long i.toInt64] σ = some (some (.int (wpB (σ.1 219) L i)), σ) := by
  have hM := h.M6
  have hL := h.L12
  have ei : i.toInt64.toInt32 = i := by simp
  unfold wpB
  cases hi : hasI i L
  · simp only [e220, g220_0, g220_5, g220_8, g220_10, g220_18, g220_21, g220_25, g220_54, g220_58, g220_59, bm_run_ite, Option.toList_some, Option.bind_some, Option.toList_some, Option.toList_none, List.cons_append, List.nil_append, List.append_nil, eq_self, not_true_eq_false, not_false_eq_true, ite_true, ite_false, ↓reduceIte, Nat.reduceLT, Nat.reduceEqDiff, Nat.reduceAdd, or_true, true_or, or_false, false_or, m194i h, hi, bI_itn, Bool.false_eq_true]
  · obtain ⟨l, hl, rfl⟩ := hasI_of hi (by omega)
    obtain ⟨a, b, ha, hb, hab, ea, eb⟩ := g l hl
    rw [cN_nI (show l < 2147483648 by omega)]
    cases ho : oB (σ.1 219) l
    · simp only [e220, g220_0, g220_5, g220_8, g220_10, g220_18, g220_21, g220_25, g220_54, g220_58, g220_59, bm_run_ite, Option.toList_some, Option.bind_some, Option.toList_some, Option.toList_none, List.cons_append, List.nil_append, List.append_nil, eq_self, not_true_eq_false, not_false_eq_true, ite_true, ite_false, ↓reduceIte, Nat.reduceLT, Nat.reduceEqDiff, Nat.reduceAdd, or_true, true_or, or_false, false_or, m194i h, hi, bI_itn, ei, m202 (show l < 12 by omega), ho, Bool.false_eq_true]
    · simp (disch := omega) only [bm_run_ite, Option.toList_some, Option.bind_some, Option.toList_some, Option.toList_none, List.cons_append, List.nil_append, List.append_nil, eq_self, not_true_eq_false, not_false_eq_true, ite_true, ite_false, ↓reduceIte, Nat.reduceLT, Nat.reduceEqDiff, Nat.reduceAdd, or_true, true_or, or_false, false_or, nI_clamp2, nI_lt0F, nI_leT, nI_leF, nI_ltT, nI_ltF, n_leF, n_leT, nI_1, kA6, kA8, kA10, kA22, kA26, kA32, kA44, kA56, kA68, kA80, kA93, kA163, kA794, not_or, or_self, and_self, and_true, true_and, e220, g220_0, g220_5, g220_8, g220_10, g220_18, g220_21, g220_25, g220_54, g220_58, g220_59, m194i h, hi, bI_itn, ei, m202 (show l < 12 by omega), ho, ea, cN_nI (show a < 2147483648 by omega)]
      by_cases q : σ.1 219 (26 + a) < σ.1 219 (56 + l)
      · simp [q, Int32.not_le.mpr q]
      · simp [q, Int32.not_lt.mp q]
theorem m213 {n : Int32} (hn : ¬ n = 0) : bm_call S d 213 [.ref 218, .int n] σ = some (some (.int (am_rem (am_ush (drB (σ.1 219) 23) 16) n)), bm_row σ 219 (drB (σ.1 219))) := by
  simp only [e213, g213_0, bm_run_ite, Option.toList_some, Option.bind_some, Option.toList_some, Option.toList_none, List.cons_append, List.nil_append, List.append_nil, eq_self, not_true_eq_false, not_false_eq_true, ite_true, ite_false, ↓reduceIte, Nat.reduceLT, Nat.reduceEqDiff, Nat.reduceAdd, or_true, true_or, or_false, false_or, hn, wi_s, upd_s, drB, bm_wi_def, row_row1]
end MASK
