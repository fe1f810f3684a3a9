/-! what a row tells, and the class's questions to a world -/
def oB (B : Nat → Int32) (l : Nat) : Bool := decide (B (80 + l) = 0)
def dB (B : Nat → Int32) (f : Int32) (l : Nat) : Bool := decide (B (80 + l) = 0) && decide (B (68 + l) = f)
def orS (p : Nat → Bool) : Nat → Int32
  | 0 => 0
  | n + 1 => orS p n ||| (if p n = true then bt n else 0)
def smS (f : Nat → Int32) : Nat → Int32
  | 0 => 0
  | n + 1 => smS f n + f n
def mn (x : Int32) : Int32 := if x ≤ 999999 then x else 999999
def hasI (i : Int32) (n : Nat) : Bool := decide (¬ i < 0) && decide (¬ nI n ≤ i)
theorem hasI_nI {l L : Nat} (h : l < L) (hL : L < 2 ^ 31) : hasI (nI l) L = true := by
  simp [hasI, nI_pos (show l < 2 ^ 31 by omega), nI_ge h hL]
theorem hasI_of {i : Int32} {n : Nat} (h : hasI i n = true) (hn : n < 2 ^ 31) : ∃ j, j < n ∧ i = nI j := by
  simp only [hasI, Bool.and_eq_true, decide_eq_true_eq] at h
  obtain ⟨j, hj, rfl⟩ := nI_of h.1
  refine ⟨j, ?_, rfl⟩
  rcases Nat.lt_or_ge j n with q | q
  · exact q
  · exact absurd (nI_le q hj) h.2
theorem orS_tb (p : Nat → Bool) {l : Nat} (hl : l < 32) : ∀ n, n ≤ 32 → tb (orS p n) l = (decide (l < n) && p l) := by
  intro n
  induction n with
  | zero => intro _; simp [orS, tb_0]
  | succ n ih =>
    intro hn
    rw [orS, tb_or, ih (by omega)]
    by_cases e : l = n
    · subst e
      cases hp : p l
      · simp [tb_0]
      · simp [tb_bt l hl l hl]
    · have : (decide (l < n + 1)) = decide (l < n) := by
        by_cases q : l < n
        · simp [q]; omega
        · simp [q]; omega
      rw [this]
      cases hp : p n
      · simp [tb_0]
      · simp [tb_bt n (by omega) l hl, e]
theorem orS_cg {p q : Nat → Bool} : ∀ {n : Nat}, (∀ l, l < n → p l = q l) → orS p n = orS q n := by
  intro n
  induction n with
  | zero => intro _; rfl
  | succ n ih => intro h; rw [orS, orS, ih (fun l hl => h l (by omega)), h n (by omega)]
theorem smS_cg {p q : Nat → Int32} : ∀ {n : Nat}, (∀ l, l < n → p l = q l) → smS p n = smS q n := by
  intro n
  induction n with
  | zero => intro _; rfl
  | succ n ih => intro h; rw [smS, smS, ih (fun l hl => h l (by omega)), h n (by omega)]
theorem bI_ite {p : Bool} {α : Type} (a b : α) : (if bI p = 0 then a else b) = if p = true then b else a := by cases p <;> simp [bI]
theorem bI_itn {p : Bool} {α : Type} (a b : α) : (if ¬ bI p = 0 then a else b) = if p = true then a else b := by cases p <;> simp [bI]
theorem bI_ok (p : Bool) {α : Type} (a b : α) : (if bI p = 0 ∨ bI p = 1 then a else b) = a := by cases p <;> simp [bI]
theorem i_or0 (x : Int32) : x ||| 0 = x := Int32.or_zero
theorem i_ad0 (x : Int32) : x + 0 = x := Int32.add_zero x
section ASK
variable {S : am_S} {d : Nat} {σ : bm_S} {M L w : Nat} {B : Nat → Int32}
theorem c78 (h : RW M L σ w B) (i : Int32) : bm_call S d 78 [.ref w, .int i] σ = some (some (.int (bI (hasI i M))), σ) := by
  simp only [e78, g78_0, g78_4, g78_12, g78_16, g78_17, bm_run_ite, Option.toList_some, Option.bind_some, Option.toList_some, Option.toList_none, List.cons_append, List.nil_append, List.append_nil, eq_self, not_true_eq_false, not_false_eq_true, ite_true, ite_false, ↓reduceIte, Nat.reduceLT, Nat.reduceEqDiff, Nat.reduceAdd, or_true, true_or, or_false, false_or, h.t, h.f0]
  unfold hasI
  by_cases h0 : i < 0
  · simp [h0, bI]
  · by_cases h1 : nI M ≤ i
    · simp [h0, h1, bI]
    · simp [h0, h1, bI]
theorem c79 (h : RW M L σ w B) (i : Int32) : bm_call S d 79 [.ref w, .int i] σ = some (some (.int (bI (hasI i L))), σ) := by
  simp only [e79, g79_0, g79_4, g79_12, g79_16, g79_17, bm_run_ite, Option.toList_some, Option.bind_some, Option.toList_some, Option.toList_none, List.cons_append, List.nil_append, List.append_nil, eq_self, not_true_eq_false, not_false_eq_true, ite_true, ite_false, ↓reduceIte, Nat.reduceLT, Nat.reduceEqDiff, Nat.reduceAdd, or_true, true_or, or_false, false_or, h.t, h.f1]
  unfold hasI
  by_cases h0 : i < 0
  · simp [h0, bI]
  · by_cases h1 : nI L ≤ i
    · simp [h0, h1, bI]
    · simp [h0, h1, bI]
theorem c80 (h : RW M L σ w B) {m : Nat} (hm : m < 32) : bm_call S d 80 [.ref w, .int (nI m)] σ = some (some (.int (bI (tb (B 24) m))), σ) := by
  simp only [e80, g80_0, g80_11, g80_15, g80_16, bm_run_ite, Option.toList_some, Option.bind_some, Option.toList_some, Option.toList_none, List.cons_append, List.nil_append, List.append_nil, eq_self, not_true_eq_false, not_false_eq_true, ite_true, ite_false, ↓reduceIte, Nat.reduceLT, Nat.reduceEqDiff, Nat.reduceAdd, or_true, true_or, or_false, false_or, h.t, h.f2, sh1 _ hm]
  cases tb (B 24) m <;> simp [bI]
theorem c81 (h : RW M L σ w B) (i : Int32) : bm_call S (d + 1) 81 [.ref w, .int i] σ = some (some (.int (bI (hasI i L && oB B i.toNatClampNeg))), σ) := by
  have hL := h.L12
  by_cases h0 : i < 0
  · simp [e81, g81_0, g81_4, g81_12, g81_20, g81_23, g81_27, g81_28, bm_run_ite, hasI, h0, bI]
  · by_cases h1 : nI L ≤ i
    · simp [e81, g81_0, g81_4, g81_12, g81_20, g81_23, g81_27, g81_28, bm_run_ite, hasI, h0, h1, bI, h.t, h.f1]
    · obtain ⟨j, hj, rfl⟩ := hasI_of (i := i) (n := L) (by simp [hasI, h0, h1]) (by omega)
      simp only [e81, g81_0, g81_4, g81_12, g81_20, g81_23, g81_27, g81_28, bm_run_ite, Option.toList_some, Option.bind_some, Option.toList_some, Option.toList_none, List.cons_append, List.nil_append, List.append_nil, eq_self, not_true_eq_false, not_false_eq_true, ite_true, ite_false, ↓reduceIte, Nat.reduceLT, Nat.reduceEqDiff, Nat.reduceAdd, or_true, true_or, or_false, false_or, h.t, h.f1, h.a6 hj, nI_clamp2 (show j < 2147483648 by omega), hasI_nI hj (by omega), h0, h1, oB, Bool.true_and]
      by_cases e : B (80 + j) = 0 <;> simp [e, bI]
theorem c81n (h : RW M L σ w B) {l : Nat} (hl : l < L) : bm_call S (d + 1) 81 [.ref w, .int (nI l)] σ = some (some (.int (bI (oB B l))), σ) := by
  have hL := h.L12
  rw [c81 h, hasI_nI hl (by omega), nI_clamp2 (by omega), Bool.true_and]
theorem c82 (h : RW M L σ w B) (i f : Int32) : bm_call S (d + 1) 82 [.ref w, .int i, .int f] σ = some (some (.int (bI (hasI i L && dB B f i.toNatClampNeg))), σ) := by
  have hL := h.L12
  by_cases h0 : i < 0
  · simp [e82, g82_0, g82_4, g82_12, g82_20, g82_23, g82_31, g82_35, g82_39, g82_40, bm_run_ite, hasI, h0, bI]
  · by_cases h1 : nI L ≤ i
    · simp [e82, g82_0, g82_4, g82_12, g82_20, g82_23, g82_31, g82_35, g82_39, g82_40, bm_run_ite, hasI, h0, h1, bI, h.t, h.f1]
    · obtain ⟨j, hj, rfl⟩ := hasI_of (i := i) (n := L) (by simp [hasI, h0, h1]) (by omega)
      simp only [e82, g82_0, g82_4, g82_12, g82_20, g82_23, g82_31, g82_35, g82_39, g82_40, bm_run_ite, Option.toList_some, Option.bind_some, Option.toList_some, Option.toList_none, List.cons_append, List.nil_append, List.append_nil, eq_self, not_true_eq_false, not_false_eq_true, ite_true, ite_false, ↓reduceIte, Nat.reduceLT, Nat.reduceEqDiff, Nat.reduceAdd, or_true, true_or, or_false, false_or, h.t, h.f1, h.a5 hj, h.a6 hj, nI_clamp2 (show j < 2147483648 by omega), hasI_nI hj (by omega), h0, h1, dB, Bool.true_and]
      by_cases e : B (80 + j) = 0
      · by_cases e1 : B (68 + j) = f <;> simp [e, e1, bI]
      · simp [e, bI]
theorem c82n (h : RW M L σ w B) {l : Nat} (hl : l < L) (f : Int32) : bm_call S (d + 1) 82 [.ref w, .int (nI l), .int f] σ = some (some (.int (bI (dB B f l))), σ) := by
  have hL := h.L12
  rw [c82 h, hasI_nI hl (by omega), nI_clamp2 (by omega), Bool.true_and]
theorem c83 (h : RW M L σ w B) : bm_call S (d + 2) 83 [.ref w] σ = some (some (.int (orS (oB B) L)), σ) := by
  have hL := h.L12
  simp only [e83, g83_0]
  refine (loop_eq (fun k => bm_run S (d + 2) 83 4 [some (.ref w), some (.int (orS (oB B) k)), some (.int (nI k))] [] σ) L ?_).trans ?_
  · intro k hk
    simp (disch := omega) only [bm_run_ite, Option.toList_some, Option.bind_some, Option.toList_some, Option.toList_none, List.cons_append, List.nil_append, List.append_nil, eq_self, not_true_eq_false, not_false_eq_true, ite_true, ite_false, ↓reduceIte, Nat.reduceLT, Nat.reduceEqDiff, Nat.reduceAdd, or_true, true_or, or_false, false_or, nI_clamp2, nI_lt0F, nI_leT, nI_leF, nI_ltT, nI_ltF, n_leF, n_leT, nI_1, kA6, kA8, kA10, kA22, kA26, kA32, kA44, kA56, kA68, kA80, kA93, kA163, kA794, not_or, or_self, and_self, and_true, true_and, g83_0, g83_4, g83_12, g83_17, g83_20, g83_26, g83_32, h.t, h.f1, c81n h, bI_ite]
    cases hp : oB B k
    · simp only [orS, hp, Bool.false_eq_true, ite_false, i_or0]
    · simp only [orS, hp, ite_true]; rfl
  · simp (disch := omega) only [bm_run_ite, Option.toList_some, Option.bind_some, Option.toList_some, Option.toList_none, List.cons_append, List.nil_append, List.append_nil, eq_self, not_true_eq_false, not_false_eq_true, ite_true, ite_false, ↓reduceIte, Nat.reduceLT, Nat.reduceEqDiff, Nat.reduceAdd, or_true, true_or, or_false, false_or, nI_clamp2, nI_lt0F, nI_leT, nI_leF, nI_ltT, nI_ltF, n_leF, n_leT, nI_1, kA6, kA8, kA10, kA22, kA26, kA32, kA44, kA56, kA68, kA80, kA93, kA163, kA794, not_or, or_self, and_self, and_true, true_and, g83_0, g83_4, g83_12, g83_17, g83_20, g83_26, g83_32, h.t, h.f1]
theorem c84 (h : RW M L σ w B) (f : Int32) : bm_call S (d + 2) 84 [.ref w, .int f] σ = some (some (.int (orS (dB B f) L)), σ) := by
  have hL := h.L12
  simp only [e84, g84_0]
  refine (loop_eq (fun k => bm_run S (d + 2) 84 4 [some (.ref w), some (.int f), some (.int (orS (dB B f) k)), some (.int (nI k))] [] σ) L ?_).trans ?_
  · intro k hk
    simp (disch := omega) only [bm_run_ite, Option.toList_some, Option.bind_some, Option.toList_some, Option.toList_none, List.cons_append, List.nil_append, List.append_nil, eq_self, not_true_eq_false, not_false_eq_true, ite_true, ite_false, ↓reduceIte, Nat.reduceLT, Nat.reduceEqDiff, Nat.reduceAdd, or_true, true_or, or_false, false_or, nI_clamp2, nI_lt0F, nI_leT, nI_leF, nI_ltT, nI_ltF, n_leF, n_leT, nI_1, kA6, kA8, kA10, kA22, kA26, kA32, kA44, kA56, kA68, kA80, kA93, kA163, kA794, not_or, or_self, and_self, and_true, true_and, g84_0, g84_4, g84_12, g84_18, g84_21, g84_27, g84_33, h.t, h.f1, c82n h, bI_ite]
    cases hp : dB B f k
    · simp only [orS, hp, Bool.false_eq_true, ite_false, i_or0]
    · simp only [orS, hp, ite_true]; rfl
  · simp (disch := omega) only [bm_run_ite, Option.toList_some, Option.bind_some, Option.toList_some, Option.toList_none, List.cons_append, List.nil_append, List.append_nil, eq_self, not_true_eq_false, not_false_eq_true, ite_true, ite_false, ↓reduceIte, Nat.reduceLT, Nat.reduceEqDiff, Nat.reduceAdd, or_true, true_or, or_false, false_or, nI_clamp2, nI_lt0F, nI_leT, nI_leF, nI_ltT, nI_ltF, n_leF, n_leT, nI_1, kA6, kA8, kA10, kA22, kA26, kA32, kA44, kA56, kA68, kA80, kA93, kA163, kA794, not_or, or_self, and_self, and_true, true_and, g84_0, g84_4, g84_12, g84_18, g84_21, g84_27, g84_33, h.t, h.f1]
theorem c85 (h : RW M L σ w B) : bm_call S (d + 2) 85 [.ref w] σ = some (some (.int (smS (fun m => B (26 + m)) M)), σ) := by
  have hM := h.M6
  simp only [e85, g85_0]
  refine (loop_eq (fun k => bm_run S (d + 2) 85 4 [some (.ref w), some (.int (smS (fun m => B (26 + m)) k)), some (.int (nI k))] [] σ) M ?_).trans ?_
  · intro k hk
    simp (disch := omega) only [bm_run_ite, Option.toList_some, Option.bind_some, Option.toList_some, Option.toList_none, List.cons_append, List.nil_append, List.append_nil, eq_self, not_true_eq_false, not_false_eq_true, ite_true, ite_false, ↓reduceIte, Nat.reduceLT, Nat.reduceEqDiff, Nat.reduceAdd, or_true, true_or, or_false, false_or, nI_clamp2, nI_lt0F, nI_leT, nI_leF, nI_ltT, nI_ltF, n_leF, n_leT, nI_1, kA6, kA8, kA10, kA22, kA26, kA32, kA44, kA56, kA68, kA80, kA93, kA163, kA794, not_or, or_self, and_self, and_true, true_and, g85_0, g85_4, g85_12, g85_21, g85_29, h.t, h.f0, h.a1, smS]
  · simp (disch := omega) only [bm_run_ite, Option.toList_some, Option.bind_some, Option.toList_some, Option.toList_none, List.cons_append, List.nil_append, List.append_nil, eq_self, not_true_eq_false, not_false_eq_true, ite_true, ite_false, ↓reduceIte, Nat.reduceLT, Nat.reduceEqDiff, Nat.reduceAdd, or_true, true_or, or_false, false_or, nI_clamp2, nI_lt0F, nI_leT, nI_leF, nI_ltT, nI_ltF, n_leF, n_leT, nI_1, kA6, kA8, kA10, kA22, kA26, kA32, kA44, kA56, kA68, kA80, kA93, kA163, kA794, not_or, or_self, and_self, and_true, true_and, g85_0, g85_4, g85_12, g85_21, g85_29, h.t, h.f0]
def sowF (B : Nat → Int32) (o : Nat) (m : Int32) (l : Nat) : Int32 := if oB B l = true then (if B (o + l) = m then B (56 + l) else 0) else 0
theorem c86a (h : RW M L σ w B) (m : Int32) : bm_call S (d + 2) 86 [.ref w, .ref (w + 2), .int m] σ = some (some (.int (smS (sowF B 32 m) L)), σ) := by
  have hL := h.L12
  simp only [e86, g86_0]
  refine (loop_eq (fun k => bm_run S (d + 2) 86 5 [some (.ref w), some (.ref (w + 2)), some (.int m), some (.int (smS (sowF B 32 m) k)), some (.int (nI k))] [] σ) L ?_).trans ?_
  · intro k hk
    simp (disch := omega) only [bm_run_ite, Option.toList_some, Option.bind_some, Option.toList_some, Option.toList_none, List.cons_append, List.nil_append, List.append_nil, eq_self, not_true_eq_false, not_false_eq_true, ite_true, ite_false, ↓reduceIte, Nat.reduceLT, Nat.reduceEqDiff, Nat.reduceAdd, or_true, true_or, or_false, false_or, nI_clamp2, nI_lt0F, nI_leT, nI_leF, nI_ltT, nI_ltF, n_leF, n_leT, nI_1, kA6, kA8, kA10, kA22, kA26, kA32, kA44, kA56, kA68, kA80, kA93, kA163, kA794, not_or, or_self, and_self, and_true, true_and, g86_0, g86_5, g86_14, g86_20, g86_23, g86_29, g86_33, g86_43, g86_45, g86_51, h.t, h.f1, c81n h, h.a2, h.a4, bI_ite]
    cases hp : oB B k
    · simp only [smS, sowF, hp, Bool.false_eq_true, ite_false, i_ad0]
    · by_cases e : B (32 + k) = m
      · simp only [smS, sowF, hp, e, ite_true, not_true_eq_false, ite_false]
      · simp only [smS, sowF, hp, e, ite_true, not_false_eq_true, ite_false, i_ad0]
  · simp (disch := omega) only [bm_run_ite, Option.toList_some, Option.bind_some, Option.toList_some, Option.toList_none, List.cons_append, List.nil_append, List.append_nil, eq_self, not_true_eq_false, not_false_eq_true, ite_true, ite_false, ↓reduceIte, Nat.reduceLT, Nat.reduceEqDiff, Nat.reduceAdd, or_true, true_or, or_false, false_or, nI_clamp2, nI_lt0F, nI_leT, nI_leF, nI_ltT, nI_ltF, n_leF, n_leT, nI_1, kA6, kA8, kA10, kA22, kA26, kA32, kA44, kA56, kA68, kA80, kA93, kA163, kA794, not_or, or_self, and_self, and_true, true_and, g86_0, g86_5, g86_14, g86_20, g86_23, g86_29, g86_33, g86_43, g86_45, g86_51, h.t, h.f1]
theorem c86b (h : RW M L σ w B) (m : Int32) : bm_call S (d + 2) 86 [.ref w, .ref (w + 3), .int m] σ = some (some (.int (smS (sowF B 44 m) L)), σ) := by
  have hL := h.L12
  simp only [e86, g86_0]
  refine (loop_eq (fun k => bm_run S (d + 2) 86 5 [some (.ref w), some (.ref (w + 3)), some (.int m), some (.int (smS (sowF B 44 m) k)), some (.int (nI k))] [] σ) L ?_).trans ?_
  · intro k hk
    simp (disch := omega) only [bm_run_ite, Option.toList_some, Option.bind_some, Option.toList_some, Option.toList_none, List.cons_append, List.nil_append, List.append_nil, eq_self, not_true_eq_false, not_false_eq_true, ite_true, ite_false, ↓reduceIte, Nat.reduceLT, Nat.reduceEqDiff, Nat.reduceAdd, or_true, true_or, or_false, false_or, nI_clamp2, nI_lt0F, nI_leT, nI_leF, nI_ltT, nI_ltF, n_leF, n_leT, nI_1, kA6, kA8, kA10, kA22, kA26, kA32, kA44, kA56, kA68, kA80, kA93, kA163, kA794, not_or, or_self, and_self, and_true, true_and, g86_0, g86_5, g86_14, g86_20, g86_23, g86_29, g86_33, g86_43, g86_45, g86_51, h.t, h.f1, c81n h, h.a3, h.a4, bI_ite]
    cases hp : oB B k
    · simp only [smS, sowF, hp, Bool.false_eq_true, ite_false, i_ad0]
    · by_cases e : B (44 + k) = m
      · simp only [smS, sowF, hp, e, ite_true, not_true_eq_false, ite_false]
      · simp only [smS, sowF, hp, e, ite_true, not_false_eq_true, ite_false, i_ad0]
  · simp (disch := omega) only [bm_run_ite, Option.toList_some, Option.bind_some, Option.toList_some, Option.toList_none, List.cons_append, List.nil_append, List.append_nil, eq_self, not_true_eq_false, not_false_eq_true, ite_true, ite_false, ↓reduceIte, Nat.reduceLT, Nat.reduceEqDiff, Nat.reduceAdd, or_true, true_or, or_false, false_or, nI_clamp2, nI_lt0F, nI_leT, nI_leF, nI_ltT, nI_ltF, n_leF, n_leT, nI_1, kA6, kA8, kA10, kA22, kA26, kA32, kA44, kA56, kA68, kA80, kA93, kA163, kA794, not_or, or_self, and_self, and_true, true_and, g86_0, g86_5, g86_14, g86_20, g86_23, g86_29, g86_33, g86_43, g86_45, g86_51, h.t, h.f1]
def groF (B : Nat → Int32) (D : Nat → Bool) (l : Nat) : Int32 := if D l = true then B (56 + l) else 0
theorem c89 (h : RW M L σ w B) (f : Int32) : bm_call S (d + 2) 89 [.ref w, .int f] σ = some (some (.int (smS (groF B (dB B f)) L)), σ) := by
  have hL := h.L12
  simp only [e89, g89_0]
  refine (loop_eq (fun k => bm_run S (d + 2) 89 4 [some (.ref w), some (.int f), some (.int (smS (groF B (dB B f)) k)), some (.int (nI k))] [] σ) L ?_).trans ?_
  · intro k hk
    simp (disch := omega) only [bm_run_ite, Option.toList_some, Option.bind_some, Option.toList_some, Option.toList_none, List.cons_append, List.nil_append, List.append_nil, eq_self, not_true_eq_false, not_false_eq_true, ite_true, ite_false, ↓reduceIte, Nat.reduceLT, Nat.reduceEqDiff, Nat.reduceAdd, or_true, true_or, or_false, false_or, nI_clamp2, nI_lt0F, nI_leT, nI_leF, nI_ltT, nI_ltF, n_leF, n_leT, nI_1, kA6, kA8, kA10, kA22, kA26, kA32, kA44, kA56, kA68, kA80, kA93, kA163, kA794, not_or, or_self, and_self, and_true, true_and, g89_0, g89_4, g89_12, g89_18, g89_21, g89_30, g89_32, g89_38, h.t, h.f1, c82n h, h.a4, bI_ite]
    cases hp : dB B f k
    · simp only [smS, groF, hp, Bool.false_eq_true, ite_false, i_ad0]
    · simp only [smS, groF, hp, ite_true]
  · simp (disch := omega) only [bm_run_ite, Option.toList_some, Option.bind_some, Option.toList_some, Option.toList_none, List.cons_append, List.nil_append, List.append_nil, eq_self, not_true_eq_false, not_false_eq_true, ite_true, ite_false, ↓reduceIte, Nat.reduceLT, Nat.reduceEqDiff, Nat.reduceAdd, or_true, true_or, or_false, false_or, nI_clamp2, nI_lt0F, nI_leT, nI_leF, nI_ltT, nI_ltF, n_leF, n_leT, nI_1, kA6, kA8, kA10, kA22, kA26, kA32, kA44, kA56, kA68, kA80, kA93, kA163, kA794, not_or, or_self, and_self, and_true, true_and, g89_0, g89_4, g89_12, g89_18, g89_21, g89_30, g89_32, g89_38, h.t, h.f1]
end ASK
