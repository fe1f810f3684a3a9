section WORTH2
variable {S : am_S} {d : Nat} {σ : bm_S}
theorem row_self2 (σ : bm_S) (a b : Nat) (h : a ≠ b) : bm_row (bm_row σ a (σ.1 a)) b (σ.1 b) = σ := by
  rw [bm_row_self, bm_row_self]
theorem wf_bit {B W : Nat → Int32} {p n : Nat} (h : wfL true B p n) : (evF W B p n).2 0 = 0 ∨ (evF W B p n).2 0 = 1 := by
  obtain ⟨t, e1, e2, e3⟩ := evF_ty W h n (Nat.le_refl n)
  rw [h.2.1] at e1
  injection e1 with e1
  subst e1
  exact e3 0 (by simp) (by simp)
theorem wf_n {time : Bool} {B : Nat → Int32} {p n : Nat} (h : wfL time B p n) : p < 900 ∧ n ≤ 900 ∧ cN (nI p) = p ∧ cN (nI n) = n := by
  have := h.1
  have := h.n1
  exact ⟨by omega, by omega, cN_nI (by omega), cN_nI (by omega)⟩
theorem m200 (hl : LW (σ.1 219)) (money fair : Int32) : ∃ g1 g2, bm_call S (d + 2) 200 [.ref 218, .int money, .int fair] σ = some (some (.int (woB (σ.1 219) money fair)), bm_row (bm_row σ 224 g2) 223 g1) := by
  obtain ⟨hF, h4, _⟩ := hl
  unfold woB
  by_cases q : σ.1 219 4 = 0
  · refine ⟨σ.1 223, σ.1 224, ?_⟩
    rw [row_self2 σ 224 223 (by decide), if_pos q]
    simp only [e200, g200_0, g200_9, g200_14, g200_27, g200_33, g200_37, g200_44, g200_50, g200_51, bm_run_ite, Option.toList_some, Option.bind_some, Option.toList_some, Option.toList_none, List.cons_append, List.nil_append, List.append_nil, eq_self, not_true_eq_false, not_false_eq_true, ite_true, ite_false, ↓reduceIte, Nat.reduceLT, Nat.reduceEqDiff, Nat.reduceAdd, or_true, true_or, or_false, false_or, q]
  · obtain ⟨p, n, ep, en, hw⟩ := h4 q
    obtain ⟨k1, k2, k3, k4⟩ := wf_n hw
    have r7 : (bm_wi σ 224 2 money).1 219 = σ.1 219 := wi_n σ (by decide) 2 money
    obtain ⟨g1, e1⟩ := m199 (S := S) (d := d) (σ := bm_wi σ 224 2 money) (law := 0) (p := p) (n := n) (by omega) (by rw [r7]; exact ep) (by rw [r7]; exact en) (time := false) (by rw [r7]; exact hw) (by rw [r7]; exact hF) fair
    rw [r7] at e1
    have ev : evF (upd (upd ((bm_wi σ 224 2 money).1 224) 0 (am_rem fair (σ.1 219 1))) 1 (fair / σ.1 219 1)) (σ.1 219) p n = evF (wd (σ.1 219 1) fair money 0 0) (σ.1 219) p n := by
      refine evF_cg hw ?_ ?_ ?_ ?_ n (Nat.le_refl n)
      · rfl
      · rfl
      · intro _; rw [wi_s]; rfl
      · intro z; cases z
    rw [ev] at e1
    have z : (nI 0) = (0 : Int32) := rfl
    rw [z] at e1
    rw [bm_wi_def, bm_row_row] at e1
    rw [if_neg q, ep, en, k3, k4]
    obtain ⟨G, e1⟩ : ∃ G, bm_call S (d + 1) 199 [Value.ref 218, Value.int 0, Value.int fair] (bm_row σ 224 (upd (σ.1 224) 2 money)) = some (some (Value.int ((evF (wd (σ.1 219 1) fair money 0 0) (σ.1 219) p n).2 0)), bm_row (bm_row σ 224 G) 223 g1) := ⟨_, e1⟩
    refine ⟨g1, G, ?_⟩
    simp only [e200, g200_0, g200_9, g200_14, g200_27, g200_33, g200_37, g200_44, g200_50, g200_51, bm_run_ite, Option.toList_some, Option.bind_some, Option.toList_some, Option.toList_none, List.cons_append, List.nil_append, List.append_nil, eq_self, not_true_eq_false, not_false_eq_true, ite_true, ite_false, ↓reduceIte, Nat.reduceLT, Nat.reduceEqDiff, Nat.reduceAdd, or_true, true_or, or_false, false_or, q, bm_wi_def, e1]
    unfold clW
    by_cases q1 : 1 ≤ (evF (wd (σ.1 219 1) fair money 0 0) (σ.1 219) p n).2 0
    · by_cases q2 : (evF (wd (σ.1 219 1) fair money 0 0) (σ.1 219) p n).2 0 ≤ 999
      · simp only [q1, q2, if_true]
      · simp only [q1, q2, if_true, if_false]
    · simp only [q1, if_false]
theorem m201 (hl : LW (σ.1 219)) (m c s : Int32) : ∃ g1 g2, bm_call S (d + 2) 201 [.ref 218, .int m, .int c, .int s] σ = some (some (.int (bI (tmB (σ.1 219) m c s))), bm_row (bm_row σ 224 g2) 223 g1) := by
  obtain ⟨hF, _, h5⟩ := hl
  unfold tmB
  by_cases q : σ.1 219 5 = 0
  · refine ⟨σ.1 223, σ.1 224, ?_⟩
    rw [row_self2 σ 224 223 (by decide), if_pos q]
    simp only [e201, g201_0, g201_9, g201_11, g201_44, g201_48, g201_52, g201_53, bm_run_ite, Option.toList_some, Option.bind_some, Option.toList_some, Option.toList_none, List.cons_append, List.nil_append, List.append_nil, eq_self, not_true_eq_false, not_false_eq_true, ite_true, ite_false, ↓reduceIte, Nat.reduceLT, Nat.reduceEqDiff, Nat.reduceAdd, or_true, true_or, or_false, false_or, q]; rfl
  · obtain ⟨p, n, ep, en, hw⟩ := h5 q
    obtain ⟨k1, k2, k3, k4⟩ := wf_n hw
    have e0 : bm_wi (bm_wi (bm_wi σ 224 3 m) 224 4 c) 224 5 s = bm_row σ 224 (upd (upd (upd (σ.1 224) 3 m) 4 c) 5 s) := by
      simp only [bm_wi_def, row_row1, bm_row_row]
    generalize hτ : bm_wi (bm_wi (bm_wi σ 224 3 m) 224 4 c) 224 5 s = τ at e0
    have r7 : τ.1 219 = σ.1 219 := by rw [e0]; exact bm_row_1n σ _ (by decide)
    have r2 : τ.1 224 = upd (upd (upd (σ.1 224) 3 m) 4 c) 5 s := by rw [e0]; exact row_row1 _ _ _
    obtain ⟨g1, e1⟩ := m199 (S := S) (d := d) (σ := τ) (law := 1) (p := p) (n := n) (by omega) (by rw [r7]; exact ep) (by rw [r7]; exact en) (time := true) (by rw [r7]; exact hw) (by rw [r7]; exact hF) (σ.1 219 22)
    rw [r7] at e1
    have ev : evF (upd (upd (τ.1 224) 0 (am_rem (σ.1 219 22) (σ.1 219 1))) 1 (σ.1 219 22 / σ.1 219 1)) (σ.1 219) p n = evF (wd (σ.1 219 1) (σ.1 219 22) m c s) (σ.1 219) p n := by
      refine evF_cg hw ?_ ?_ ?_ ?_ n (Nat.le_refl n)
      · rfl
      · rfl
      · intro z; cases z
      · intro _; rw [r2]; exact ⟨rfl, rfl, rfl⟩
    rw [ev] at e1
    have z : (nI 1) = (1 : Int32) := rfl
    rw [z] at e1
    rw [if_neg q, ep, en, k3, k4]
    have e3 : ∀ g, bm_row τ 224 g = bm_row σ 224 g := by intro g; rw [e0, bm_row_row]
    rw [e3] at e1
    obtain ⟨G, e1⟩ : ∃ G, bm_call S (d + 1) 199 [Value.ref 218, Value.int 1, Value.int (σ.1 219 22)] τ = some (some (Value.int ((evF (wd (σ.1 219 1) (σ.1 219 22) m c s) (σ.1 219) p n).2 0)), bm_row (bm_row σ 224 G) 223 g1) := ⟨_, e1⟩
    refine ⟨g1, G, ?_⟩
    simp only [e201, g201_0, g201_9, g201_11, g201_44, g201_48, g201_52, g201_53, bm_run_ite, Option.toList_some, Option.bind_some, Option.toList_some, Option.toList_none, List.cons_append, List.nil_append, List.append_nil, eq_self, not_true_eq_false, not_false_eq_true, ite_true, ite_false, ↓reduceIte, Nat.reduceLT, Nat.reduceEqDiff, Nat.reduceAdd, or_true, true_or, or_false, false_or, q, hτ, r7, e1]
    by_cases q1 : (evF (wd (σ.1 219 1) (σ.1 219 22) m c s) (σ.1 219) p n).2 0 = 1
    · simp [q1, bI]
    · simp [q1, bI]
theorem c7t {b : Nat} {B : Nat → Int32} (h : BK σ b B) (hl : LW B) (m c s : Int32) : ∃ g1 v, bm_call S (d + 2) 7 [.ref b, .int 1, .int (B 22), .int m, .int c, .int s] σ = some (some (.int v), bm_row σ (b + 2) g1) ∧ (¬ v = 0 ↔ tmB B m c s = true) := by
  obtain ⟨hb, ⟨f0, f1, f2⟩, b4, b4n, b5, b5n⟩ := h
  obtain ⟨hF, _, h5⟩ := hl
  unfold tmB
  have e8 : ¬ (1 : Int32) = 0 := by decide
  by_cases q : B 5 = 0
  · refine ⟨σ.1 (b + 2), 0, ?_, ?_⟩
    · rw [bm_row_self]
      have e9 : ¬ (0 : Int32) = 1 := by decide
      simp only [e7, g7_0, g7_4, g7_11, g7_15, g7_21, g7_28, g7_32, g7_41, g7_57, g7_66, g7_86, g7_90, g7_93, g7_100, g7_124, g7_133, g7_136, g7_139, g7_142, g7_153, g7_158, g7_170, g7_173, g7_176, g7_182, g7_188, g7_196, g7_199, g7_200, bm_run_ite, Option.toList_some, Option.bind_some, Option.toList_some, Option.toList_none, List.cons_append, List.nil_append, List.append_nil, eq_self, not_true_eq_false, not_false_eq_true, ite_true, ite_false, ↓reduceIte, Nat.reduceLT, Nat.reduceEqDiff, Nat.reduceAdd, or_true, true_or, or_false, false_or, hb.1, e8, b5 q, e9, Int32.le_refl]
    · simp [q]
  · obtain ⟨p, n, ep, en, hw⟩ := h5 q
    obtain ⟨k1, k2, k3, k4⟩ := wf_n hw
    obtain ⟨a7, a8, a9⟩ := b5n q
    rw [ep, en, k3, k4] at a9
    obtain ⟨g1, e1⟩ := c7 (S := S) (d := d) hb f0 hF hw a9 (fun z => by cases z) (fun _ => ⟨by rw [a7, ep], by rw [a8, ep, en, nI_add]⟩) (B 22) m c s
    refine ⟨g1, _, e1, ?_⟩
    rw [if_neg q, ep, en, k3, k4]
    rcases wf_bit (W := wd (B 1) (B 22) m c s) hw with z | z <;> rw [z] <;> decide
theorem c6 {b : Nat} {B : Nat → Int32} (h : BK σ b B) (hl : LW B) (money fair : Int32) : ∃ g1, bm_call S (d + 3) 6 [.ref b, .int money, .int fair] σ = some (some (.int (woB B money fair)), bm_row σ (b + 2) g1) := by
  obtain ⟨hb, ⟨f0, f1, f2⟩, b4, b4n, b5, b5n⟩ := h
  obtain ⟨hF, h4, _⟩ := hl
  unfold woB
  by_cases q : B 4 = 0
  · refine ⟨σ.1 (b + 2), ?_⟩
    rw [bm_row_self, if_pos q]
    simp only [e6, g6_0, g6_11, g6_16, g6_25, g6_34, g6_37, bm_run_ite, Option.toList_some, Option.bind_some, Option.toList_some, Option.toList_none, List.cons_append, List.nil_append, List.append_nil, eq_self, not_true_eq_false, not_false_eq_true, ite_true, ite_false, ↓reduceIte, Nat.reduceLT, Nat.reduceEqDiff, Nat.reduceAdd, or_true, true_or, or_false, false_or, hb.1, b4 q]
  · obtain ⟨p, n, ep, en, hw⟩ := h4 q
    obtain ⟨k1, k2, k3, k4⟩ := wf_n hw
    have k5 := hw.1
    have k6 := hw.n1
    obtain ⟨a5, a6, a9⟩ := b4n q
    rw [ep, en, k3, k4] at a9
    have x5 : σ.1 b 5 = nI p := by rw [a5, ep]
    have x6 : σ.1 b 6 = nI (p + n) := by rw [a6, ep, en, nI_add]
    obtain ⟨g1, e1⟩ := c7 (S := S) (d := d) hb f0 hF hw a9 (fun _ => ⟨x5, x6⟩) (fun z => by cases z) fair money 0 0
    refine ⟨g1, ?_⟩
    have ne : ¬ nI p = nI (p + n) := by
      intro z
      have := congrArg cN z
      rw [cN_nI (by omega), cN_nI (by omega)] at this
      omega
    rw [if_neg q, ep, en, k3, k4]
    have z : bI false = (0 : Int32) := rfl
    rw [z] at e1
    simp only [e6, g6_0, g6_11, g6_16, g6_25, g6_34, g6_37, bm_run_ite, Option.toList_some, Option.bind_some, Option.toList_some, Option.toList_none, List.cons_append, List.nil_append, List.append_nil, eq_self, not_true_eq_false, not_false_eq_true, ite_true, ite_false, ↓reduceIte, Nat.reduceLT, Nat.reduceEqDiff, Nat.reduceAdd, or_true, true_or, or_false, false_or, hb.1, x5, x6, ne, e1, c291, c289]
    generalize (evF (wd (B 1) fair money 0 0) B p n).2 0 = v
    have t : (999 : Int32).toInt = 999 := by decide +kernel
    have o : (1 : Int32).toInt = 1 := by decide +kernel
    unfold clW
    congr 4
    by_cases q1 : v < 999
    · simp only [q1, if_true, Int32.le_of_lt q1]
      by_cases q2 : (1 : Int32) < v
      · simp only [q2, Int32.le_of_lt q2, if_true]
      · by_cases q3 : 1 ≤ v
        · simp only [q2, q3, if_true, if_false]; exact Int32.le_antisymm q3 (Int32.not_lt.mp q2)
        · simp only [q2, q3, if_false]
    · have q4 : (1 : Int32) ≤ v := Int32.le_trans (by decide : (1 : Int32) ≤ 999) (Int32.not_lt.mp q1)
      have q5 : (1 : Int32) < 999 := by decide
      simp only [q1, q4, q5, if_true, if_false]
      by_cases q6 : v ≤ 999
      · simp only [q6, if_true]; exact Int32.le_antisymm (Int32.not_lt.mp q1) q6
      · simp only [q6, if_false]
end WORTH2
