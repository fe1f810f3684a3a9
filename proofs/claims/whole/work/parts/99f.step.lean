section STEPM
variable {S : am_S} {d : Nat} {σ : bm_S}
theorem row_wi (ρ : bm_S) (a k : Nat) (g : Nat → Int32) (x : Int32) : bm_wi (bm_row ρ a g) a k x = bm_row ρ a (upd g k x) := by
  unfold bm_wi
  rw [bm_row_1s]
  unfold bm_row
  congr 1
  funext y
  by_cases e : y = a <;> simp [e]
theorem row_self (ρ : bm_S) (a : Nat) : bm_row ρ a (ρ.1 a) = ρ := by
  unfold bm_row
  apply Prod.ext
  · funext x
    by_cases e : x = a <;> simp [e]
  · rfl
/-- the text, and how much of it there is -/
def tx (T : Nat → Int32) (n : Nat) (σ : bm_S) : Prop := n ≤ 900 ∧ σ.1 221 = T ∧ ∀ i, i < n → ∃ k, k < 256 ∧ T i = nI k
theorem m167 {n i : Nat} {T : Nat → Int32} {g : Nat → Int32} (h : tx T n σ) (hi : i ≤ n) (g8 : g 8 = nI n) : bm_call S d 167 [.ref 218, .int (nI i)] (bm_row σ 218 g) = some (some (.int (if i < n then T i else Int32.ofInt (-1))), bm_row σ 218 g) := by
  obtain ⟨h9, hT, _⟩ := h
  have e8 : (bm_row σ 218 g).1 218 8 = nI n := by rw [bm_row_1s]; exact g8
  have e19 : (bm_row σ 218 g).1 221 = T := by rw [bm_row_1n _ _ (by decide)]; exact hT
  by_cases q : i < n
  · have le : ¬ nI n ≤ nI i := nI_ge q (by omega)
    have bd : ¬ (nI i < 0 ∨ 900 ≤ i) := by rintro (z | z); exact nI_pos (by omega) z; omega
    rw [if_pos q]
    simp only [e167, g167_0, g167_8, g167_18, bm_run_ite, Option.toList_some, Option.bind_some, Option.toList_some, Option.toList_none, List.cons_append, List.nil_append, List.append_nil, eq_self, not_true_eq_false, not_false_eq_true, ite_true, ite_false, ↓reduceIte, Nat.reduceLT, Nat.reduceEqDiff, Nat.reduceAdd, or_true, true_or, or_false, false_or, e8, le, nI_clamp2 (show i < 2147483648 by omega), bd, e19]
  · have le : nI n ≤ nI i := nI_le (by omega) (by omega)
    rw [if_neg q]
    simp only [e167, g167_0, g167_17, g167_18, bm_run_ite, Option.toList_some, Option.bind_some, Option.toList_some, Option.toList_none, List.cons_append, List.nil_append, List.append_nil, eq_self, not_true_eq_false, not_false_eq_true, ite_true, ite_false, ↓reduceIte, Nat.reduceLT, Nat.reduceEqDiff, Nat.reduceAdd, or_true, true_or, or_false, false_or, e8, le]
theorem m168 (c : Int32) : bm_call S d 168 [.int c] σ = some (some (.int (bI (isL c))), σ) := by
  unfold isL
  by_cases q : c < 97
  · simp [e168, g168_0, g168_16, g168_17, bm_run_ite, q, bI]
  · by_cases q2 : 122 < c
    · simp (decide := true) only [e168, g168_0, g168_6, g168_16, g168_17, bm_run_ite, Option.toList_some, Option.bind_some, Option.toList_some, Option.toList_none, List.cons_append, List.nil_append, List.append_nil, eq_self, not_true_eq_false, not_false_eq_true, ite_true, ite_false, ↓reduceIte, Nat.reduceLT, Nat.reduceEqDiff, Nat.reduceAdd, or_true, true_or, or_false, false_or, q, q2, bI]
    · simp (decide := true) only [e168, g168_0, g168_6, g168_12, g168_17, bm_run_ite, Option.toList_some, Option.bind_some, Option.toList_some, Option.toList_none, List.cons_append, List.nil_append, List.append_nil, eq_self, not_true_eq_false, not_false_eq_true, ite_true, ite_false, ↓reduceIte, Nat.reduceLT, Nat.reduceEqDiff, Nat.reduceAdd, or_true, true_or, or_false, false_or, q, q2, bI]
theorem m169 (c : Int32) : bm_call S d 169 [.int c] σ = some (some (.int (bI (isD c))), σ) := by
  unfold isD
  by_cases q : c < 48
  · simp [e169, g169_0, g169_16, g169_17, bm_run_ite, q, bI]
  · by_cases q2 : 57 < c
    · simp (decide := true) only [e169, g169_0, g169_6, g169_16, g169_17, bm_run_ite, Option.toList_some, Option.bind_some, Option.toList_some, Option.toList_none, List.cons_append, List.nil_append, List.append_nil, eq_self, not_true_eq_false, not_false_eq_true, ite_true, ite_false, ↓reduceIte, Nat.reduceLT, Nat.reduceEqDiff, Nat.reduceAdd, or_true, true_or, or_false, false_or, q, q2, bI]
    · simp (decide := true) only [e169, g169_0, g169_6, g169_12, g169_17, bm_run_ite, Option.toList_some, Option.bind_some, Option.toList_some, Option.toList_none, List.cons_append, List.nil_append, List.append_nil, eq_self, not_true_eq_false, not_false_eq_true, ite_true, ite_false, ↓reduceIte, Nat.reduceLT, Nat.reduceEqDiff, Nat.reduceAdd, or_true, true_or, or_false, false_or, q, q2, bI]
variable {T : Nat → Int32} {n : Nat}
theorem m171s (h : tx T n σ) : ∀ r p g, p + r = n → g 6 = nI p → g 8 = nI n → bm_run S (d + 1) 171 8 [some (.ref 218), none] [] (bm_row σ 218 g) = bm_run S (d + 1) 171 47 [some (.ref 218), none] [] (bm_row σ 218 (upd g 6 (nI (ruF isSp T r p)))) := by
  intro r
  induction r with
  | zero =>
    intro p g hp g6 g8
    have e6 : (bm_row σ 218 g).1 218 6 = nI p := by rw [bm_row_1s]; exact g6
    have k := m167 (S := S) (d := d) (i := p) h (by omega) g8
    rw [if_neg (by omega)] at k
    have es : upd g 6 (nI (ruF isSp T 0 p)) = g := by show upd g 6 (nI p) = g; rw [← g6, upd_self]
    rw [es, g171_8]
    simp (decide := true) only [bm_run_ite, Option.toList_some, Option.bind_some, Option.toList_some, Option.toList_none, List.cons_append, List.nil_append, List.append_nil, eq_self, not_true_eq_false, not_false_eq_true, ite_true, ite_false, ↓reduceIte, Nat.reduceLT, Nat.reduceEqDiff, Nat.reduceAdd, or_true, true_or, or_false, false_or, e6, k, g171_16, g171_21, g171_29]
  | succ r ih =>
    intro p g hp g6 g8
    have e6 : (bm_row σ 218 g).1 218 6 = nI p := by rw [bm_row_1s]; exact g6
    have k := m167 (S := S) (d := d) (i := p) h (by omega) g8
    rw [if_pos (by omega)] at k
    have go : bm_run S (d + 1) 171 34 [some (.ref 218), none] [] (bm_row σ 218 g) = bm_run S (d + 1) 171 47 [some (.ref 218), none] [] (bm_row σ 218 (upd g 6 (nI (ruF isSp T r (p + 1))))) := by
      have := ih (p + 1) (upd g 6 (nI (p + 1))) (by omega) (upd_s _ _ _) (by rw [upd_n _ _ (by decide)]; exact g8)
      rw [upd_upd] at this
      rw [g171_34, e6, nI_1, row_wi]
      exact this
    rw [ruF]
    by_cases q1 : T p = 10
    · have : isSp (T p) = true := by unfold isSp; simp [q1]
      rw [if_pos this, ← go, g171_8]
      simp only [bm_run_ite, Option.toList_some, Option.bind_some, Option.toList_some, Option.toList_none, List.cons_append, List.nil_append, List.append_nil, eq_self, not_true_eq_false, not_false_eq_true, ite_true, ite_false, ↓reduceIte, Nat.reduceLT, Nat.reduceEqDiff, Nat.reduceAdd, or_true, true_or, or_false, false_or, e6, k, g171_16, q1]
    · by_cases q2 : T p = 32
      · have : isSp (T p) = true := by unfold isSp; simp [q2]
        rw [if_pos this, ← go, g171_8]
        simp only [bm_run_ite, Option.toList_some, Option.bind_some, Option.toList_some, Option.toList_none, List.cons_append, List.nil_append, List.append_nil, eq_self, not_true_eq_false, not_false_eq_true, ite_true, ite_false, ↓reduceIte, Nat.reduceLT, Nat.reduceEqDiff, Nat.reduceAdd, or_true, true_or, or_false, false_or, e6, k, g171_16, q1, g171_21, g171_29, q2]
        simp (decide := true) only [bm_run_ite, Option.toList_some, Option.bind_some, Option.toList_some, Option.toList_none, List.cons_append, List.nil_append, List.append_nil, eq_self, not_true_eq_false, not_false_eq_true, ite_true, ite_false, ↓reduceIte, Nat.reduceLT, Nat.reduceEqDiff, Nat.reduceAdd, or_true, true_or, or_false, false_or]
      · have : isSp (T p) = false := by unfold isSp; simp [q1, q2]
        have es : upd g 6 (nI p) = g := by rw [← g6, upd_self]
        rw [if_neg (by rw [this]; decide), es, g171_8]
        simp only [bm_run_ite, Option.toList_some, Option.bind_some, Option.toList_some, Option.toList_none, List.cons_append, List.nil_append, List.append_nil, eq_self, not_true_eq_false, not_false_eq_true, ite_true, ite_false, ↓reduceIte, Nat.reduceLT, Nat.reduceEqDiff, Nat.reduceAdd, or_true, true_or, or_false, false_or, e6, k, g171_16, q1, g171_21, g171_29, q2]
theorem m171l (h : tx T n σ) : ∀ r p g, p + r = n → g 7 = nI p → g 8 = nI n → bm_run S (d + 1) 171 89 [some (.ref 218), none] [] (bm_row σ 218 g) = bm_run S (d + 1) 171 116 [some (.ref 218), none] [] (bm_row σ 218 (upd g 7 (nI (ruF isL T r p)))) := by
  intro r
  induction r with
  | zero =>
    intro p g hp g7 g8
    have e7 : (bm_row σ 218 g).1 218 7 = nI p := by rw [bm_row_1s]; exact g7
    have k := m167 (S := S) (d := d) (i := p) h (by omega) g8
    rw [if_neg (by omega)] at k
    have kl := m168 (S := S) (d := d) (σ := bm_row σ 218 g) (Int32.ofInt (-1))
    have es : upd g 7 (nI (ruF isL T 0 p)) = g := by show upd g 7 (nI p) = g; rw [← g7, upd_self]
    have il : isL (Int32.ofInt (-1)) = false := by decide
    rw [il] at kl
    rw [es, g171_89]
    simp (decide := true) only [bm_run_ite, Option.toList_some, Option.bind_some, Option.toList_some, Option.toList_none, List.cons_append, List.nil_append, List.append_nil, eq_self, not_true_eq_false, not_false_eq_true, ite_true, ite_false, ↓reduceIte, Nat.reduceLT, Nat.reduceEqDiff, Nat.reduceAdd, or_true, true_or, or_false, false_or, e7, k, g171_97, kl, g171_100, bI_ite]
  | succ r ih =>
    intro p g hp g7 g8
    have e7 : (bm_row σ 218 g).1 218 7 = nI p := by rw [bm_row_1s]; exact g7
    have k := m167 (S := S) (d := d) (i := p) h (by omega) g8
    rw [if_pos (by omega)] at k
    have kl := m168 (S := S) (d := d) (σ := bm_row σ 218 g) (T p)
    rw [ruF]
    cases q : isL (T p)
    · rw [q] at kl
      have es : upd g 7 (nI p) = g := by rw [← g7, upd_self]
      rw [if_neg (by decide), es, g171_89]
      simp (decide := true) only [bm_run_ite, Option.toList_some, Option.bind_some, Option.toList_some, Option.toList_none, List.cons_append, List.nil_append, List.append_nil, eq_self, not_true_eq_false, not_false_eq_true, ite_true, ite_false, ↓reduceIte, Nat.reduceLT, Nat.reduceEqDiff, Nat.reduceAdd, or_true, true_or, or_false, false_or, e7, k, g171_97, kl, g171_100, bI_ite]
    · rw [q] at kl
      have := ih (p + 1) (upd g 7 (nI (p + 1))) (by omega) (upd_s _ _ _) (by rw [upd_n _ _ (by decide)]; exact g8)
      rw [upd_upd] at this
      rw [if_pos rfl, ← this, g171_89]
      simp (decide := true) only [bm_run_ite, Option.toList_some, Option.bind_some, Option.toList_some, Option.toList_none, List.cons_append, List.nil_append, List.append_nil, eq_self, not_true_eq_false, not_false_eq_true, ite_true, ite_false, ↓reduceIte, Nat.reduceLT, Nat.reduceEqDiff, Nat.reduceAdd, or_true, true_or, or_false, false_or, e7, k, g171_97, kl, g171_100, bI_ite, g171_103, nI_1, row_wi]
theorem m171d (h : tx T n σ) {s : Nat} : ∀ r p g, p + r = n → s ≤ p → g 6 = nI s → g 7 = nI p → g 8 = nI n → g 10 = nvF T s (min (p - s) 3) → bm_run S (d + 1) 171 146 [some (.ref 218), none] [] (bm_row σ 218 g) = bm_run S (d + 1) 171 209 [some (.ref 218), none] [] (bm_row σ 218 (upd (upd g 7 (nI (ruF isD T r p))) 10 (nvF T s (min (ruF isD T r p - s) 3)))) := by
  have h9 := h.1
  intro r
  induction r with
  | zero =>
    intro p g hp hs g6 g7 g8 g10
    have e7 : (bm_row σ 218 g).1 218 7 = nI p := by rw [bm_row_1s]; exact g7
    have k := m167 (S := S) (d := d) (i := p) h (by omega) g8
    rw [if_neg (by omega)] at k
    have kl := m169 (S := S) (d := d) (σ := bm_row σ 218 g) (Int32.ofInt (-1))
    have es : upd (upd g 7 (nI (ruF isD T 0 p))) 10 (nvF T s (min (ruF isD T 0 p - s) 3)) = g := by
      show upd (upd g 7 (nI p)) 10 (nvF T s (min (p - s) 3)) = g
      rw [← g10, ← g7, upd_self, upd_self]
    have il : isD (Int32.ofInt (-1)) = false := by decide
    rw [il] at kl
    rw [es, g171_146]
    simp (decide := true) only [bm_run_ite, Option.toList_some, Option.bind_some, Option.toList_some, Option.toList_none, List.cons_append, List.nil_append, List.append_nil, eq_self, not_true_eq_false, not_false_eq_true, ite_true, ite_false, ↓reduceIte, Nat.reduceLT, Nat.reduceEqDiff, Nat.reduceAdd, or_true, true_or, or_false, false_or, e7, k, g171_154, kl, g171_157, bI_ite]
  | succ r ih =>
    intro p g hp hs g6 g7 g8 g10
    have e7 : (bm_row σ 218 g).1 218 7 = nI p := by rw [bm_row_1s]; exact g7
    have e6 : (bm_row σ 218 g).1 218 6 = nI s := by rw [bm_row_1s]; exact g6
    have e10 : (bm_row σ 218 g).1 218 10 = g 10 := by rw [bm_row_1s]
    have k := m167 (S := S) (d := d) (i := p) h (by omega) g8
    rw [if_pos (by omega)] at k
    have kl := m169 (S := S) (d := d) (σ := bm_row σ 218 g) (T p)
    have sb : nI p - nI s = nI (p - s) := nI_sub hs
    rw [ruF]
    cases q : isD (T p)
    · rw [q] at kl
      have es : upd (upd g 7 (nI p)) 10 (nvF T s (min (p - s) 3)) = g := by rw [← g10, ← g7, upd_self, upd_self]
      rw [if_neg (by decide), es, g171_146]
      simp (decide := true) only [bm_run_ite, Option.toList_some, Option.bind_some, Option.toList_some, Option.toList_none, List.cons_append, List.nil_append, List.append_nil, eq_self, not_true_eq_false, not_false_eq_true, ite_true, ite_false, ↓reduceIte, Nat.reduceLT, Nat.reduceEqDiff, Nat.reduceAdd, or_true, true_or, or_false, false_or, e7, k, g171_154, kl, g171_157, bI_ite]
    · rw [q] at kl
      rw [if_pos rfl]
      by_cases q3 : 3 ≤ p - s
      · have le : (3 : Int32) ≤ nI (p - s) := nI_le (a := 3) q3 (by omega)
        have := ih (p + 1) (upd g 7 (nI (p + 1))) (by omega) (by omega) (by rw [upd_n _ _ (by decide)]; exact g6) (upd_s _ _ _) (by rw [upd_n _ _ (by decide)]; exact g8) (by rw [upd_n _ _ (by decide), g10, show min (p - s) 3 = min (p + 1 - s) 3 by omega])
        rw [upd_upd] at this
        rw [← this, g171_146]
        simp (decide := true) only [bm_run_ite, Option.toList_some, Option.bind_some, Option.toList_some, Option.toList_none, List.cons_append, List.nil_append, List.append_nil, eq_self, not_true_eq_false, not_false_eq_true, ite_true, ite_false, ↓reduceIte, Nat.reduceLT, Nat.reduceEqDiff, Nat.reduceAdd, or_true, true_or, or_false, false_or, e7, e6, k, g171_154, kl, g171_157, bI_ite, g171_160, sb, le, g171_196, nI_1, row_wi]
      · have le : ¬ (3 : Int32) ≤ nI (p - s) := nI_ge (b := 3) (by omega) (by decide)
        have nv : 10 * g 10 + T p - 48 = nvF T s (min (p + 1 - s) 3) := by
          rw [show min (p + 1 - s) 3 = (p - s) + 1 by omega, nvF, g10, show min (p - s) 3 = p - s by omega, show s + (p - s) = p by omega]
        have := ih (p + 1) (upd (upd g 10 (nvF T s (min (p + 1 - s) 3))) 7 (nI (p + 1))) (by omega) (by omega) (by rw [upd_n _ _ (by decide), upd_n _ _ (by decide)]; exact g6) (upd_s _ _ _) (by rw [upd_n _ _ (by decide), upd_n _ _ (by decide)]; exact g8) (by rw [upd_n _ _ (by decide), upd_s])
        have c1 : ∀ x y, upd (upd g 10 x) 7 y = upd (upd g 7 y) 10 x := fun x y => upd_comm g x y (by decide)
        rw [upd_upd, c1 _ (nI (ruF isD T r (p + 1))), upd_upd] at this
        rw [← this, g171_146]
        have e7b : ∀ x, (bm_row σ 218 (upd g 10 x)).1 218 7 = nI p := fun x => by rw [bm_row_1s, upd_n _ _ (by decide)]; exact g7
        simp (decide := true) only [bm_run_ite, Option.toList_some, Option.bind_some, Option.toList_some, Option.toList_none, List.cons_append, List.nil_append, List.append_nil, eq_self, not_true_eq_false, not_false_eq_true, ite_true, ite_false, ↓reduceIte, Nat.reduceLT, Nat.reduceEqDiff, Nat.reduceAdd, or_true, true_or, or_false, false_or, e7, e6, e10, k, g171_154, kl, g171_157, bI_ite, g171_160, sb, le, g171_173, g171_189, nv, row_wi, g171_196, e7b, nI_1]
theorem m171g {s : Nat} (h : tx T n σ) (hs : s < n) : ∀ r i g, i + r = 12 → g 6 = nI s → g 8 = nI n → g 9 = krT (gqF (T s) i) → bm_run S (d + 4) 171 254 [some (.ref 218), some (.int (nI i))] [] (bm_row σ 218 g) = some (none, bm_row σ 218 (upd g 9 (krT (gqF (T s) 12)))) := by
  intro r
  induction r with
  | zero =>
    intro i g hi g6 g8 g9
    have e : i = 12 := by omega
    subst e
    have le : (12 : Int32) ≤ nI 12 := by decide
    have es : upd g 9 (krT (gqF (T s) 12)) = g := by rw [← g9, upd_self]
    rw [es, g171_254]
    simp only [bm_run_ite, Option.toList_some, Option.bind_some, Option.toList_some, Option.toList_none, List.cons_append, List.nil_append, List.append_nil, eq_self, not_true_eq_false, not_false_eq_true, ite_true, ite_false, ↓reduceIte, Nat.reduceLT, Nat.reduceEqDiff, Nat.reduceAdd, or_true, true_or, or_false, false_or, c293.2.2.1, g171_260, le, g171_294]
  | succ r ih =>
    intro i g hi g6 g8 g9
    have e6 : (bm_row σ 218 g).1 218 6 = nI s := by rw [bm_row_1s]; exact g6
    have lt : ¬ (12 : Int32) ≤ nI i := nI_ge (b := 12) (by omega) (by decide)
    have k := m167 (S := S) (d := d + 3) (i := s) h (by omega) g8
    rw [if_pos hs] at k
    have ca := c294s (S := S) (d := d) (σ := bm_row σ 218 g) (j := i) (by omega)
    obtain ⟨_, _, gr⟩ := gq_r (T s) i (by omega)
    by_cases q : T s = am_byt 3 i
    · rw [if_pos q.symm] at gr
      have := ih (i + 1) (upd g 9 (30 + nI i)) (by omega) (by rw [upd_n _ _ (by decide)]; exact g6) (by rw [upd_n _ _ (by decide)]; exact g8) (by rw [upd_s, gr])
      rw [upd_upd] at this
      rw [← this, g171_254]
      simp only [bm_run_ite, Option.toList_some, Option.bind_some, Option.toList_some, Option.toList_none, List.cons_append, List.nil_append, List.append_nil, eq_self, not_true_eq_false, not_false_eq_true, ite_true, ite_false, ↓reduceIte, Nat.reduceLT, Nat.reduceEqDiff, Nat.reduceAdd, or_true, true_or, or_false, false_or, c293.2.2.1, g171_260, lt, g171_263, e6, k, g171_271, ca, g171_277, q, g171_280, row_wi, g171_288, nI_1]
    · rw [if_neg (fun z => q z.symm)] at gr
      have := ih (i + 1) g (by omega) g6 g8 (by rw [gr]; exact g9)
      rw [← this, g171_254]
      simp only [bm_run_ite, Option.toList_some, Option.bind_some, Option.toList_some, Option.toList_none, List.cons_append, List.nil_append, List.append_nil, eq_self, not_true_eq_false, not_false_eq_true, ite_true, ite_false, ↓reduceIte, Nat.reduceLT, Nat.reduceEqDiff, Nat.reduceAdd, or_true, true_or, or_false, false_or, c293.2.2.1, g171_260, lt, g171_263, e6, k, g171_271, ca, g171_277, q, g171_288, nI_1]
/-- the reference steps on to the next token -/
theorem m171 (h : tx T n σ) {p : Nat} {g : Nat → Int32} (hp : p ≤ n) (g7 : g 7 = nI p) (g8 : g 8 = nI n) : ∃ g1, bm_call S (d + 6) 171 [.ref 218] (bm_row σ 218 g) = some (none, bm_row σ 218 g1) ∧ g1 6 = nI (tkF T n p (g 10)).2.2.1 ∧ g1 7 = nI (tkF T n p (g 10)).2.2.2 ∧ g1 9 = krT (tkF T n p (g 10)).1 ∧ g1 10 = (tkF T n p (g 10)).2.1 ∧ ∀ i, i ≠ 6 → i ≠ 7 → i ≠ 9 → i ≠ 10 → g1 i = g i := by
  have h9 := h.1
  obtain ⟨r1, r2⟩ := ruF_le (P := isSp) (T := T) (n - p) p
  have sk := m171s (S := S) (d := d + 5) h (n - p) p (upd g 6 (nI p)) (by omega) (upd_s _ _ _) (by rw [upd_n _ _ (by decide)]; exact g8)
  rw [upd_upd] at sk
  have e7 : (bm_row σ 218 g).1 218 7 = nI p := by rw [bm_row_1s]; exact g7
  have go : bm_call S (d + 6) 171 [.ref 218] (bm_row σ 218 g) = bm_run S (d + 6) 171 47 [some (.ref 218), none] [] (bm_row σ 218 (upd g 6 (nI (ruF isSp T (n - p) p)))) := by
    rw [e171, g171_0, e7, row_wi]
    exact sk
  unfold tkF
  generalize hs : ruF isSp T (n - p) p = s at *
  have a6 : ∀ x, (bm_row σ 218 (upd (upd g 6 (nI s)) 7 x)).1 218 6 = nI s := fun x => by rw [bm_row_1s, upd_n _ _ (by decide), upd_s]
  have a8 : ∀ x, (bm_row σ 218 (upd (upd g 6 (nI s)) 7 x)).1 218 8 = nI n := fun x => by rw [bm_row_1s, upd_n _ _ (by decide), upd_n _ _ (by decide)]; exact g8
  have a60 : (bm_row σ 218 (upd g 6 (nI s))).1 218 6 = nI s := by rw [bm_row_1s, upd_s]
  have b6 : upd (upd g 6 (nI s)) 7 (nI s) 6 = nI s := by rw [upd_n _ _ (by decide), upd_s]
  have b8 : upd (upd g 6 (nI s)) 7 (nI s) 8 = nI n := by rw [upd_n _ _ (by decide), upd_n _ _ (by decide)]; exact g8
  by_cases q : n ≤ s
  · have es : s = n := by omega
    have lt : ¬ nI s < nI n := nI_nlt q (by omega)
    rw [if_pos q]
    refine ⟨upd (upd (upd g 6 (nI s)) 7 (nI s)) 9 24, go.trans ?_, ?_, ?_, ?_, ?_, fun i x1 x2 x3 x4 => ?_⟩
    · rw [g171_47, a60, row_wi, a6, a8]
      simp only [bm_run_ite, Option.toList_some, Option.bind_some, Option.toList_some, Option.toList_none, List.cons_append, List.nil_append, List.append_nil, eq_self, not_true_eq_false, not_false_eq_true, ite_true, ite_false, ↓reduceIte, Nat.reduceLT, Nat.reduceEqDiff, Nat.reduceAdd, or_true, true_or, or_false, false_or, lt, g171_66, row_wi, g171_294]
    · rw [upd_n _ _ (by decide), b6, es]
    · rw [upd_n _ _ (by decide), upd_s, es]
    · rw [upd_s]; rfl
    · rw [upd_n _ _ (by decide), upd_n _ _ (by decide), upd_n _ _ (by decide)]
    · rw [upd_n _ _ x3, upd_n _ _ x2, upd_n _ _ x1]
  rw [if_neg q]
  have lt : nI s < nI n := nI_lt (by omega) (by omega)
  have k := m167 (S := S) (d := d + 5) (i := s) h (by omega) b8
  rw [if_pos (by omega)] at k
  have kl := m168 (S := S) (d := d + 5) (σ := bm_row σ 218 (upd (upd g 6 (nI s)) 7 (nI s))) (T s)
  have kd := m169 (S := S) (d := d + 5) (σ := bm_row σ 218 (upd (upd g 6 (nI s)) 7 (nI s))) (T s)
  have go2 : bm_run S (d + 6) 171 47 [some (.ref 218), none] [] (bm_row σ 218 (upd g 6 (nI s))) = bm_run S (d + 6) 171 86 [some (.ref 218), none] [.int (bI (isL (T s)))] (bm_row σ 218 (upd (upd g 6 (nI s)) 7 (nI s))) := by
    rw [g171_47, a60, row_wi, a6, a8]
    simp only [bm_run_ite, Option.toList_some, Option.bind_some, Option.toList_some, Option.toList_none, List.cons_append, List.nil_append, List.append_nil, eq_self, not_true_eq_false, not_false_eq_true, ite_true, ite_false, ↓reduceIte, Nat.reduceLT, Nat.reduceEqDiff, Nat.reduceAdd, or_true, true_or, or_false, false_or, lt, g171_75, a6, k, g171_83, kl]
  cases ql : isL (T s)
  · rw [ql] at go2
    have go3 : bm_run S (d + 6) 171 47 [some (.ref 218), none] [] (bm_row σ 218 (upd g 6 (nI s))) = bm_run S (d + 6) 171 138 [some (.ref 218), none] [.int (bI (isD (T s)))] (bm_row σ 218 (upd (upd g 6 (nI s)) 7 (nI s))) := by
      refine go2.trans ?_
      rw [g171_86]
      simp (decide := true) only [bm_run_ite, Option.toList_some, Option.bind_some, Option.toList_some, Option.toList_none, List.cons_append, List.nil_append, List.append_nil, eq_self, not_true_eq_false, not_false_eq_true, ite_true, ite_false, ↓reduceIte, Nat.reduceLT, Nat.reduceEqDiff, Nat.reduceAdd, or_true, true_or, or_false, false_or, bI_ite, g171_127, a6, k, g171_135, kd]
    cases qd : isD (T s)
    · -- a sign
      rw [qd] at go3
      rw [if_neg (by decide), if_neg (by decide)]
      have a7 : (bm_row σ 218 (upd (upd g 6 (nI s)) 7 (nI s))).1 218 7 = nI s := by rw [bm_row_1s, upd_s]
      have gg := m171g (S := S) (d := d + 2) h (s := s) (by omega) 12 0 (upd (upd (upd (upd g 6 (nI s)) 7 (nI s)) 7 (nI (s + 1))) 9 25) (by omega) (by rw [upd_n _ _ (by decide), upd_n _ _ (by decide)]; exact b6) (by rw [upd_n _ _ (by decide), upd_n _ _ (by decide)]; exact b8) (by rw [upd_s]; rfl)
      rw [upd_upd, upd_upd] at gg
      refine ⟨upd (upd (upd g 6 (nI s)) 7 (nI (s + 1))) 9 (krT (gqF (T s) 12)), go.trans (go3.trans ?_), ?_, ?_, ?_, ?_, fun i x1 x2 x3 x4 => ?_⟩
      · rw [g171_138]
        simp (decide := true) only [bm_run_ite, Option.toList_some, Option.bind_some, Option.toList_some, Option.toList_none, List.cons_append, List.nil_append, List.append_nil, eq_self, not_true_eq_false, not_false_eq_true, ite_true, ite_false, ↓reduceIte, Nat.reduceLT, Nat.reduceEqDiff, Nat.reduceAdd, or_true, true_or, or_false, false_or, bI_ite, g171_236, a7, nI_1, row_wi, upd_upd]
        exact gg
      · rw [upd_n _ _ (by decide), upd_n _ _ (by decide), upd_s]
      · rw [upd_n _ _ (by decide), upd_s]
      · rw [upd_s]
      · rw [upd_n _ _ (by decide), upd_n _ _ (by decide), upd_n _ _ (by decide)]
      · rw [upd_n _ _ x3, upd_n _ _ x2, upd_n _ _ x1]
    · -- a number
      rw [qd] at go3
      rw [if_neg (by decide), if_pos rfl]
      have gg := m171d (S := S) (d := d + 5) h (s := s) (n - s) s (upd (upd (upd g 6 (nI s)) 7 (nI s)) 10 0) (by omega) (Nat.le_refl _) (by rw [upd_n _ _ (by decide)]; exact b6) (by rw [upd_n _ _ (by decide), upd_s]) (by rw [upd_n _ _ (by decide)]; exact b8) (by rw [upd_s, Nat.sub_self]; rfl)
      obtain ⟨y1, y2⟩ := ruF_le (P := isD) (T := T) (n - s) s
      generalize ruF isD T (n - s) s = e at *
      have c1 : ∀ x y, upd (upd (upd (upd g 6 (nI s)) 7 (nI s)) 10 x) 7 y = upd (upd (upd g 6 (nI s)) 7 y) 10 x := fun x y => by rw [upd_comm _ x y (show (10 : Nat) ≠ 7 by decide), upd_upd]
      rw [c1, upd_upd] at gg
      have f7 : ∀ x y, (bm_row σ 218 (upd (upd (upd g 6 (nI s)) 7 x) 10 y)).1 218 7 = x := fun x y => by rw [bm_row_1s, upd_n _ _ (by decide), upd_s]
      have f6 : ∀ x y, (bm_row σ 218 (upd (upd (upd g 6 (nI s)) 7 x) 10 y)).1 218 6 = nI s := fun x y => by rw [bm_row_1s, upd_n _ _ (by decide), upd_n _ _ (by decide), upd_s]
      have sb : nI e - nI s = nI (e - s) := nI_sub y1
      refine ⟨upd (upd (upd (upd g 6 (nI s)) 7 (nI e)) 10 (nvF T s (min (e - s) 3))) 9 (krT (if e - s ≤ 3 then 20 else 22)), go.trans (go3.trans ?_), ?_, ?_, ?_, ?_, fun i x1 x2 x3 x4 => ?_⟩
      · rw [g171_138]
        simp (decide := true) only [bm_run_ite, Option.toList_some, Option.bind_some, Option.toList_some, Option.toList_none, List.cons_append, List.nil_append, List.append_nil, eq_self, not_true_eq_false, not_false_eq_true, ite_true, ite_false, ↓reduceIte, Nat.reduceLT, Nat.reduceEqDiff, Nat.reduceAdd, or_true, true_or, or_false, false_or, bI_ite, g171_141, row_wi]
        refine gg.trans ?_
        by_cases q3 : e - s ≤ 3
        · have le : nI (e - s) ≤ 3 := nI_le (b := 3) q3 (by decide)
          rw [g171_209, if_pos q3]
          simp (decide := true) only [bm_run_ite, Option.toList_some, Option.bind_some, Option.toList_some, Option.toList_none, List.cons_append, List.nil_append, List.append_nil, eq_self, not_true_eq_false, not_false_eq_true, ite_true, ite_false, ↓reduceIte, Nat.reduceLT, Nat.reduceEqDiff, Nat.reduceAdd, or_true, true_or, or_false, false_or, f7, f6, sb, le, g171_228, g171_230, row_wi, g171_294]
          rfl
        · have le : ¬ nI (e - s) ≤ 3 := nI_ge (a := 3) (by omega) (by omega)
          rw [g171_209, if_neg q3]
          simp (decide := true) only [bm_run_ite, Option.toList_some, Option.bind_some, Option.toList_some, Option.toList_none, List.cons_append, List.nil_append, List.append_nil, eq_self, not_true_eq_false, not_false_eq_true, ite_true, ite_false, ↓reduceIte, Nat.reduceLT, Nat.reduceEqDiff, Nat.reduceAdd, or_true, true_or, or_false, false_or, f7, f6, sb, le, g171_223, g171_230, row_wi, g171_294]
          rfl
      · rw [upd_n _ _ (by decide), upd_n _ _ (by decide), upd_n _ _ (by decide), upd_s]
      · rw [upd_n _ _ (by decide), upd_n _ _ (by decide), upd_s]
      · rw [upd_s]
      · rw [upd_n _ _ (by decide), upd_s]
      · rw [upd_n _ _ x3, upd_n _ _ x4, upd_n _ _ x2, upd_n _ _ x1]
  · -- a word
    rw [ql] at go2
    rw [if_pos rfl]
    have gg := m171l (S := S) (d := d + 5) h (n - s) s (upd (upd g 6 (nI s)) 7 (nI s)) (by omega) (upd_s _ _ _) b8
    rw [upd_upd] at gg
    obtain ⟨y1, y2⟩ := ruF_le (P := isL) (T := T) (n - s) s
    generalize ruF isL T (n - s) s = e at *
    have k70 := m170 (S := S) (d := d + 1) (σ := bm_row σ 218 (upd (upd g 6 (nI s)) 7 (nI e))) (s := s) (e := e) (a6 _) (by rw [bm_row_1s, upd_s]) y1 (by omega)
    rw [bm_row_1n _ _ (by decide), h.2.1] at k70
    refine ⟨upd (upd (upd g 6 (nI s)) 7 (nI e)) 9 (krT (wqF (wo T s e))), go.trans (go2.trans ?_), ?_, ?_, ?_, ?_, fun i x1 x2 x3 x4 => ?_⟩
    · rw [g171_86]
      simp (decide := true) only [bm_run_ite, Option.toList_some, Option.bind_some, Option.toList_some, Option.toList_none, List.cons_append, List.nil_append, List.append_nil, eq_self, not_true_eq_false, not_false_eq_true, ite_true, ite_false, ↓reduceIte, Nat.reduceLT, Nat.reduceEqDiff, Nat.reduceAdd, or_true, true_or, or_false, false_or, bI_ite]
      refine gg.trans ?_
      rw [g171_116, (wq_r _).1]
      simp only [bm_run_ite, Option.toList_some, Option.bind_some, Option.toList_some, Option.toList_none, List.cons_append, List.nil_append, List.append_nil, eq_self, not_true_eq_false, not_false_eq_true, ite_true, ite_false, ↓reduceIte, Nat.reduceLT, Nat.reduceEqDiff, Nat.reduceAdd, or_true, true_or, or_false, false_or, k70, g171_121, row_wi, g171_294]
    · rw [upd_n _ _ (by decide), upd_n _ _ (by decide), upd_s]
    · rw [upd_n _ _ (by decide), upd_s]
    · rw [upd_s]
    · rw [upd_n _ _ (by decide), upd_n _ _ (by decide), upd_n _ _ (by decide)]
    · rw [upd_n _ _ x3, upd_n _ _ x2, upd_n _ _ x1]
end STEPM
