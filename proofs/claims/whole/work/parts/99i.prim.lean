theorem tk_v {T : Nat → Int32} {n p : Nat} (v0 : Int32) : (tkF T n p v0).1 = (tkF T n p 0).1 ∧ (tkF T n p v0).2.2 = (tkF T n p 0).2.2 ∧ ((tkF T n p 0).1 = 20 → (tkF T n p v0).2.1 = (tkF T n p 0).2.1) := by
  unfold tkF
  generalize ruF isSp T (n - p) p = s
  simp only
  by_cases q : n ≤ s
  · rw [if_pos q, if_pos q]; exact ⟨rfl, rfl, fun h => absurd (show (21 : Nat) = 20 from h) (by decide)⟩
  · rw [if_neg q, if_neg q]
    cases ql : isL (T s)
    · simp only [Bool.false_eq_true, if_false]
      cases qd : isD (T s)
      · simp only [Bool.false_eq_true, if_false]
        refine ⟨trivial, trivial, fun h => ?_⟩
        have := (gq_r (T s) 12 (Nat.le_refl _)).1
        exact absurd h (by show ¬ gqF (T s) 12 = 20; omega)
      · simp only [if_true]; exact ⟨trivial, trivial, fun _ => trivial⟩
    · simp only [if_true]
      refine ⟨trivial, trivial, fun h => ?_⟩
      have := (wq_r (wo T s (ruF isL T (n - s) s))).2
      exact absurd h (by show ¬ wqF _ = 20; omega)
theorem po_le {T : Nat → Int32} {n : Nat} : ∀ i, poF T n i ≤ n := by
  intro i
  induction i with
  | zero => exact Nat.zero_le _
  | succ i ih =>
    show (tkF T n (poF T n i) 0).2.2.2 ≤ n
    unfold tkF
    have := (ruF_le (P := isSp) (T := T) (n - poF T n i) (poF T n i)).2
    generalize ruF isSp T (n - poF T n i) (poF T n i) = s at *
    simp only
    split
    · exact Nat.le_refl _
    · split
      · have := (ruF_le (P := isL) (T := T) (n - s) s).2
        show ruF isL T (n - s) s ≤ n; omega
      · split
        · have := (ruF_le (P := isD) (T := T) (n - s) s).2
          show ruF isD T (n - s) s ≤ n; omega
        · show s + 1 ≤ n; omega
def qN (T : Nat → Int32) (n i : Nat) : Nat := (tkN T n i).1
def vN (T : Nat → Int32) (n i : Nat) : Int32 := (tkN T n i).2.1
def sN (T : Nat → Int32) (n i : Nat) : Nat := (tkN T n i).2.2.1
def st2 (σ : bm_S) (g r : Nat → Int32) : bm_S := bm_row (bm_row σ 222 r) 218 g
/-- the reference stands at token i -/
def MT (T : Nat → Int32) (n i : Nat) (g : Nat → Int32) : Prop := g 11 = 0 ∧ g 9 = krT (qN T n i) ∧ g 6 = nI (sN T n i) ∧ g 7 = nI (poF T n (i + 1)) ∧ g 8 = nI n ∧ (qN T n i = 20 → g 10 = vN T n i)
def FG (g g1 : Nat → Int32) : Prop := ∀ i, i ≠ 6 → i ≠ 7 → i ≠ 9 → i ≠ 10 → i ≠ 11 → i ≠ 12 → g1 i = g i
theorem FG.rfl (g : Nat → Int32) : FG g g := fun _ _ _ _ _ _ _ => Eq.refl _
theorem FG.tr {g h k : Nat → Int32} (a : FG g h) (b : FG h k) : FG g k := fun i x1 x2 x3 x4 x5 x6 => (b i x1 x2 x3 x4 x5 x6).trans (a i x1 x2 x3 x4 x5 x6)
theorem kr_inj : ∀ a, a < 35 → ∀ b, b < 35 → (krT a = krT b ↔ a = b) := by decide +kernel
theorem q_lt {T : Nat → Int32} {n i : Nat} : qN T n i < 35 := by
  unfold qN tkN tkF
  generalize ruF isSp T (n - poF T n i) (poF T n i) = s
  simp only
  split
  · show (21 : Nat) < 35; decide
  · split
    · have := (wq_r (wo T s (ruF isL T (n - s) s))).2
      show wqF _ < 35; omega
    · split
      · show (if _ then 20 else 22) < 35
        split <;> decide
      · exact (gq_r (T s) 12 (Nat.le_refl _)).2.1
section PRIM
variable {S : am_S} {d : Nat} {σ : bm_S} {T : Nat → Int32} {n : Nat} {g r : Nat → Int32}
theorem s2_16 : (st2 σ g r).1 218 = g := bm_row_1s _ _ _
theorem s2_20 : (st2 σ g r).1 222 = r := by unfold st2; rw [bm_row_1n _ _ (by decide), bm_row_1s]
theorem s2_tx (h : tx T n σ) : tx T n (bm_row σ 222 r) := ⟨h.1, by rw [bm_row_1n _ _ (by decide)]; exact h.2.1, h.2.2⟩
theorem s2_wg (k : Nat) (x : Int32) : bm_wi (st2 σ g r) 218 k x = st2 σ (upd g k x) r := row_wi _ _ _ _ _
theorem s2_wr (k : Nat) (x : Int32) : bm_wi (st2 σ g r) 222 k x = st2 σ g (upd r k x) := by
  unfold st2 bm_wi
  rw [bm_row_1n _ _ (by decide), bm_row_1s]
  unfold bm_row
  simp only
  congr 1
  funext y
  by_cases e : y = 218
  · subst e; simp
  · by_cases e2 : y = 222 <;> simp [e, e2]
/-- one step on -/
theorem m171t (h : tx T n σ) {i : Nat} (m : MT T n i g) : ∃ g1, bm_call S (d + 6) 171 [.ref 218] (st2 σ g r) = some (none, st2 σ g1 r) ∧ MT T n (i + 1) g1 ∧ FG g g1 := by
  obtain ⟨m1, m2, m3, m4, m5, m6⟩ := m
  obtain ⟨g1, k, x6, x7, x9, x10, xo⟩ := m171 (S := S) (d := d) (σ := bm_row σ 222 r) (s2_tx h) (p := poF T n (i + 1)) (g := g) (po_le _) m4 m5
  obtain ⟨t1, t2, t3⟩ := tk_v (T := T) (n := n) (p := poF T n (i + 1)) (g 10)
  rw [t2] at x6 x7
  rw [t1] at x9
  refine ⟨g1, k, ⟨by rw [xo 11 (by decide) (by decide) (by decide) (by decide)]; exact m1, x9, x6, x7, by rw [xo 8 (by decide) (by decide) (by decide) (by decide)]; exact m5, fun hq => by rw [x10]; exact t3 hq⟩, fun k a b c e _ _ => xo k a b c e⟩
theorem m173 (k : Int32) : bm_call S d 173 [.ref 218, .int k] (st2 σ g r) = some (some (.int (bI (decide (g 11 = 0) && decide (g 9 = k)))), st2 σ g r) := by
  have e11 : (st2 σ g r).1 218 11 = g 11 := by rw [s2_16]
  have e9 : (st2 σ g r).1 218 9 = g 9 := by rw [s2_16]
  by_cases a : g 11 = 0
  · by_cases b : g 9 = k
    · simp [e173, g173_0, g173_7, g173_15, g173_20, bm_run_ite, e11, e9, a, b, bI]
    · simp [e173, g173_0, g173_7, g173_19, g173_20, bm_run_ite, e11, e9, a, b, bI]
  · simp [e173, g173_0, g173_19, g173_20, bm_run_ite, e11, a, bI]
theorem m172e (h : ¬ g 11 = 0) (w : Int32) : bm_call S d 172 [.ref 218, .int w] (st2 σ g r) = some (none, st2 σ g r) := by
  have e11 : (st2 σ g r).1 218 11 = g 11 := by rw [s2_16]
  simp only [e172, g172_0, g172_7, bm_run_ite, Option.toList_some, Option.bind_some, Option.toList_some, Option.toList_none, List.cons_append, List.nil_append, List.append_nil, eq_self, not_true_eq_false, not_false_eq_true, ite_true, ite_false, ↓reduceIte, Nat.reduceLT, Nat.reduceEqDiff, Nat.reduceAdd, or_true, true_or, or_false, false_or, e11, h]
/-- a fault, told -/
def MF (T : Nat → Int32) (n : Nat) (w : Int32) (i : Nat) (g : Nat → Int32) : Prop := g 11 = w ∧ ¬ w = 0 ∧ g 12 = nI (sN T n i)
theorem m172t {i : Nat} (m : MT T n i g) {w : Int32} (hw : ¬ w = 0) : ∃ g1, bm_call S d 172 [.ref 218, .int w] (st2 σ g r) = some (none, st2 σ g1 r) ∧ MF T n (if qN T n i = 22 then 1 else w) i g1 ∧ FG g g1 := by
  obtain ⟨m1, m2, m3, m4, m5, m6⟩ := m
  have e11 : (st2 σ g r).1 218 11 = 0 := by rw [s2_16]; exact m1
  have e9 : (st2 σ g r).1 218 9 = krT (qN T n i) := by rw [s2_16]; exact m2
  have e6 : ∀ x, (st2 σ (upd g 11 x) r).1 218 6 = nI (sN T n i) := fun x => by rw [s2_16, upd_n _ _ (by decide)]; exact m3
  have k25 : krT (qN T n i) = 25 ↔ qN T n i = 22 := kr_inj _ q_lt 22 (by decide)
  refine ⟨upd (upd g 11 (if qN T n i = 22 then 1 else w)) 12 (nI (sN T n i)), ?_, ⟨by rw [upd_n _ _ (by decide), upd_s], by split; decide; exact hw, upd_s _ _ _⟩, fun j _ _ _ _ x y => by rw [upd_n _ _ y, upd_n _ _ x]⟩
  by_cases q : qN T n i = 22
  · have q2 := k25.mpr q
    rw [if_pos q]
    simp (decide := true) only [e172, g172_0, g172_8, g172_18, g172_23, bm_run_ite, Option.toList_some, Option.bind_some, Option.toList_some, Option.toList_none, List.cons_append, List.nil_append, List.append_nil, eq_self, not_true_eq_false, not_false_eq_true, ite_true, ite_false, ↓reduceIte, Nat.reduceLT, Nat.reduceEqDiff, Nat.reduceAdd, or_true, true_or, or_false, false_or, e11, e9, q2, s2_wg, e6]
  · have q2 : ¬ krT (qN T n i) = 25 := fun z => q (k25.mp z)
    rw [if_neg q]
    simp (decide := true) only [e172, g172_0, g172_8, g172_22, g172_23, bm_run_ite, Option.toList_some, Option.bind_some, Option.toList_some, Option.toList_none, List.cons_append, List.nil_append, List.append_nil, eq_self, not_true_eq_false, not_false_eq_true, ite_true, ite_false, ↓reduceIte, Nat.reduceLT, Nat.reduceEqDiff, Nat.reduceAdd, or_true, true_or, or_false, false_or, e11, e9, q2, s2_wg, e6]
theorem m174n {k : Int32} (h : ¬ (g 11 = 0 ∧ g 9 = k)) : bm_call S (d + 1) 174 [.ref 218, .int k] (st2 σ g r) = some (some (.int 0), st2 σ g r) := by
  have k3 := m173 (S := S) (d := d) (σ := σ) (g := g) (r := r) k
  have e : (decide (g 11 = 0) && decide (g 9 = k)) = false := by
    cases z : (decide (g 11 = 0) && decide (g 9 = k))
    · rfl
    · simp only [Bool.and_eq_true, decide_eq_true_eq] at z; exact absurd z h
  rw [e] at k3
  simp (decide := true) only [e174, g174_0, g174_5, g174_8, bm_run_ite, Option.toList_some, Option.bind_some, Option.toList_some, Option.toList_none, List.cons_append, List.nil_append, List.append_nil, eq_self, not_true_eq_false, not_false_eq_true, ite_true, ite_false, ↓reduceIte, Nat.reduceLT, Nat.reduceEqDiff, Nat.reduceAdd, or_true, true_or, or_false, false_or, k3, bI_itn]
theorem m174y (h : tx T n σ) {i : Nat} (m : MT T n i g) {w : Nat} (hw : w < 35) (hq : qN T n i = w) : ∃ g1, bm_call S (d + 7) 174 [.ref 218, .int (krT w)] (st2 σ g r) = some (some (.int 1), st2 σ g1 r) ∧ MT T n (i + 1) g1 ∧ FG g g1 := by
  obtain ⟨g1, k1, m1, f1⟩ := m171t (S := S) (d := d) (r := r) h m
  have k3 := m173 (S := S) (d := d + 6) (σ := σ) (g := g) (r := r) (krT w)
  rw [m.1, m.2.1, hq] at k3
  refine ⟨g1, ?_, m1, f1⟩
  simp (decide := true) only [e174, g174_0, g174_5, g174_10, g174_14, bm_run_ite, Option.toList_some, Option.bind_some, Option.toList_some, Option.toList_none, List.cons_append, List.nil_append, List.append_nil, eq_self, not_true_eq_false, not_false_eq_true, ite_true, ite_false, ↓reduceIte, Nat.reduceLT, Nat.reduceEqDiff, Nat.reduceAdd, or_true, true_or, or_false, false_or, k3, bI_itn, decide_true, Bool.and_true, k1]
end PRIM
