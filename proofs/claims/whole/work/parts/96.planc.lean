theorem t176 : bm_tag 178 = 0 := by decide +kernel
theorem t177 : bm_tag 179 = 0 := by decide +kernel
theorem t178 : bm_tag 180 = 0 := by decide +kernel
theorem t179 : bm_tag 181 = 0 := by decide +kernel
theorem l176 : bm_len 178 = 10 := by decide +kernel
theorem l177 : bm_len 179 = 40 := by decide +kernel
theorem l178 : bm_len 180 = 4 := by decide +kernel
theorem l179 : bm_len 181 = 4 := by decide +kernel
theorem q1e9 : (1000000000 : Int64) = qL 1000000000 := by decide +kernel
theorem q0 : (0 : Int64) = qL 0 := by decide +kernel
def hW4 (W : Nat → Nat → Nat) : Prop := ∀ i j, j < 4 → 1 ≤ W i j ∧ W i j ≤ 999
def PC (W : Nat → Nat → Nat) (C n : Nat) (σ : bm_S) : Prop := (∀ i, i ≤ n → ∀ j, j < C → σ.1 179 (4 * i + j) = nI (W i j)) ∧ σ.1 177 5 = nI C ∧ σ.1 177 6 = nI n
def F8 (σ τ : bm_S) : Prop := (∀ a, a ≠ 180 → a ≠ 181 → τ.1 a = σ.1 a) ∧ τ.2 = σ.2
theorem F8.rfl (σ : bm_S) : F8 σ σ := ⟨fun _ _ _ => Eq.refl _, Eq.refl _⟩
theorem F8.tr {σ τ ρ : bm_S} (h : F8 σ τ) (h1 : F8 τ ρ) : F8 σ ρ := ⟨fun a x y => (h1.1 a x y).trans (h.1 a x y), h1.2.trans h.2⟩
theorem F8.wi {σ τ : bm_S} (h : F8 σ τ) {a : Nat} (ha : a = 180 ∨ a = 181) (k : Nat) (x : Int32) : F8 σ (bm_wi τ a k x) := ⟨fun b x1 x2 => (wi_n τ (by omega) k x).trans (h.1 b x1 x2), h.2⟩
theorem F8.PC {W : Nat → Nat → Nat} {C n : Nat} {σ τ : bm_S} (h : F8 σ τ) (p : PC W C n σ) : PC W C n τ := ⟨fun i hi j hj => by rw [h.1 179 (by decide) (by decide)]; exact p.1 i hi j hj, by rw [h.1 177 (by decide) (by decide)]; exact p.2.1, by rw [h.1 177 (by decide) (by decide)]; exact p.2.2⟩
theorem F8.kp {σ τ : bm_S} (h : F8 σ τ) : Kp σ τ := ⟨fun a x _ => h.1 a (by unfold Sc at x; omega) (by unfold Sc at x; omega), fun b _ => by rw [h.1 218 (by decide) (by decide)], fun a _ => by rw [h.2]⟩
section PLANC
variable {S : am_S} {d : Nat} {σ : bm_S} {W : Nat → Nat → Nat} {C n : Nat}
theorem c22 (hw : hW4 W) (hC : C ≤ 4) (hn : n ≤ 9) (p : PC W C n σ) {i k c j : Nat} (hi : i ≤ n) (hk : k < C) (hj : j < C) (hc : c ≤ 1000000000) : bm_call S (d + 2) 22 [.ref 177, .int (nI i), .int (nI k), .int (nI c), .int (nI j)] σ = some (some (.int (nI (chF W i k c j))), σ) := by
  unfold chF
  by_cases e : k = j
  · subst e
    simp (decide := true) only [e22, g22_0, g22_6, bm_run_ite, Option.toList_some, Option.bind_some, Option.toList_some, Option.toList_none, List.cons_append, List.nil_append, List.append_nil, eq_self, not_true_eq_false, not_false_eq_true, ite_true, ite_false, ↓reduceIte, Nat.reduceLT, Nat.reduceEqDiff, Nat.reduceAdd, or_true, true_or, or_false, false_or]
  · have e1 : ¬ nI k = nI j := fun z => e ((nI_eq (by omega) (by omega)).mp z)
    obtain ⟨a1, a2⟩ := hw i k (by omega)
    obtain ⟨b1, b2⟩ := hw i j (by omega)
    have cw : c * W i k ≤ 1000000000 * 999 := Nat.mul_le_mul hc a2
    have m1 := (mul4 i (by omega) k (by omega)).1
    have m2 := (mul4 i (by omega) j (by omega)).1
    have r1 : ∀ d, bm_call S d 158 [.ref 179, .int (nI (4 * i + k))] σ = some (some (.int (nI (W i k))), σ) := fun d => by rw [at_row t177 l177 (by omega) (by decide), p.1 i hi k hk]
    have r2 : ∀ d, bm_call S d 158 [.ref 179, .int (nI (4 * i + j))] σ = some (some (.int (nI (W i j))), σ) := fun d => by rw [at_row t177 l177 (by omega) (by decide), p.1 i hi j hj]
    have x1 : (nI c).toInt64 * (nI (W i k)).toInt64 = qL (c * W i k) := by rw [qL_nI (by omega), qL_nI (by omega), qL_mul (by omega) (by omega) (by omega)]
    have x2 : ¬ qL (W i j) = 0 := fun z => by rw [q0] at z; have := (qL_eq (by omega) (by omega)).mp z; omega
    have x3 : qL (c * W i k) / qL (W i j) = qL (c * W i k / W i j) := qL_div (by omega) (by omega) (by omega)
    have dl : c * W i k / W i j ≤ c * W i k := Nat.div_le_self _ _
    rw [if_neg e]
    by_cases q : c * W i k / W i j < 1000000000
    · have x4 : qL (c * W i k / W i j) < qL 1000000000 := (qL_lt (by omega) (by omega)).mpr q
      rw [if_pos q]
      have x5 : (qL (c * W i k / W i j)).toInt32 = nI (c * W i k / W i j) := qL_32 (by omega)
      have x6 : (nI (W i j)).toInt64 = qL (W i j) := qL_nI (by omega)
      simp (decide := true) only [e22, g22_0, g22_8, g22_22, g22_44, g22_48, g22_51, bm_run_ite, Option.toList_some, Option.bind_some, Option.toList_some, Option.toList_none, List.cons_append, List.nil_append, List.append_nil, eq_self, not_true_eq_false, not_false_eq_true, ite_true, ite_false, ↓reduceIte, Nat.reduceLT, Nat.reduceEqDiff, Nat.reduceAdd, or_true, true_or, or_false, false_or, e1, m1, m2, r1, r2, x1, x6, c160, x2, x3, c292, q1e9, x4, x5]
    · have x4 : ¬ qL (c * W i k / W i j) < qL 1000000000 := fun z => q ((qL_lt (by omega) (by omega)).mp z)
      rw [if_neg q]
      have x5 : (qL 1000000000).toInt32 = nI 1000000000 := qL_32 (by omega)
      have x6 : (nI (W i j)).toInt64 = qL (W i j) := qL_nI (by omega)
      simp (decide := true) only [e22, g22_0, g22_8, g22_22, g22_44, g22_48, g22_51, bm_run_ite, Option.toList_some, Option.bind_some, Option.toList_some, Option.toList_none, List.cons_append, List.nil_append, List.append_nil, eq_self, not_true_eq_false, not_false_eq_true, ite_true, ite_false, ↓reduceIte, Nat.reduceLT, Nat.reduceEqDiff, Nat.reduceAdd, or_true, true_or, or_false, false_or, e1, m1, m2, r1, r2, x1, x6, c160, x2, x3, c292, q1e9, x4, x5]
theorem c24 (hw : hW4 W) (hC : C ≤ 4) (hn : n ≤ 9) (p : PC W C n σ) {i : Nat} (hi : i ≤ n) {g : Nat → Nat} (hg : ∀ k, k < C → g k ≤ 1000000000) (hr : ∀ k, k < C → σ.1 180 k = nI (g k)) : ∃ σ1, bm_call S (d + 3) 24 [.ref 177, .int (nI i)] σ = some (none, σ1) ∧ F8 σ σ1 ∧ ∀ k, k < C → σ1.1 180 k = nI (gsF W C i g k) := by
  obtain ⟨⟨⟨o3, o4⟩, s1⟩, e1, f1, h1, r1⟩ := loop_ex (fun j (s : (Option Value × Option Value) × bm_S) => bm_run S (d + 3) 24 2 [some (.ref 177), some (.int (nI i)), some (.int (nI j)), s.1.1, s.1.2] [] s.2) (fun j s => F8 σ s.2 ∧ (∀ k, k < C → s.2.1 180 k = nI (g k)) ∧ ∀ k, k < j → s.2.1 181 k = nI (gsF W C i g k)) C ((none, none), σ) ⟨F8.rfl σ, hr, fun k hk => absurd hk (by omega)⟩ (by
    intro j s hj hs
    obtain ⟨f1, h1, r1⟩ := hs
    have ps := f1.PC p
    have e2 := loop_eq (fun k => bm_run S (d + 3) 24 15 [some (.ref 177), some (.int (nI i)), some (.int (nI j)), some (.int (nI (mxF (fun k => chF W i k (g k) j) k))), some (.int (nI k))] [] s.2) C (by
      intro k hk
      have a1 : bm_call S (d + 2) 158 [.ref 180, .int (nI k)] s.2 = some (some (.int (nI (g k))), s.2) := by rw [at_row t178 l178 (by omega) (by decide), h1 k hk]
      have a2 := c22 (S := S) (d := d) hw hC hn ps hi hk hj (hg k hk)
      have b1 : mxF (fun k => chF W i k (g k) j) k ≤ 1000000000 := mxF_le (fun x hx => chF_le (hg x (by omega)))
      have b2 : chF W i k (g k) j ≤ 1000000000 := chF_le (hg k hk)
      rw [g24_15, mxF]
      by_cases q : mxF (fun k => chF W i k (g k) j) k < chF W i k (g k) j
      · have q1 : nI (mxF (fun k => chF W i k (g k) j) k) < nI (chF W i k (g k) j) := nI_lt q (by omega)
        simp (disch := omega) only [bm_run_ite, Option.toList_some, Option.bind_some, Option.toList_some, Option.toList_none, List.cons_append, List.nil_append, List.append_nil, eq_self, not_true_eq_false, not_false_eq_true, ite_true, ite_false, ↓reduceIte, Nat.reduceLT, Nat.reduceEqDiff, Nat.reduceAdd, or_true, true_or, or_false, false_or, nI_clamp2, nI_lt0F, nI_leT, nI_leF, nI_ltT, nI_ltF, n_leF, n_leT, nI_1, kA6, kA8, kA10, kA22, kA26, kA32, kA44, kA56, kA68, kA80, kA93, kA163, kA794, not_or, or_self, and_self, and_true, true_and, ps.2.1, g24_24, a1, g24_38, a2, g24_42, c289, q1, q, g24_45]
      · have q1 : ¬ nI (mxF (fun k => chF W i k (g k) j) k) < nI (chF W i k (g k) j) := nI_nlt (by omega) (by omega)
        simp (disch := omega) only [bm_run_ite, Option.toList_some, Option.bind_some, Option.toList_some, Option.toList_none, List.cons_append, List.nil_append, List.append_nil, eq_self, not_true_eq_false, not_false_eq_true, ite_true, ite_false, ↓reduceIte, Nat.reduceLT, Nat.reduceEqDiff, Nat.reduceAdd, or_true, true_or, or_false, false_or, nI_clamp2, nI_lt0F, nI_leT, nI_leF, nI_ltT, nI_ltF, n_leF, n_leT, nI_1, kA6, kA8, kA10, kA22, kA26, kA32, kA44, kA56, kA68, kA80, kA93, kA163, kA794, not_or, or_self, and_self, and_true, true_and, ps.2.1, g24_24, a1, g24_38, a2, g24_42, c289, q1, q, g24_45])
    have sv : bm_call S (d + 2) 159 [.ref 181, .int (nI j), .int (nI (gsF W C i g j))] s.2 = some (none, bm_wi s.2 181 j (nI (gsF W C i g j))) := set_row t179 l179 (by omega) (by decide) _
    refine ⟨((some (.int (nI (gsF W C i g j))), some (.int (nI C))), bm_wi s.2 181 j (nI (gsF W C i g j))), ?_, f1.wi (by omega) _ _, fun k hk => ?_, fun k hk => ?_⟩
    · rw [g24_2]
      simp (disch := omega) only [bm_run_ite, Option.toList_some, Option.bind_some, Option.toList_some, Option.toList_none, List.cons_append, List.nil_append, List.append_nil, eq_self, not_true_eq_false, not_false_eq_true, ite_true, ite_false, ↓reduceIte, Nat.reduceLT, Nat.reduceEqDiff, Nat.reduceAdd, or_true, true_or, or_false, false_or, nI_clamp2, nI_lt0F, nI_leT, nI_leF, nI_ltT, nI_ltF, n_leF, n_leT, nI_1, kA6, kA8, kA10, kA22, kA26, kA32, kA44, kA56, kA68, kA80, kA93, kA163, kA794, not_or, or_self, and_self, and_true, true_and, ps.2.1, g24_10]
      refine (show bm_run S (d + 3) 24 15 [some (.ref 177), some (.int (nI i)), some (.int (nI j)), some (.int (nI 0)), some (.int (nI 0))] [] s.2 = _ from e2).trans ?_
      rw [g24_15]
      have sv2 : bm_call S (d + 2) 159 [.ref 181, .int (nI j), .int (nI (mxF (fun k => chF W i k (g k) j) C))] s.2 = some (none, bm_wi s.2 181 j (nI (gsF W C i g j))) := sv
      simp (disch := omega) only [bm_run_ite, Option.toList_some, Option.bind_some, Option.toList_some, Option.toList_none, List.cons_append, List.nil_append, List.append_nil, eq_self, not_true_eq_false, not_false_eq_true, ite_true, ite_false, ↓reduceIte, Nat.reduceLT, Nat.reduceEqDiff, Nat.reduceAdd, or_true, true_or, or_false, false_or, nI_clamp2, nI_lt0F, nI_leT, nI_leF, nI_ltT, nI_ltF, n_leF, n_leT, nI_1, kA6, kA8, kA10, kA22, kA26, kA32, kA44, kA56, kA68, kA80, kA93, kA163, kA794, not_or, or_self, and_self, and_true, true_and, ps.2.1, g24_52, sv2, g24_61]
      rfl
    · show (bm_wi s.2 181 j _).1 180 k = _
      rw [wi_n _ (by decide)]; exact h1 k hk
    · show (bm_wi s.2 181 j _).1 181 k = _
      rw [wi_s]
      by_cases e : k = j
      · subst e; rw [upd_s]
      · rw [upd_n _ _ e]; exact r1 k (by omega))
  replace e1 : bm_run S (d + 3) 24 2 [some (.ref 177), some (.int (nI i)), some (.int (nI 0)), none, none] [] σ = bm_run S (d + 3) 24 2 [some (.ref 177), some (.int (nI i)), some (.int (nI C)), o3, o4] [] s1 := e1
  replace f1 : F8 σ s1 := f1
  replace r1 : ∀ k, k < C → s1.1 181 k = nI (gsF W C i g k) := r1
  have p1 := f1.PC p
  have cp := c162 (S := S) (d := d + 1) (σ := s1) t179 t178 (by rw [l178, l179]) (by rw [l178]; decide)
  rw [l178] at cp
  refine ⟨bm_row s1 180 (va_cpy (s1.1 181) (s1.1 180) 0 0 4), ?_, f1.tr ⟨fun a x y => bm_row_1n _ _ x, rfl⟩, fun k hk => ?_⟩
  · rw [e24, g24_0]
    refine (show bm_run S (d + 3) 24 2 [some (.ref 177), some (.int (nI i)), some (.int (nI 0)), none, none] [] σ = _ from e1).trans ?_
    rw [g24_2]
    simp (disch := omega) only [bm_run_ite, Option.toList_some, Option.bind_some, Option.toList_some, Option.toList_none, List.cons_append, List.nil_append, List.append_nil, eq_self, not_true_eq_false, not_false_eq_true, ite_true, ite_false, ↓reduceIte, Nat.reduceLT, Nat.reduceEqDiff, Nat.reduceAdd, or_true, true_or, or_false, false_or, nI_clamp2, nI_lt0F, nI_leT, nI_leF, nI_ltT, nI_ltF, n_leF, n_leT, nI_1, kA6, kA8, kA10, kA22, kA26, kA32, kA44, kA56, kA68, kA80, kA93, kA163, kA794, not_or, or_self, and_self, and_true, true_and, p1.2.1, g24_67, cp, g24_78]
  · rw [bm_row_1s, cpy_lt (by omega)]
    exact r1 k hk
theorem c23l (hw : hW4 W) (hC : C ≤ 4) (hn : n ≤ 9) {i0 : Int32} {o2 : Option Value} : ∀ r i (σ : bm_S) (g : Nat → Nat) (o3 : Option Value), i + r = n + 1 → PC W C n σ → (∀ k, k < C → g k ≤ 1000000000) → (∀ k, k < C → σ.1 180 k = nI (g k)) → ∃ σ1 o3b o4b, bm_run S (d + 4) 23 41 [some (.ref 177), some (.int i0), o2, o3, some (.int (nI i)), none, none] [] σ = bm_run S (d + 4) 23 62 [some (.ref 177), some (.int i0), o2, o3b, o4b, none, none] [] σ1 ∧ F8 σ σ1 ∧ (∀ k, k < C → giF W C r i g k ≤ 1000000000) ∧ ∀ k, k < C → σ1.1 180 k = nI (giF W C r i g k) := by
  intro r
  induction r with
  | zero =>
    intro i σ g o3 hi p hg hr
    have lt : nI n < nI i := nI_lt (by omega) (by omega)
    refine ⟨σ, o3, some (.int (nI i)), ?_, F8.rfl σ, hg, hr⟩
    rw [g23_41]
    simp only [bm_run_ite, Option.toList_some, Option.bind_some, Option.toList_some, Option.toList_none, List.cons_append, List.nil_append, List.append_nil, eq_self, not_true_eq_false, not_false_eq_true, ite_true, ite_false, ↓reduceIte, Nat.reduceLT, Nat.reduceEqDiff, Nat.reduceAdd, or_true, true_or, or_false, false_or, p.2.2, lt]
  | succ r ih =>
    intro i σ g o3 hi p hg hr
    have lt : ¬ nI n < nI i := nI_nlt (by omega) (by omega)
    obtain ⟨σ1, k1, f1, r1⟩ := c24 (S := S) (d := d) hw hC hn p (i := i) (by omega) hg hr
    obtain ⟨σ2, o3b, o4b, k2, f2, g2, r2⟩ := ih (i + 1) σ1 (gsF W C i g) (am_clr o3) (by omega) (f1.PC p) (fun k hk => gsF_le hg k) r1
    refine ⟨σ2, o3b, o4b, ?_, f1.tr f2, g2, r2⟩
    rw [← k2, g23_41]
    simp only [bm_run_ite, Option.toList_some, Option.bind_some, Option.toList_some, Option.toList_none, List.cons_append, List.nil_append, List.append_nil, eq_self, not_true_eq_false, not_false_eq_true, ite_true, ite_false, ↓reduceIte, Nat.reduceLT, Nat.reduceEqDiff, Nat.reduceAdd, or_true, true_or, or_false, false_or, p.2.2, lt, g23_50, k1, g23_56, nI_1]
theorem c23 (hw : hW4 W) (hC : C ≤ 4) (hn : n ≤ 9) (p : PC W C n σ) {r i k c : Nat} (hi : i + r = n + 1) (hk : k < C) (hc : c ≤ 1000000000) : ∃ σ1, bm_call S (d + 4) 23 [.ref 177, .int (nI i), .int (nI k), .int (nI c)] σ = some (some (.long (qL (vF W C n r i k c))), σ1) ∧ F8 σ σ1 := by
  obtain ⟨s1, e1, f1, r1⟩ := loop_ex (fun j (s : bm_S) => bm_run S (d + 4) 23 3 [some (.ref 177), some (.int (nI i)), some (.int (nI k)), some (.int (nI c)), some (.int (nI j)), none, none] [] s) (fun j s => F8 σ s ∧ ∀ l, l < j → s.1 180 l = nI (onF k c l)) C σ ⟨F8.rfl σ, fun l hl => absurd hl (by omega)⟩ (by
    intro j s hj hs
    obtain ⟨f1, r1⟩ := hs
    have ps := f1.PC p
    refine ⟨bm_wi s 180 j (nI (onF k c j)), ?_, f1.wi (by omega) _ _, fun l hl => ?_⟩
    · have sv : ∀ v, bm_call S (d + 3) 159 [.ref 180, .int (nI j), .int v] s = some (none, bm_wi s 180 j v) := fun v => set_row t178 l178 (by omega) (by decide) v
      rw [g23_3]
      unfold onF
      by_cases e : j = k
      · subst e
        simp (disch := omega) only [bm_run_ite, Option.toList_some, Option.bind_some, Option.toList_some, Option.toList_none, List.cons_append, List.nil_append, List.append_nil, eq_self, not_true_eq_false, not_false_eq_true, ite_true, ite_false, ↓reduceIte, Nat.reduceLT, Nat.reduceEqDiff, Nat.reduceAdd, or_true, true_or, or_false, false_or, nI_clamp2, nI_lt0F, nI_leT, nI_leF, nI_ltT, nI_ltF, n_leF, n_leT, nI_1, kA6, kA8, kA10, kA22, kA26, kA32, kA44, kA56, kA68, kA80, kA93, kA163, kA794, not_or, or_self, and_self, and_true, true_and, ps.2.1, g23_12, g23_24, g23_29, sv, g23_32]
      · have e1 : ¬ nI j = nI k := fun z => e ((nI_eq (by omega) (by omega)).mp z)
        rw [if_neg e]
        simp (disch := omega) only [bm_run_ite, Option.toList_some, Option.bind_some, Option.toList_some, Option.toList_none, List.cons_append, List.nil_append, List.append_nil, eq_self, not_true_eq_false, not_false_eq_true, ite_true, ite_false, ↓reduceIte, Nat.reduceLT, Nat.reduceEqDiff, Nat.reduceAdd, or_true, true_or, or_false, false_or, nI_clamp2, nI_lt0F, nI_leT, nI_leF, nI_ltT, nI_ltF, n_leF, n_leT, nI_1, kA6, kA8, kA10, kA22, kA26, kA32, kA44, kA56, kA68, kA80, kA93, kA163, kA794, not_or, or_self, and_self, and_true, true_and, ps.2.1, g23_12, e1, g23_28, g23_29, sv, g23_32]
        rfl
    · rw [wi_s]
      by_cases e : l = j
      · subst e; rw [upd_s]
      · rw [upd_n _ _ e]; exact r1 l (by omega))
  have p1 := f1.PC p
  have og : ∀ l, l < C → onF k c l ≤ 1000000000 := fun l _ => by unfold onF; split <;> omega
  obtain ⟨s2, o3b, o4b, e2, f2, g2, r2⟩ := c23l (S := S) (d := d) hw hC hn (i0 := nI i) (o2 := some (.int (nI k))) r i s1 (onF k c) (am_clr (some (.int (nI c)))) hi p1 og r1
  have p2 := f2.PC p1
  have Wn : ∀ j, j < C → W n j ≤ 999 := fun j hj => (hw n j (by omega)).2
  obtain ⟨o3c, e3, _⟩ := loop_ex (fun j (o : Option Value) => bm_run S (d + 4) 23 68 [some (.ref 177), some (.int (nI i)), some (.int (nI k)), o, some (.long (qL (mxF (fun j => giF W C r i (onF k c) j * W n j) j))), none, some (.int (nI j))] [] s2) (fun _ _ => True) C (am_clr o3b) trivial (by
    intro j o hj _
    have a1 : bm_call S (d + 3) 158 [.ref 180, .int (nI j)] s2 = some (some (.int (nI (giF W C r i (onF k c) j))), s2) := by rw [at_row t178 l178 (by omega) (by decide), r2 j hj]
    have a2 : bm_call S (d + 3) 158 [.ref 179, .int (nI (4 * n + j))] s2 = some (some (.int (nI (W n j))), s2) := by rw [at_row t177 l177 (by omega) (by decide), p2.1 n (by omega) j hj]
    have m1 := (mul4 n (by omega) j (by omega)).1
    have bd : ∀ j, j < C → giF W C r i (onF k c) j * W n j ≤ 1000000000 * 999 := fun j hj => Nat.mul_le_mul (g2 j hj) (Wn j hj)
    have b1 : mxF (fun j => giF W C r i (onF k c) j * W n j) j ≤ 1000000000 * 999 := mxF_le (fun x hx => bd x (by omega))
    have b2 := bd j hj
    have gj := g2 j hj
    have wj := Wn j hj
    have x1 : (nI (giF W C r i (onF k c) j)).toInt64 * (nI (W n j)).toInt64 = qL (giF W C r i (onF k c) j * W n j) := by rw [qL_nI (by omega), qL_nI (by omega), qL_mul (by omega) (by omega) (by omega)]
    refine ⟨am_clr o, ?_, trivial⟩
    rw [g23_68, mxF]
    by_cases q : mxF (fun j => giF W C r i (onF k c) j * W n j) j < giF W C r i (onF k c) j * W n j
    · have q1 : qL (mxF (fun j => giF W C r i (onF k c) j * W n j) j) < qL (giF W C r i (onF k c) j * W n j) := (qL_lt (by omega) (by omega)).mpr q
      simp (disch := omega) only [bm_run_ite, Option.toList_some, Option.bind_some, Option.toList_some, Option.toList_none, List.cons_append, List.nil_append, List.append_nil, eq_self, not_true_eq_false, not_false_eq_true, ite_true, ite_false, ↓reduceIte, Nat.reduceLT, Nat.reduceEqDiff, Nat.reduceAdd, or_true, true_or, or_false, false_or, nI_clamp2, nI_lt0F, nI_leT, nI_leF, nI_ltT, nI_ltF, n_leF, n_leT, nI_1, kA6, kA8, kA10, kA22, kA26, kA32, kA44, kA56, kA68, kA80, kA93, kA163, kA794, not_or, or_self, and_self, and_true, true_and, p2.2.1, p2.2.2, g23_77, a1, g23_88, m1, a2, g23_105, x1, c290, q1, q, g23_110]
    · have q1 : ¬ qL (mxF (fun j => giF W C r i (onF k c) j * W n j) j) < qL (giF W C r i (onF k c) j * W n j) := fun z => q ((qL_lt (by omega) (by omega)).mp z)
      simp (disch := omega) only [bm_run_ite, Option.toList_some, Option.bind_some, Option.toList_some, Option.toList_none, List.cons_append, List.nil_append, List.append_nil, eq_self, not_true_eq_false, not_false_eq_true, ite_true, ite_false, ↓reduceIte, Nat.reduceLT, Nat.reduceEqDiff, Nat.reduceAdd, or_true, true_or, or_false, false_or, nI_clamp2, nI_lt0F, nI_leT, nI_leF, nI_ltT, nI_ltF, n_leF, n_leT, nI_1, kA6, kA8, kA10, kA22, kA26, kA32, kA44, kA56, kA68, kA80, kA93, kA163, kA794, not_or, or_self, and_self, and_true, true_and, p2.2.1, p2.2.2, g23_77, a1, g23_88, m1, a2, g23_105, x1, c290, q1, q, g23_110])
  rw [giF_on hk] at e3
  refine ⟨s2, ?_, f1.tr f2⟩
  rw [e23, g23_0]
  refine (show bm_run S (d + 4) 23 3 [some (.ref 177), some (.int (nI i)), some (.int (nI k)), some (.int (nI c)), some (.int (nI 0)), none, none] [] σ = _ from e1).trans ?_
  rw [g23_3]
  simp (disch := omega) only [bm_run_ite, Option.toList_some, Option.bind_some, Option.toList_some, Option.toList_none, List.cons_append, List.nil_append, List.append_nil, eq_self, not_true_eq_false, not_false_eq_true, ite_true, ite_false, ↓reduceIte, Nat.reduceLT, Nat.reduceEqDiff, Nat.reduceAdd, or_true, true_or, or_false, false_or, nI_clamp2, nI_lt0F, nI_leT, nI_leF, nI_ltT, nI_ltF, n_leF, n_leT, nI_1, kA6, kA8, kA10, kA22, kA26, kA32, kA44, kA56, kA68, kA80, kA93, kA163, kA794, not_or, or_self, and_self, and_true, true_and, p1.2.1, g23_38]
  refine e2.trans ?_
  rw [g23_62]
  refine (show bm_run S (d + 4) 23 68 [some (.ref 177), some (.int (nI i)), some (.int (nI k)), am_clr o3b, some (.long (qL 0)), none, some (.int (nI 0))] [] s2 = _ from e3).trans ?_
  rw [g23_68]
  simp (disch := omega) only [bm_run_ite, Option.toList_some, Option.bind_some, Option.toList_some, Option.toList_none, List.cons_append, List.nil_append, List.append_nil, eq_self, not_true_eq_false, not_false_eq_true, ite_true, ite_false, ↓reduceIte, Nat.reduceLT, Nat.reduceEqDiff, Nat.reduceAdd, or_true, true_or, or_false, false_or, nI_clamp2, nI_lt0F, nI_leT, nI_leF, nI_ltT, nI_ltF, n_leF, n_leT, nI_1, kA6, kA8, kA10, kA22, kA26, kA32, kA44, kA56, kA68, kA80, kA93, kA163, kA794, not_or, or_self, and_self, and_true, true_and, p2.2.1, g23_118]
end PLANC
