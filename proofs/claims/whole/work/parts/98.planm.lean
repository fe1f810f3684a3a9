def Fm (σ τ : bm_S) : Prop := (∀ a, a ≠ 223 → a ≠ 224 → τ.1 a = σ.1 a) ∧ τ.2 = σ.2
theorem Fm.rfl (σ : bm_S) : Fm σ σ := ⟨fun _ _ _ => Eq.refl _, Eq.refl _⟩
theorem Fm.tr {σ τ ρ : bm_S} (h : Fm σ τ) (h1 : Fm τ ρ) : Fm σ ρ := ⟨fun a x y => (h1.1 a x y).trans (h.1 a x y), h1.2.trans h.2⟩
theorem Fm.kp {σ τ : bm_S} (h : Fm σ τ) : Kp σ τ := ⟨fun a x _ => h.1 a (fun e => x (by unfold Sc; omega)) (fun e => x (by unfold Sc; omega)), fun b _ => by rw [h.1 218 (by decide) (by decide)], fun a _ => by rw [h.2]⟩
theorem lg_le0 (x y : Int64) : (lg_cmp x y ≤ 0) ↔ ¬ y < x := by
  rw [← lg_gt0, Int32.not_lt]
def LoC (W : Nat → Nat → Nat) (C n opt x y : Nat) (m : Int64) : Prop := m = Int64.ofInt (-1) ∨ ∃ v, v ≤ 1000000000 ∧ m = qL v ∧ vF W C n (n - x) (x + 1) y v < opt
def LoS (W : Nat → Nat → Nat) (C n opt i : Nat) (σ : bm_S) : Prop := ∀ x, i ≤ x → x ≤ n → ∀ y, y < C → LoC W C n opt x y (σ.2 231 (4 * x + y))
def BLo (opt : Nat) (σ : bm_S) : Prop := σ.2 218 33 = Int64.ofInt (-1) ∨ ∃ b, b < opt ∧ σ.2 218 33 = qL b
section PLANM
variable {S : am_S} {d : Nat} {σ : bm_S} {C n : Nat} {B : Nat → Int32}
theorem m271h {D : Nat} (hB : σ.1 219 = B) (hl : LW B) (hC : C ≤ 4) (eC : B 2 = nI C) (hn : n ≤ 9) {i k c j : Nat} (hi : i ≤ n) (hk : k < C) (hj : j < C) (hc : c ≤ 1000000000) (o7 o8 o10 : Option Value) : ∃ σ1 o8b, bm_run S (D + 3) 271 3 [some (.ref 218), some (.int (nI i)), some (.int (nI n)), some (.int (nI k)), some (.long (qL c)), none, some (.int (nI j)), o7, o8, none, o10] [] σ = bm_run S (D + 3) 271 76 [some (.ref 218), some (.int (nI i)), some (.int (nI n)), some (.int (nI k)), some (.long (qL c)), none, some (.int (nI j)), some (.int (B 22 + nI i)), o8b, none, o10] [.long (qL (chF (wN B) i k c j))] σ1 ∧ Fm σ σ1 := by
  have lt : ¬ nI C ≤ nI j := nI_ge hj (by omega)
  have q19 : lg_cmp (qL 1000000000) (qL 1000000000) ≤ 0 := by rw [lg_le0]; exact fun z => absurd ((qL_lt (by omega) (by omega)).mp z) (by omega)
  unfold chF
  by_cases e : k = j
  · subst e
    refine ⟨σ, some (.long (qL c)), ?_, Fm.rfl σ⟩
    have le : lg_cmp (qL c) (qL 1000000000) ≤ 0 := by rw [lg_le0]; exact fun z => by have := (qL_lt (by omega) (by omega)).mp z; omega
    rw [g271_3, if_pos rfl]
    simp (decide := true) only [bm_run_ite, Option.toList_some, Option.bind_some, Option.toList_some, Option.toList_none, List.cons_append, List.nil_append, List.append_nil, eq_self, not_true_eq_false, not_false_eq_true, ite_true, ite_false, ↓reduceIte, Nat.reduceLT, Nat.reduceEqDiff, Nat.reduceAdd, or_true, true_or, or_false, false_or, hB, eC, lt, g271_14, g271_31, g271_57, q1e9, le, g271_74]
  · have e1 : ¬ nI j = nI k := fun z => e ((nI_eq (by omega) (by omega)).mp z).symm
    obtain ⟨a1, a2⟩ := wN_4 B i k (by omega)
    obtain ⟨b1, b2⟩ := wN_4 B i j (by omega)
    have cw : c * wN B i k ≤ 1000000000 * 999 := Nat.mul_le_mul hc a2
    have dl : c * wN B i k / wN B i j ≤ c * wN B i k := Nat.div_le_self _ _
    obtain ⟨s1, k1, p1, _, f1, g1⟩ := mwt (S := S) (d := D) hB hl (nI k) (B 22 + nI i)
    obtain ⟨s2, k2, p2, _, f2, g2⟩ := mwt (S := S) (d := D) p1 hl (nI j) (B 22 + nI i)
    rw [wN_e B (by omega)] at k1 k2
    have x1 : qL c * (nI (wN B i k)).toInt64 = qL (c * wN B i k) := by rw [qL_nI (by omega), qL_mul (by omega) (by omega) (by omega)]
    have x6 : (nI (wN B i j)).toInt64 = qL (wN B i j) := qL_nI (by omega)
    have x2 : ¬ qL (wN B i j) = 0 := fun z => by rw [q0] at z; have := (qL_eq (by omega) (by omega)).mp z; omega
    have x3 : qL (c * wN B i k) / qL (wN B i j) = qL (c * wN B i k / wN B i j) := qL_div (by omega) (by omega) (by omega)
    rw [if_neg e]
    generalize hq : c * wN B i k / wN B i j = q at *
    by_cases q2 : q < 1000000000
    · have le : lg_cmp (qL q) (qL 1000000000) ≤ 0 := by rw [lg_le0]; exact fun z => by have := (qL_lt (by omega) (by omega)).mp z; omega
      refine ⟨s2, some (.long (qL q)), ?_, Fm.tr ⟨f1, g1⟩ ⟨f2, g2⟩⟩
      rw [g271_3, if_pos q2]
      simp (decide := true) only [bm_run_ite, Option.toList_some, Option.bind_some, Option.toList_some, Option.toList_none, List.cons_append, List.nil_append, List.append_nil, eq_self, not_true_eq_false, not_false_eq_true, ite_true, ite_false, ↓reduceIte, Nat.reduceLT, Nat.reduceEqDiff, Nat.reduceAdd, or_true, true_or, or_false, false_or, hB, eC, lt, g271_14, e1, g271_36, k1, g271_45, k2, g271_55, x1, x6, x2, x3, g271_57, q1e9, le, g271_74]
    · rw [if_neg q2]
      by_cases q3 : q = 1000000000
      · subst q3
        refine ⟨s2, some (.long (qL 1000000000)), ?_, Fm.tr ⟨f1, g1⟩ ⟨f2, g2⟩⟩
        rw [g271_3]
        simp (decide := true) only [bm_run_ite, Option.toList_some, Option.bind_some, Option.toList_some, Option.toList_none, List.cons_append, List.nil_append, List.append_nil, eq_self, not_true_eq_false, not_false_eq_true, ite_true, ite_false, ↓reduceIte, Nat.reduceLT, Nat.reduceEqDiff, Nat.reduceAdd, or_true, true_or, or_false, false_or, hB, eC, lt, g271_14, e1, g271_36, k1, g271_45, k2, g271_55, x1, x6, x2, x3, g271_57, q1e9, q19, g271_74]
      · have le : ¬ lg_cmp (qL q) (qL 1000000000) ≤ 0 := by rw [lg_le0]; exact fun z => z ((qL_lt (by omega) (by omega)).mpr (by omega))
        refine ⟨s2, some (.long (qL q)), ?_, Fm.tr ⟨f1, g1⟩ ⟨f2, g2⟩⟩
        rw [g271_3]
        simp (decide := true) only [bm_run_ite, Option.toList_some, Option.bind_some, Option.toList_some, Option.toList_none, List.cons_append, List.nil_append, List.append_nil, eq_self, not_true_eq_false, not_false_eq_true, ite_true, ite_false, ↓reduceIte, Nat.reduceLT, Nat.reduceEqDiff, Nat.reduceAdd, or_true, true_or, or_false, false_or, hB, eC, lt, g271_14, e1, g271_36, k1, g271_45, k2, g271_55, x1, x6, x2, x3, g271_57, q1e9, le, g271_68]
/-- the last fair: is it the best? -/
theorem m271e {D : Nat} (hB : σ.1 219 = B) (hl : LW B) (hn : n ≤ 9) {j v : Nat} (hj : j < 4) (hv : v ≤ 1000000000) (i3 : Int32) (j4 : Int64) (o10 : Option Value) : ∃ σ1 o7 o8 o10b, bm_run S (D + 3) 271 139 [some (.ref 218), some (.int (nI n)), some (.int (nI n)), some (.int i3), some (.long j4), none, some (.int (nI j)), some (.int (B 22 + nI n)), some (.long (qL v)), none, o10] [] σ = bm_run S (D + 3) 271 204 [some (.ref 218), some (.int (nI n)), some (.int (nI n)), some (.int i3), some (.long j4), none, some (.int (nI j)), o7, o8, none, o10b] [] σ1 ∧ Kp σ σ1 ∧ σ1.1 232 = σ.1 232 ∧ σ1.2 231 = σ.2 231 ∧ (σ.2 218 33 < qL (v * wN B n j) → σ1.2 218 33 = qL (v * wN B n j) ∧ ∀ l, l ≤ n → σ1.1 233 l = σ.1 232 l) ∧ (¬ σ.2 218 33 < qL (v * wN B n j) → σ1.2 218 33 = σ.2 218 33 ∧ σ1.1 233 = σ.1 233) := by
  obtain ⟨a1, a2⟩ := wN_4 B n j hj
  have cw : v * wN B n j ≤ 1000000000 * 999 := Nat.mul_le_mul hv a2
  have x1 : qL v * (nI (wN B n j)).toInt64 = qL (v * wN B n j) := by rw [qL_nI (by omega), qL_mul (by omega) (by omega) (by omega)]
  obtain ⟨s1, k1, p1, kp1, f1, g1⟩ := mwt (S := S) (d := D) hB hl (nI j) (B 22 + nI n)
  rw [wN_e B hj] at k1
  by_cases q : σ.2 218 33 < qL (v * wN B n j)
  · obtain ⟨s2, k2, p2, kp2, f2, g2⟩ := mwt (S := S) (d := D) p1 hl (nI j) (B 22 + nI n)
    rw [wN_e B hj] at k2
    have le : ¬ lg_cmp (qL (v * wN B n j)) (s1.2 218 33) ≤ 0 := by rw [lg_le0, g1]; exact not_not_intro q
    have m3 : (bm_wl s2 218 33 (qL (v * wN B n j))).2 218 33 = qL (v * wN B n j) := by simp [bm_wl, bm_rowL, vp_updL]
    have m9 : (bm_wl s2 218 33 (qL (v * wN B n j))).2 231 = σ.2 231 := by rw [wl_n _ (by decide), g2, g1]
    have m0 : (bm_wl s2 218 33 (qL (v * wN B n j))).1 232 = σ.1 232 := by rw [wl_1, f2 232 (by decide) (by decide), f1 232 (by decide) (by decide)]
    have kpt : Kp σ (bm_wl s2 218 33 (qL (v * wN B n j))) := (kp1.tr kp2).tr ⟨fun _ _ _ => rfl, fun _ _ => rfl, fun a ha => wl_n _ (by omega) _ _⟩
    generalize hτ : bm_wl s2 218 33 (qL (v * wN B n j)) = τ at *
    obtain ⟨g, e1, p1⟩ := loop_ex (fun l (g : Nat → Int32) => bm_run S (D + 3) 271 178 [some (.ref 218), some (.int (nI n)), some (.int (nI n)), some (.int i3), some (.long j4), none, some (.int (nI j)), some (.int (B 22 + nI n)), some (.long (qL v)), none, some (.int (nI l))] [] (bm_row τ 233 g)) (fun l g => ∀ x, x < l → g x = σ.1 232 x) (n + 1) (τ.1 233) (fun x hx => absurd hx (by omega)) (by
      intro l g hl hg
      have lt : ¬ nI n < nI l := nI_nlt (by omega) (by omega)
      have a30 : (bm_row τ 233 g).1 232 = σ.1 232 := by rw [bm_row_1n _ _ (by decide)]; exact m0
      have wr : bm_wi (bm_row τ 233 g) 233 l (σ.1 232 l) = bm_row τ 233 (upd g l (σ.1 232 l)) := by
        unfold bm_wi
        rw [bm_row_1s]
        unfold bm_row
        congr 1
        funext x
        by_cases e : x = 233 <;> simp [e]
      refine ⟨upd g l (σ.1 232 l), ?_, fun x hx => ?_⟩
      · rw [g271_178]
        simp (disch := omega) only [bm_run_ite, Option.toList_some, Option.bind_some, Option.toList_some, Option.toList_none, List.cons_append, List.nil_append, List.append_nil, eq_self, not_true_eq_false, not_false_eq_true, ite_true, ite_false, ↓reduceIte, Nat.reduceLT, Nat.reduceEqDiff, Nat.reduceAdd, or_true, true_or, or_false, false_or, nI_clamp2, nI_lt0F, nI_leT, nI_leF, nI_ltT, nI_ltF, n_leF, n_leT, nI_1, kA6, kA8, kA10, kA22, kA26, kA32, kA44, kA56, kA68, kA80, kA93, kA163, kA794, not_or, or_self, and_self, and_true, true_and, lt, g271_184, a30, wr]
      · by_cases e : x = l
        · subst e; rw [upd_s]
        · rw [upd_n _ _ e]; exact hg x (by omega))
    have same : bm_row τ 233 (τ.1 233) = τ := by
      unfold bm_row
      apply Prod.ext
      · funext x
        by_cases e : x = 233 <;> simp [e]
      · rfl
    rw [same] at e1
    have lt : nI n < nI (n + 1) := nI_lt (by omega) (by omega)
    refine ⟨bm_row τ 233 g, some (.int (B 22 + nI n)), some (.long (qL v)), some (.int (nI (n + 1))), ?_, kpt.row (by unfold Sc; omega) g, ?_, ?_, fun _ => ⟨?_, fun l hl => ?_⟩, fun z => absurd q z⟩
    · rw [g271_139]
      simp only [bm_run_ite, Option.toList_some, Option.bind_some, Option.toList_some, Option.toList_none, List.cons_append, List.nil_append, List.append_nil, eq_self, not_true_eq_false, not_false_eq_true, ite_true, ite_false, ↓reduceIte, Nat.reduceLT, Nat.reduceEqDiff, Nat.reduceAdd, or_true, true_or, or_false, false_or, k1, g271_149, x1, le, g271_159, k2, g271_170, hτ]
      refine (show bm_run S (D + 3) 271 178 [some (.ref 218), some (.int (nI n)), some (.int (nI n)), some (.int i3), some (.long j4), none, some (.int (nI j)), some (.int (B 22 + nI n)), some (.long (qL v)), none, some (.int (nI 0))] [] τ = _ from e1).trans ?_
      rw [g271_178, if_pos lt]
    · rw [bm_row_1n _ _ (by decide)]; exact m0
    · exact m9
    · exact m3
    · rw [bm_row_1s]; exact p1 l (by omega)
  · have le : lg_cmp (qL (v * wN B n j)) (s1.2 218 33) ≤ 0 := by rw [lg_le0, g1]; exact q
    refine ⟨s1, some (.int (B 22 + nI n)), some (.long (qL v)), o10, ?_, kp1, f1 232 (by decide) (by decide), by rw [g1], fun z => absurd z q, fun _ => ⟨by rw [g1], f1 233 (by decide) (by decide)⟩⟩
    rw [g271_139]
    simp only [bm_run_ite, Option.toList_some, Option.bind_some, Option.toList_some, Option.toList_none, List.cons_append, List.nil_append, List.append_nil, eq_self, not_true_eq_false, not_false_eq_true, ite_true, ite_false, ↓reduceIte, Nat.reduceLT, Nat.reduceEqDiff, Nat.reduceAdd, or_true, true_or, or_false, false_or, k1, g271_149, x1, le]
end PLANM
