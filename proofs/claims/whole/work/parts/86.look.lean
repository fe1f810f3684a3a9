/-- how many of those that fit leave one like another -/
def alN (M L : Nat) (B : Nat → Int32) (w : Int32) (l m : Nat) : Nat := cnD (fun k => tb w k && decide (caL M L B k m = caL M L B l m)) 12
def moN (M L : Nat) (B : Nat → Int32) (w : Int32) (m : Nat) : Nat → Nat
  | 0 => 0
  | l + 1 => if tb w l = true then (if moN M L B w m l < alN M L B w l m then alN M L B w l m else moN M L B w m l) else moN M L B w m l
def teF (M L : Nat) (B : Nat → Int32) (w : Int32) : Nat → Int32 × Nat
  | 0 => (Int32.ofInt (-1), 13)
  | m + 1 => if moN M L B w m 12 < (teF M L B w m).2 then (nI m, moN M L B w m 12) else teF M L B w m
theorem alN_le (M L : Nat) (B : Nat → Int32) (w : Int32) (l m : Nat) : alN M L B w l m ≤ 12 := cnD_n _ 12
theorem moN_le (M L : Nat) (B : Nat → Int32) (w : Int32) (m : Nat) : ∀ l, moN M L B w m l ≤ 12 := by
  intro l
  induction l with
  | zero => exact Nat.zero_le _
  | succ l ih =>
    rw [moN]
    split
    · split
      · exact alN_le _ _ _ _ _ _
      · exact ih
    · exact ih
theorem teF_le (M L : Nat) (B : Nat → Int32) (w : Int32) : ∀ m, (teF M L B w m).2 ≤ 13 := by
  intro m
  induction m with
  | zero => exact Nat.le_refl _
  | succ m ih =>
    rw [teF]
    split
    · have := moN_le M L B w m 12
      show moN M L B w m 12 ≤ 13
      omega
    · exact ih
theorem moN_past {M L : Nat} {B : Nat → Int32} {w : Int32} {m : Nat} (h : ∀ l, L ≤ l → l < 32 → tb w l = false) : ∀ k, L + k ≤ 12 → moN M L B w m (L + k) = moN M L B w m L := by
  intro k
  induction k with
  | zero => intro _; rfl
  | succ k ih =>
    intro hk
    rw [← Nat.add_assoc, moN, h (L + k) (by omega) (by omega), if_neg Bool.false_ne_true]
    exact ih (by omega)
theorem cnD_past {P : Nat → Bool} {L : Nat} (h : ∀ l, L ≤ l → l < 32 → P l = false) : ∀ k, L + k ≤ 12 → cnD P (L + k) = cnD P L := by
  intro k
  induction k with
  | zero => intro _; rfl
  | succ k ih =>
    intro hk
    rw [← Nat.add_assoc, cnD, h (L + k) (by omega) (by omega), if_neg Bool.false_ne_true]
    exact ih (by omega)
section LOOK
variable {S : am_S} {d : Nat} {σ : bm_S} {M L : Nat} {B : Nat → Int32}
theorem c31 {w : Int32} {m : Nat} (hm : m < 6) (hw : ∀ k, k < 12 → tb w k = true → σ.1 173 (6 * k + m) = caL M L B k m) : bm_call S (d + 1) 31 [.ref 161, .int w, .int (nI m)] σ = some (some (.int (nI (moN M L B w m 12))), σ) := by
  have at71 : ∀ k, k < 12 → bm_call S d 158 [.ref 173, .int (nI (6 * k + m))] σ = some (some (.int (σ.1 173 (6 * k + m))), σ) := fun k hk => by rw [at_row t171 l171 (by omega) (by decide)]
  obtain ⟨⟨o5, o6, o7⟩, e1, _⟩ := loop_ex (fun l (s : Option Value × Option Value × Option Value) => bm_run S (d + 1) 31 5 [some (.ref 161), some (.int w), some (.int (nI m)), some (.int (nI (moN M L B w m l))), some (.int (nI l)), s.1, s.2.1, s.2.2] [] σ) (fun _ _ => True) 12 (none, none, none) trivial (by
    intro l s hl _
    have n12 : ¬ (12 : Int32) ≤ nI l := nI_ge (b := 12) hl (by decide)
    rw [moN]
    cases hq : tb w l
    · refine ⟨s, ?_, trivial⟩
      rw [g31_5]
      simp (disch := omega) only [bm_run_ite, Option.toList_some, Option.bind_some, Option.toList_some, Option.toList_none, List.cons_append, List.nil_append, List.append_nil, eq_self, not_true_eq_false, not_false_eq_true, ite_true, ite_false, ↓reduceIte, Nat.reduceLT, Nat.reduceEqDiff, Nat.reduceAdd, or_true, true_or, or_false, false_or, nI_clamp2, nI_lt0F, nI_leT, nI_leF, nI_ltT, nI_ltF, n_leF, n_leT, nI_1, kA6, kA8, kA10, kA22, kA26, kA32, kA44, kA56, kA68, kA80, kA93, kA163, kA794, not_or, or_self, and_self, and_true, true_and, n12, g31_12, sh1 _ (show l < 32 by omega), hq, bI_itn, Bool.false_eq_true, g31_21, g31_105]
    · obtain ⟨o7, e2, _⟩ := loop_ex (fun k (o : Option Value) => bm_run S (d + 1) 31 30 [some (.ref 161), some (.int w), some (.int (nI m)), some (.int (nI (moN M L B w m l))), some (.int (nI l)), some (.int (nI (cnD (fun k => tb w k && decide (caL M L B k m = caL M L B l m)) k))), some (.int (nI k)), o] [] σ) (fun _ _ => True) 12 s.2.2 trivial (by
        intro k o hk _
        have n12k : ¬ (12 : Int32) ≤ nI k := nI_ge (b := 12) hk (by decide)
        have a1 := at71 k hk
        have a2 := at71 l hl
        have m6k := (mul6 k hk).1
        have m6l := (mul6 l hl).1
        rw [cnD]
        have wl := hw l hl hq
        cases hk2 : tb w k
        · refine ⟨some (.int (if σ.1 173 (6 * k + m) = σ.1 173 (6 * l + m) then 1 else 0)), ?_, trivial⟩
          by_cases q : σ.1 173 (6 * k + m) = σ.1 173 (6 * l + m)
          · rw [g31_30]
            simp (disch := omega) only [bm_run_ite, Option.toList_some, Option.bind_some, Option.toList_some, Option.toList_none, List.cons_append, List.nil_append, List.append_nil, eq_self, not_true_eq_false, not_false_eq_true, ite_true, ite_false, ↓reduceIte, Nat.reduceLT, Nat.reduceEqDiff, Nat.reduceAdd, or_true, true_or, or_false, false_or, nI_clamp2, nI_lt0F, nI_leT, nI_leF, nI_ltT, nI_ltF, n_leF, n_leT, nI_1, kA6, kA8, kA10, kA22, kA26, kA32, kA44, kA56, kA68, kA80, kA93, kA163, kA794, not_or, or_self, and_self, and_true, true_and, n12k, g31_37, m6k, nI_add, a1, g31_51, m6l, a2, g31_65, q, g31_68, g31_73, sh1 _ (show k < 32 by omega), hk2, bI_ite, Bool.false_eq_true, g31_92, Bool.false_and]
            rfl
          · rw [g31_30]
            simp (disch := omega) only [bm_run_ite, Option.toList_some, Option.bind_some, Option.toList_some, Option.toList_none, List.cons_append, List.nil_append, List.append_nil, eq_self, not_true_eq_false, not_false_eq_true, ite_true, ite_false, ↓reduceIte, Nat.reduceLT, Nat.reduceEqDiff, Nat.reduceAdd, or_true, true_or, or_false, false_or, nI_clamp2, nI_lt0F, nI_leT, nI_leF, nI_ltT, nI_ltF, n_leF, n_leT, nI_1, kA6, kA8, kA10, kA22, kA26, kA32, kA44, kA56, kA68, kA80, kA93, kA163, kA794, not_or, or_self, and_self, and_true, true_and, n12k, g31_37, m6k, nI_add, a1, g31_51, m6l, a2, g31_65, q, g31_72, g31_73, sh1 _ (show k < 32 by omega), hk2, bI_ite, Bool.false_eq_true, g31_92, Bool.false_and]
            rfl
        · have wk := hw k hk hk2
          rw [wk] at a1
          rw [wl] at a2
          by_cases q : caL M L B k m = caL M L B l m
          · refine ⟨some (.int 1), ?_, trivial⟩
            rw [g31_30]
            simp (disch := omega) only [bm_run_ite, Option.toList_some, Option.bind_some, Option.toList_some, Option.toList_none, List.cons_append, List.nil_append, List.append_nil, eq_self, not_true_eq_false, not_false_eq_true, ite_true, ite_false, ↓reduceIte, Nat.reduceLT, Nat.reduceEqDiff, Nat.reduceAdd, or_true, true_or, or_false, false_or, nI_clamp2, nI_lt0F, nI_leT, nI_leF, nI_ltT, nI_ltF, n_leF, n_leT, nI_1, kA6, kA8, kA10, kA22, kA26, kA32, kA44, kA56, kA68, kA80, kA93, kA163, kA794, not_or, or_self, and_self, and_true, true_and, n12k, g31_37, m6k, nI_add, a1, g31_51, m6l, a2, g31_65, q, g31_68, g31_73, sh1 _ (show k < 32 by omega), hk2, bI_ite, g31_84, nz10, g31_89, g31_92, Bool.true_and, decide_true]
          · refine ⟨some (.int 0), ?_, trivial⟩
            rw [g31_30]
            simp (disch := omega) only [bm_run_ite, Option.toList_some, Option.bind_some, Option.toList_some, Option.toList_none, List.cons_append, List.nil_append, List.append_nil, eq_self, not_true_eq_false, not_false_eq_true, ite_true, ite_false, ↓reduceIte, Nat.reduceLT, Nat.reduceEqDiff, Nat.reduceAdd, or_true, true_or, or_false, false_or, nI_clamp2, nI_lt0F, nI_leT, nI_leF, nI_ltT, nI_ltF, n_leF, n_leT, nI_1, kA6, kA8, kA10, kA22, kA26, kA32, kA44, kA56, kA68, kA80, kA93, kA163, kA794, not_or, or_self, and_self, and_true, true_and, n12k, g31_37, m6k, nI_add, a1, g31_51, m6l, a2, g31_65, q, g31_72, g31_73, sh1 _ (show k < 32 by omega), hk2, bI_ite, g31_84, g31_92, Bool.true_and, decide_false, Bool.false_eq_true]
            rfl)
      have al := alN_le M L B w l m
      have mo := moN_le M L B w m l
      refine ⟨(some (.int (nI (alN M L B w l m))), some (.int (nI 12)), o7), ?_, trivial⟩
      have go : bm_run S (d + 1) 31 5 [some (.ref 161), some (.int w), some (.int (nI m)), some (.int (nI (moN M L B w m l))), some (.int (nI l)), s.1, s.2.1, s.2.2] [] σ = bm_run S (d + 1) 31 98 [some (.ref 161), some (.int w), some (.int (nI m)), some (.int (nI (moN M L B w m l))), some (.int (nI l)), some (.int (nI (alN M L B w l m))), some (.int (nI 12)), o7] [] σ := by
        rw [g31_5]
        simp (disch := omega) only [bm_run_ite, Option.toList_some, Option.bind_some, Option.toList_some, Option.toList_none, List.cons_append, List.nil_append, List.append_nil, eq_self, not_true_eq_false, not_false_eq_true, ite_true, ite_false, ↓reduceIte, Nat.reduceLT, Nat.reduceEqDiff, Nat.reduceAdd, or_true, true_or, or_false, false_or, nI_clamp2, nI_lt0F, nI_leT, nI_leF, nI_ltT, nI_ltF, n_leF, n_leT, nI_1, kA6, kA8, kA10, kA22, kA26, kA32, kA44, kA56, kA68, kA80, kA93, kA163, kA794, not_or, or_self, and_self, and_true, true_and, n12, g31_12, sh1 _ (show l < 32 by omega), hq, bI_itn, g31_24]
        refine (show bm_run S (d + 1) 31 30 [some (.ref 161), some (.int w), some (.int (nI m)), some (.int (nI (moN M L B w m l))), some (.int (nI l)), some (.int (nI 0)), some (.int (nI 0)), s.2.2] [] σ = _ from e2).trans ?_
        have le12 : (12 : Int32) ≤ nI 12 := by decide
        rw [g31_30]
        simp (disch := omega) only [bm_run_ite, Option.toList_some, Option.bind_some, Option.toList_some, Option.toList_none, List.cons_append, List.nil_append, List.append_nil, eq_self, not_true_eq_false, not_false_eq_true, ite_true, ite_false, ↓reduceIte, Nat.reduceLT, Nat.reduceEqDiff, Nat.reduceAdd, or_true, true_or, or_false, false_or, nI_clamp2, nI_lt0F, nI_leT, nI_leF, nI_ltT, nI_ltF, n_leF, n_leT, nI_1, kA6, kA8, kA10, kA22, kA26, kA32, kA44, kA56, kA68, kA80, kA93, kA163, kA794, not_or, or_self, and_self, and_true, true_and, le12]
        rfl
      refine go.trans ?_
      rw [g31_98]
      by_cases q : moN M L B w m l < alN M L B w l m
      · have q1 : nI (moN M L B w m l) < nI (alN M L B w l m) := nI_lt q (by omega)
        rw [if_pos rfl, if_pos q]
        simp only [bm_run_ite, Option.toList_some, Option.bind_some, Option.toList_some, Option.toList_none, List.cons_append, List.nil_append, List.append_nil, eq_self, not_true_eq_false, not_false_eq_true, ite_true, ite_false, ↓reduceIte, Nat.reduceLT, Nat.reduceEqDiff, Nat.reduceAdd, or_true, true_or, or_false, false_or, c289, q1, g31_104, g31_105, nI_1]
      · have q1 : ¬ nI (moN M L B w m l) < nI (alN M L B w l m) := nI_nlt (by omega) (by omega)
        rw [if_pos rfl, if_neg q]
        simp only [bm_run_ite, Option.toList_some, Option.bind_some, Option.toList_some, Option.toList_none, List.cons_append, List.nil_append, List.append_nil, eq_self, not_true_eq_false, not_false_eq_true, ite_true, ite_false, ↓reduceIte, Nat.reduceLT, Nat.reduceEqDiff, Nat.reduceAdd, or_true, true_or, or_false, false_or, c289, q1, g31_104, g31_105, nI_1])
  rw [e31, g31_0]
  refine (show bm_run S (d + 1) 31 5 [some (.ref 161), some (.int w), some (.int (nI m)), some (.int (nI 0)), some (.int (nI 0)), none, none, none] [] σ = _ from e1).trans ?_
  have le12 : (12 : Int32) ≤ nI 12 := by decide
  rw [g31_5]
  simp (disch := omega) only [bm_run_ite, Option.toList_some, Option.bind_some, Option.toList_some, Option.toList_none, List.cons_append, List.nil_append, List.append_nil, eq_self, not_true_eq_false, not_false_eq_true, ite_true, ite_false, ↓reduceIte, Nat.reduceLT, Nat.reduceEqDiff, Nat.reduceAdd, or_true, true_or, or_false, false_or, nI_clamp2, nI_lt0F, nI_leT, nI_leF, nI_ltT, nI_ltF, n_leF, n_leT, nI_1, kA6, kA8, kA10, kA22, kA26, kA32, kA44, kA56, kA68, kA80, kA93, kA163, kA794, not_or, or_self, and_self, and_true, true_and, le12, g31_111]
theorem c30 {w : Int32} (hM : M ≤ 6) (hw : ∀ m, m < M → ∀ k, k < 12 → tb w k = true → σ.1 173 (6 * k + m) = caL M L B k m) : bm_call S (d + 2) 30 [.ref 161, .int w, .int (nI M)] σ = some (some (.int (teF M L B w M).1), σ) := by
  obtain ⟨o6, e1, _⟩ := loop_ex (fun m (o : Option Value) => bm_run S (d + 2) 30 9 [some (.ref 161), some (.int w), some (.int (nI M)), some (.int (teF M L B w m).1), some (.int (nI (teF M L B w m).2)), some (.int (nI m)), o] [] σ) (fun _ _ => True) M none trivial (by
    intro m o hm _
    have k1 := c31 (S := S) (d := d) (M := M) (L := L) (B := B) (w := w) (m := m) (by omega) (hw m hm)
    have t1 := teF_le M L B w m
    have m1 := moN_le M L B w m 12
    refine ⟨some (.int (nI (moN M L B w m 12))), ?_, trivial⟩
    rw [g30_9, teF]
    by_cases q : moN M L B w m 12 < (teF M L B w m).2
    · rw [if_pos q]
      simp (disch := omega) only [bm_run_ite, Option.toList_some, Option.bind_some, Option.toList_some, Option.toList_none, List.cons_append, List.nil_append, List.append_nil, eq_self, not_true_eq_false, not_false_eq_true, ite_true, ite_false, ↓reduceIte, Nat.reduceLT, Nat.reduceEqDiff, Nat.reduceAdd, or_true, true_or, or_false, false_or, nI_clamp2, nI_lt0F, nI_leT, nI_leF, nI_ltT, nI_ltF, n_leF, n_leT, nI_1, kA6, kA8, kA10, kA22, kA26, kA32, kA44, kA56, kA68, kA80, kA93, kA163, kA794, not_or, or_self, and_self, and_true, true_and, g30_15, k1, g30_22, g30_31, g30_38]
    · rw [if_neg q]
      simp (disch := omega) only [bm_run_ite, Option.toList_some, Option.bind_some, Option.toList_some, Option.toList_none, List.cons_append, List.nil_append, List.append_nil, eq_self, not_true_eq_false, not_false_eq_true, ite_true, ite_false, ↓reduceIte, Nat.reduceLT, Nat.reduceEqDiff, Nat.reduceAdd, or_true, true_or, or_false, false_or, nI_clamp2, nI_lt0F, nI_leT, nI_leF, nI_ltT, nI_ltF, n_leF, n_leT, nI_1, kA6, kA8, kA10, kA22, kA26, kA32, kA44, kA56, kA68, kA80, kA93, kA163, kA794, not_or, or_self, and_self, and_true, true_and, g30_15, k1, g30_22, g30_38])
  rw [e30, g30_0]
  refine (show bm_run S (d + 2) 30 9 [some (.ref 161), some (.int w), some (.int (nI M)), some (.int (Int32.ofInt (-1))), some (.int 13), some (.int (nI 0)), none] [] σ = _ from e1).trans ?_
  rw [g30_9]
  simp (disch := omega) only [bm_run_ite, Option.toList_some, Option.bind_some, Option.toList_some, Option.toList_none, List.cons_append, List.nil_append, List.append_nil, eq_self, not_true_eq_false, not_false_eq_true, ite_true, ite_false, ↓reduceIte, Nat.reduceLT, Nat.reduceEqDiff, Nat.reduceAdd, or_true, true_or, or_false, false_or, nI_clamp2, nI_lt0F, nI_leT, nI_leF, nI_ltT, nI_ltF, n_leF, n_leT, nI_1, kA6, kA8, kA10, kA22, kA26, kA32, kA44, kA56, kA68, kA80, kA93, kA163, kA794, not_or, or_self, and_self, and_true, true_and, g30_44]
theorem m278i (h : MR M L σ) (hB : σ.1 219 = B) {w : Int32} (hL2 : ∀ l, L ≤ l → l < 32 → tb w l = false) {m : Nat} (hm : m < M) (hw : ∀ k, k < 12 → tb w k = true → σ.1 234 (6 * k + m) = caL M L B k m) (o1 o2 o9 o10 : Option Value) (i4 i5 : Int32) : ∃ o8 o9b o10b, bm_run S (d + 10) 278 54 [some (.ref 218), o1, o2, some (.int w), some (.int i4), some (.int i5), some (.int (nI m)), some (.int 0), some (.int 0), o9, o10] [] σ = bm_run S (d + 10) 278 171 [some (.ref 218), o1, o2, some (.int w), some (.int i4), some (.int i5), some (.int (nI m)), some (.int (nI (moN M L B w m 12))), o8, o9b, o10b] [] σ := by
  have hM := h.M6
  have hL := h.L12
  have m25 := h.l
  rw [hB] at m25
  obtain ⟨⟨o9b, o10b⟩, e1, _⟩ := loop_ex (fun l (s : Option Value × Option Value) => bm_run S (d + 10) 278 54 [some (.ref 218), o1, o2, some (.int w), some (.int i4), some (.int i5), some (.int (nI m)), some (.int (nI (moN M L B w m l))), some (.int (nI l)), s.1, s.2] [] σ) (fun _ _ => True) L (o9, o10) trivial (by
    intro l s hl _
    have e2 := loop_eq (fun k => bm_run S (d + 10) 278 72 [some (.ref 218), o1, o2, some (.int w), some (.int i4), some (.int i5), some (.int (nI m)), some (.int (nI (moN M L B w m l))), some (.int (nI l)), some (.int (nI (cnD (fun k => tb w l && (tb w k && decide (caL M L B k m = caL M L B l m))) k))), some (.int (nI k))] [] σ) L (by
      intro k hk
      have m6k := (mul6 k (by omega)).2
      have m6l := (mul6 l (by omega)).2
      have ad0 : ∀ x : Nat, nI x + 0 = nI x := fun x => Int32.add_zero _
      rw [cnD]
      cases q1 : tb w l
      · rw [g278_72]
        simp (disch := omega) only [bm_run_ite, Option.toList_some, Option.bind_some, Option.toList_some, Option.toList_none, List.cons_append, List.nil_append, List.append_nil, eq_self, not_true_eq_false, not_false_eq_true, ite_true, ite_false, ↓reduceIte, Nat.reduceLT, Nat.reduceEqDiff, Nat.reduceAdd, or_true, true_or, or_false, false_or, nI_clamp2, nI_lt0F, nI_leT, nI_leF, nI_ltT, nI_ltF, n_leF, n_leT, nI_1, kA6, kA8, kA10, kA22, kA26, kA32, kA44, kA56, kA68, kA80, kA93, kA163, kA794, not_or, or_self, and_self, and_true, true_and, hB, m25, g278_84, m176 _ (show l < 32 by omega), q1, g278_93, bI_ite, Bool.false_eq_true, g278_139, g278_140, Bool.false_and, ad0, Nat.add_zero]
      · cases q2 : tb w k
        · rw [g278_72]
          simp (disch := omega) only [bm_run_ite, Option.toList_some, Option.bind_some, Option.toList_some, Option.toList_none, List.cons_append, List.nil_append, List.append_nil, eq_self, not_true_eq_false, not_false_eq_true, ite_true, ite_false, ↓reduceIte, Nat.reduceLT, Nat.reduceEqDiff, Nat.reduceAdd, or_true, true_or, or_false, false_or, nI_clamp2, nI_lt0F, nI_leT, nI_leF, nI_ltT, nI_ltF, n_leF, n_leT, nI_1, kA6, kA8, kA10, kA22, kA26, kA32, kA44, kA56, kA68, kA80, kA93, kA163, kA794, not_or, or_self, and_self, and_true, true_and, hB, m25, g278_84, m176 _ (show l < 32 by omega), m176 _ (show k < 32 by omega), q1, q2, g278_93, g278_96, g278_103, bI_ite, Bool.false_eq_true, g278_139, g278_140, Bool.false_and, Bool.true_and, ad0, Nat.add_zero]
        · have wk := hw k (by omega) q2
          have wl := hw l (by omega) q1
          by_cases q : caL M L B k m = caL M L B l m
          · rw [g278_72]
            simp (disch := omega) only [bm_run_ite, Option.toList_some, Option.bind_some, Option.toList_some, Option.toList_none, List.cons_append, List.nil_append, List.append_nil, eq_self, not_true_eq_false, not_false_eq_true, ite_true, ite_false, ↓reduceIte, Nat.reduceLT, Nat.reduceEqDiff, Nat.reduceAdd, or_true, true_or, or_false, false_or, nI_clamp2, nI_lt0F, nI_leT, nI_leF, nI_ltT, nI_ltF, n_leF, n_leT, nI_1, kA6, kA8, kA10, kA22, kA26, kA32, kA44, kA56, kA68, kA80, kA93, kA163, kA794, not_or, or_self, and_self, and_true, true_and, hB, m25, g278_84, m176 _ (show l < 32 by omega), m176 _ (show k < 32 by omega), q1, q2, g278_93, g278_96, g278_103, bI_ite, g278_106, m6k, m6l, nI_add, wk, wl, q, g278_135, g278_140, Bool.true_and, decide_true]
          · rw [g278_72]
            simp (disch := omega) only [bm_run_ite, Option.toList_some, Option.bind_some, Option.toList_some, Option.toList_none, List.cons_append, List.nil_append, List.append_nil, eq_self, not_true_eq_false, not_false_eq_true, ite_true, ite_false, ↓reduceIte, Nat.reduceLT, Nat.reduceEqDiff, Nat.reduceAdd, or_true, true_or, or_false, false_or, nI_clamp2, nI_lt0F, nI_leT, nI_leF, nI_ltT, nI_ltF, n_leF, n_leT, nI_1, kA6, kA8, kA10, kA22, kA26, kA32, kA44, kA56, kA68, kA80, kA93, kA163, kA794, not_or, or_self, and_self, and_true, true_and, hB, m25, g278_84, m176 _ (show l < 32 by omega), m176 _ (show k < 32 by omega), q1, q2, g278_93, g278_96, g278_103, bI_ite, g278_106, m6k, m6l, nI_add, wk, wl, q, g278_139, g278_140, Bool.true_and, decide_false, Bool.false_eq_true, ad0, Nat.add_zero])
    have tot : cnD (fun k => tb w l && (tb w k && decide (caL M L B k m = caL M L B l m))) L = if tb w l = true then alN M L B w l m else 0 := by
      cases q1 : tb w l
      · have : ∀ n, cnD (fun k => false && (tb w k && decide (caL M L B k m = caL M L B l m))) n = 0 := by
          intro n
          induction n with
          | zero => rfl
          | succ n ih => rw [cnD, ih]; simp
        rw [this]; rfl
      · rw [if_pos rfl]
        unfold alN
        have := cnD_past (P := fun k => tb w k && decide (caL M L B k m = caL M L B l m)) (L := L) (fun k h1 h2 => by rw [hL2 k h1 h2]; rfl) (12 - L) (by omega)
        rw [show L + (12 - L) = 12 by omega] at this
        rw [this]
        simp only [Bool.true_and]
    rw [tot] at e2
    have mo := moN_le M L B w m l
    have al := alN_le M L B w l m
    have go : bm_run S (d + 10) 278 54 [some (.ref 218), o1, o2, some (.int w), some (.int i4), some (.int i5), some (.int (nI m)), some (.int (nI (moN M L B w m l))), some (.int (nI l)), s.1, s.2] [] σ = bm_run S (d + 10) 278 149 [some (.ref 218), o1, o2, some (.int w), some (.int i4), some (.int i5), some (.int (nI m)), some (.int (nI (moN M L B w m l))), some (.int (nI l)), some (.int (nI (if tb w l = true then alN M L B w l m else 0))), some (.int (nI L))] [] σ := by
      rw [g278_54]
      simp (disch := omega) only [bm_run_ite, Option.toList_some, Option.bind_some, Option.toList_some, Option.toList_none, List.cons_append, List.nil_append, List.append_nil, eq_self, not_true_eq_false, not_false_eq_true, ite_true, ite_false, ↓reduceIte, Nat.reduceLT, Nat.reduceEqDiff, Nat.reduceAdd, or_true, true_or, or_false, false_or, nI_clamp2, nI_lt0F, nI_leT, nI_leF, nI_ltT, nI_ltF, n_leF, n_leT, nI_1, kA6, kA8, kA10, kA22, kA26, kA32, kA44, kA56, kA68, kA80, kA93, kA163, kA794, not_or, or_self, and_self, and_true, true_and, hB, m25, g278_66]
      refine (show bm_run S (d + 10) 278 72 [some (.ref 218), o1, o2, some (.int w), some (.int i4), some (.int i5), some (.int (nI m)), some (.int (nI (moN M L B w m l))), some (.int (nI l)), some (.int (nI 0)), some (.int (nI 0))] [] σ = _ from e2).trans ?_
      rw [g278_72]
      simp (disch := omega) only [bm_run_ite, Option.toList_some, Option.bind_some, Option.toList_some, Option.toList_none, List.cons_append, List.nil_append, List.append_nil, eq_self, not_true_eq_false, not_false_eq_true, ite_true, ite_false, ↓reduceIte, Nat.reduceLT, Nat.reduceEqDiff, Nat.reduceAdd, or_true, true_or, or_false, false_or, nI_clamp2, nI_lt0F, nI_leT, nI_leF, nI_ltT, nI_ltF, n_leF, n_leT, nI_1, kA6, kA8, kA10, kA22, kA26, kA32, kA44, kA56, kA68, kA80, kA93, kA163, kA794, not_or, or_self, and_self, and_true, true_and, hB, m25]
    refine ⟨(some (.int (nI (if tb w l = true then alN M L B w l m else 0))), some (.int (nI L))), go.trans ?_, trivial⟩
    rw [g278_149, moN]
    cases q1 : tb w l
    · have q3 : nI 0 ≤ nI (moN M L B w m l) := nI_le (by omega) (by omega)
      simp only [bm_run_ite, Option.toList_some, Option.bind_some, Option.toList_some, Option.toList_none, List.cons_append, List.nil_append, List.append_nil, eq_self, not_true_eq_false, not_false_eq_true, ite_true, ite_false, ↓reduceIte, Nat.reduceLT, Nat.reduceEqDiff, Nat.reduceAdd, or_true, true_or, or_false, false_or, Bool.false_eq_true, q3, g278_161, g278_163, nI_1]
    · by_cases q : moN M L B w m l < alN M L B w l m
      · have q3 : ¬ nI (alN M L B w l m) ≤ nI (moN M L B w m l) := nI_ge q (by omega)
        simp only [bm_run_ite, Option.toList_some, Option.bind_some, Option.toList_some, Option.toList_none, List.cons_append, List.nil_append, List.append_nil, eq_self, not_true_eq_false, not_false_eq_true, ite_true, ite_false, ↓reduceIte, Nat.reduceLT, Nat.reduceEqDiff, Nat.reduceAdd, or_true, true_or, or_false, false_or, q3, q, g278_156, g278_163, nI_1]
      · have q3 : nI (alN M L B w l m) ≤ nI (moN M L B w m l) := nI_le (by omega) (by omega)
        simp only [bm_run_ite, Option.toList_some, Option.bind_some, Option.toList_some, Option.toList_none, List.cons_append, List.nil_append, List.append_nil, eq_self, not_true_eq_false, not_false_eq_true, ite_true, ite_false, ↓reduceIte, Nat.reduceLT, Nat.reduceEqDiff, Nat.reduceAdd, or_true, true_or, or_false, false_or, q3, q, g278_161, g278_163, nI_1])
  have past := moN_past (M := M) (L := L) (B := B) (w := w) (m := m) hL2 (12 - L) (by omega)
  rw [show L + (12 - L) = 12 by omega] at past
  refine ⟨some (.int (nI L)), o9b, o10b, ?_⟩
  refine (show bm_run S (d + 10) 278 54 [some (.ref 218), o1, o2, some (.int w), some (.int i4), some (.int i5), some (.int (nI m)), some (.int (nI 0)), some (.int (nI 0)), o9, o10] [] σ = _ from e1).trans ?_
  rw [g278_54, past]
  simp (disch := omega) only [bm_run_ite, Option.toList_some, Option.bind_some, Option.toList_some, Option.toList_none, List.cons_append, List.nil_append, List.append_nil, eq_self, not_true_eq_false, not_false_eq_true, ite_true, ite_false, ↓reduceIte, Nat.reduceLT, Nat.reduceEqDiff, Nat.reduceAdd, or_true, true_or, or_false, false_or, nI_clamp2, nI_lt0F, nI_leT, nI_leF, nI_ltT, nI_ltF, n_leF, n_leT, nI_1, kA6, kA8, kA10, kA22, kA26, kA32, kA44, kA56, kA68, kA80, kA93, kA163, kA794, not_or, or_self, and_self, and_true, true_and, hB, m25]
theorem m278t (h : MR M L σ) (hB : σ.1 219 = B) {w : Int32} (hL2 : ∀ l, L ≤ l → l < 32 → tb w l = false) (hw : ∀ m, m < M → ∀ k, k < 12 → tb w k = true → σ.1 234 (6 * k + m) = caL M L B k m) (w0 : ¬ w = 0) (o1 o2 : Option Value) : bm_run S (d + 10) 278 33 [some (.ref 218), o1, o2, some (.int w), some (.int (Int32.ofInt (-1))), some (.int 13), some (.int 0), none, none, none, none] [] σ = some (some (.int (teF M L B w M).1), σ) := by
  have hM := h.M6
  have m3 := h.m
  rw [hB] at m3
  obtain ⟨⟨o7, o8, o9, o10⟩, e1, _⟩ := loop_ex (fun m (s : Option Value × Option Value × Option Value × Option Value) => bm_run S (d + 10) 278 33 [some (.ref 218), o1, o2, some (.int w), some (.int (teF M L B w m).1), some (.int (nI (teF M L B w m).2)), some (.int (nI m)), s.1, s.2.1, s.2.2.1, s.2.2.2] [] σ) (fun _ _ => True) M (none, none, none, none) trivial (by
    intro m s hm _
    obtain ⟨o8, o9b, o10b, k1⟩ := m278i (S := S) (d := d) h hB hL2 hm (hw m hm) o1 o2 s.2.2.1 s.2.2.2 (teF M L B w m).1 (nI (teF M L B w m).2)
    have t1 := teF_le M L B w m
    have m1 := moN_le M L B w m 12
    refine ⟨(some (.int (nI (moN M L B w m 12))), o8, o9b, o10b), ?_, trivial⟩
    rw [g278_33, teF]
    have go : bm_run S (d + 10) 278 (if σ.1 219 3 ≤ nI m then 195 else 44) [some (.ref 218), o1, o2, some (.int w), some (.int (teF M L B w m).1), some (.int (nI (teF M L B w m).2)), some (.int (nI m)), s.1, s.2.1, s.2.2.1, s.2.2.2] [] σ = bm_run S (d + 10) 278 171 [some (.ref 218), o1, o2, some (.int w), some (.int (teF M L B w m).1), some (.int (nI (teF M L B w m).2)), some (.int (nI m)), some (.int (nI (moN M L B w m 12))), o8, o9b, o10b] [] σ := by
      simp (disch := omega) only [bm_run_ite, Option.toList_some, Option.bind_some, Option.toList_some, Option.toList_none, List.cons_append, List.nil_append, List.append_nil, eq_self, not_true_eq_false, not_false_eq_true, ite_true, ite_false, ↓reduceIte, Nat.reduceLT, Nat.reduceEqDiff, Nat.reduceAdd, or_true, true_or, or_false, false_or, nI_clamp2, nI_lt0F, nI_leT, nI_leF, nI_ltT, nI_ltF, n_leF, n_leT, nI_1, kA6, kA8, kA10, kA22, kA26, kA32, kA44, kA56, kA68, kA80, kA93, kA163, kA794, not_or, or_self, and_self, and_true, true_and, hB, m3, g278_44, w0, g278_48]
      exact k1
    refine go.trans ?_
    rw [g278_171]
    by_cases q : moN M L B w m 12 < (teF M L B w m).2
    · rw [if_pos q]
      simp (disch := omega) only [bm_run_ite, Option.toList_some, Option.bind_some, Option.toList_some, Option.toList_none, List.cons_append, List.nil_append, List.append_nil, eq_self, not_true_eq_false, not_false_eq_true, ite_true, ite_false, ↓reduceIte, Nat.reduceLT, Nat.reduceEqDiff, Nat.reduceAdd, or_true, true_or, or_false, false_or, nI_clamp2, nI_lt0F, nI_leT, nI_leF, nI_ltT, nI_ltF, n_leF, n_leT, nI_1, kA6, kA8, kA10, kA22, kA26, kA32, kA44, kA56, kA68, kA80, kA93, kA163, kA794, not_or, or_self, and_self, and_true, true_and, g278_181, g278_189]
    · rw [if_neg q]
      simp (disch := omega) only [bm_run_ite, Option.toList_some, Option.bind_some, Option.toList_some, Option.toList_none, List.cons_append, List.nil_append, List.append_nil, eq_self, not_true_eq_false, not_false_eq_true, ite_true, ite_false, ↓reduceIte, Nat.reduceLT, Nat.reduceEqDiff, Nat.reduceAdd, or_true, true_or, or_false, false_or, nI_clamp2, nI_lt0F, nI_leT, nI_leF, nI_ltT, nI_ltF, n_leF, n_leT, nI_1, kA6, kA8, kA10, kA22, kA26, kA32, kA44, kA56, kA68, kA80, kA93, kA163, kA794, not_or, or_self, and_self, and_true, true_and, g278_178, g278_189])
  refine (show bm_run S (d + 10) 278 33 [some (.ref 218), o1, o2, some (.int w), some (.int (Int32.ofInt (-1))), some (.int (nI 13)), some (.int (nI 0)), none, none, none, none] [] σ = _ from e1).trans ?_
  rw [g278_33]
  simp (disch := omega) only [bm_run_ite, Option.toList_some, Option.bind_some, Option.toList_some, Option.toList_none, List.cons_append, List.nil_append, List.append_nil, eq_self, not_true_eq_false, not_false_eq_true, ite_true, ite_false, ↓reduceIte, Nat.reduceLT, Nat.reduceEqDiff, Nat.reduceAdd, or_true, true_or, or_false, false_or, nI_clamp2, nI_lt0F, nI_leT, nI_leF, nI_ltT, nI_ltF, n_leF, n_leT, nI_1, kA6, kA8, kA10, kA22, kA26, kA32, kA44, kA56, kA68, kA80, kA93, kA163, kA794, not_or, or_self, and_self, and_true, true_and, hB, m3, g278_195]
/-- the class's and the reference's first looks at a row -/
theorem c145a (h : RS M L σ) {i : Int32} : (∃ v : Int32, v < 0 ∧ bm_call S (d + 8) 145 [.ref 0, .int i] σ = some (some (.int v), σ) ∧ ∀ (e : Nat) (τ : bm_S), Kp σ τ → bm_call S (e + 2) 275 [.ref 218, .int i] τ = some (some (.int v), τ)) ∨ (∃ t, t < 4 ∧ i = nI t ∧ ∃ σ1, bm_call S (d + 8) 145 [.ref 0, .int i] σ = some (some (.int (orS (fiB M L (σ.1 219) (σ.2 (211 + 2 * t))) L)), σ1) ∧ Kp σ σ1 ∧ (∀ l, l < L → dB (σ.1 219) (σ.1 219 22) l = true → ∀ m, m < M → σ1.1 173 (6 * l + m) = caL M L (σ.1 219) l m) ∧ (∀ m, m < M → σ.2 (211 + 2 * t) m = σ.2 237 (40 * t + m)) ∧ ∀ (e : Nat) (τ : bm_S), Kp σ τ → bm_call S (e + 2) 275 [.ref 218, .int i] τ = some (some (.int 0), τ)) := by
  have hM := h.rw.M6
  have s3 : ¬ Sc 235 := by unfold Sc; omega
  have s4 : ¬ Sc 236 := by unfold Sc; omega
  have s7 : ¬ Sc 219 := by unfold Sc; omega
  cases hi : hasI i 4
  · left
    refine ⟨Int32.ofInt (-2), by decide, by simp (decide := true) only [e145, g145_0, g145_5n, g145_10, bm_run_ite, Option.toList_some, Option.bind_some, Option.toList_some, Option.toList_none, List.cons_append, List.nil_append, List.append_nil, eq_self, not_true_eq_false, not_false_eq_true, ite_true, ite_false, ↓reduceIte, Nat.reduceLT, Nat.reduceEqDiff, Nat.reduceAdd, or_true, true_or, or_false, false_or, c154n hi], fun e τ k => ?_⟩
    simp (decide := true) only [e275, g275_0, g275_5, g275_10, g275_35, bm_run_ite, Option.toList_some, Option.bind_some, Option.toList_some, Option.toList_none, List.cons_append, List.nil_append, List.append_nil, eq_self, not_true_eq_false, not_false_eq_true, ite_true, ite_false, ↓reduceIte, Nat.reduceLT, Nat.reduceEqDiff, Nat.reduceAdd, or_true, true_or, or_false, false_or, m229a hi]
  obtain ⟨t, ht, rfl⟩ := hasI_of hi (by decide)
  obtain ⟨t1, t2, t3⟩ := isT4 t ht
  rcases h.2.2.2.1 t ht with ⟨i1, i2⟩ | ⟨s, n, hs, hn, i1, i2, i3, i4, i5⟩
  · left
    refine ⟨Int32.ofInt (-6), by decide, by simp (decide := true) only [e145, g145_0, g145_5r, g145_13r, g145_17r, g145_20, bm_run_ite, Option.toList_some, Option.bind_some, Option.toList_some, Option.toList_none, List.cons_append, List.nil_append, List.append_nil, eq_self, not_true_eq_false, not_false_eq_true, ite_true, ite_false, ↓reduceIte, Nat.reduceLT, Nat.reduceEqDiff, Nat.reduceAdd, or_true, true_or, or_false, false_or, c154 ht, t1, c71 ht, i1, bI_ite, decide_true, decide_false, Bool.false_eq_true], fun e τ k => ?_⟩
    have j1 : τ.1 235 t = Int32.ofInt (-1) := by rw [k.at s3 (by omega)]; exact i2
    simp (decide := true) only [e275, g275_0, g275_5, g275_10, g275_35, bm_run_ite, Option.toList_some, Option.bind_some, Option.toList_some, Option.toList_none, List.cons_append, List.nil_append, List.append_nil, eq_self, not_true_eq_false, not_false_eq_true, ite_true, ite_false, ↓reduceIte, Nat.reduceLT, Nat.reduceEqDiff, Nat.reduceAdd, or_true, true_or, or_false, false_or, m229b ht j1]
  have nmm : ¬ nI n = Int32.ofInt (-1) := nm1 (by omega)
  have f0 : σ.1 5 0 = nI M := h.rw.f0
  have m3 := h.mr.m
  by_cases q : n = M
  · right
    subst q
    obtain ⟨σ1, k1, kp, ka⟩ := c29 (S := S) (d := d) h.rw h.bk h.ga ht (X := σ.2 (211 + 2 * t)) rfl
    refine ⟨t, ht, rfl, σ1, ?_, kp, ka, i5, fun e τ k => ?_⟩
    · simp (decide := true) only [e145, g145_0, g145_5r, g145_13r, g145_17r, g145_23r, g145_40r, g145_56, bm_run_ite, Option.toList_some, Option.bind_some, Option.toList_some, Option.toList_none, List.cons_append, List.nil_append, List.append_nil, eq_self, not_true_eq_false, not_false_eq_true, ite_true, ite_false, ↓reduceIte, Nat.reduceLT, Nat.reduceEqDiff, Nat.reduceAdd, or_true, true_or, or_false, false_or, c154 ht, t1, c71 ht, i1, nmm, bI_ite, decide_true, decide_false, Bool.false_eq_true, f0, k1]
    · have j1 : τ.1 235 t = nI s := by rw [k.at s3 (by omega)]; exact i3
      have j2 : τ.1 236 t = nI n := by rw [k.at s4 (by omega)]; exact i4
      have j3 : τ.1 219 3 = nI n := by rw [k.at s7 (by omega)]; exact m3
      have e1 : bm_call S (e + 2) 275 [.ref 218, .int (nI t)] τ = bm_run S (e + 2) 275 14 [some (.ref 218), some (.int (nI t)), some (.int 0)] [] τ := by
        simp (decide := true) only [e275, g275_0, g275_5, bm_run_ite, Option.toList_some, Option.bind_some, Option.toList_some, Option.toList_none, List.cons_append, List.nil_append, List.append_nil, eq_self, not_true_eq_false, not_false_eq_true, ite_true, ite_false, ↓reduceIte, Nat.reduceLT, Nat.reduceEqDiff, Nat.reduceAdd, or_true, true_or, or_false, false_or, m229c ht hs j1]
      rw [e1, g275_14]
      simp (disch := omega) only [bm_run_ite, Option.toList_some, Option.bind_some, Option.toList_some, Option.toList_none, List.cons_append, List.nil_append, List.append_nil, eq_self, not_true_eq_false, not_false_eq_true, ite_true, ite_false, ↓reduceIte, Nat.reduceLT, Nat.reduceEqDiff, Nat.reduceAdd, or_true, true_or, or_false, false_or, nI_clamp2, nI_lt0F, nI_leT, nI_leF, nI_ltT, nI_ltF, n_leF, n_leT, nI_1, kA6, kA8, kA10, kA22, kA26, kA32, kA44, kA56, kA68, kA80, kA93, kA163, kA794, not_or, or_self, and_self, and_true, true_and, j2, j3, g275_29, g275_35]
  · left
    have nn : ¬ nI n = nI M := fun z => q ((nI_eq (by omega) (by omega)).mp z)
    refine ⟨Int32.ofInt (-4), by decide, by simp (decide := true) only [e145, g145_0, g145_5r, g145_13r, g145_17r, g145_23r, g145_37, bm_run_ite, Option.toList_some, Option.bind_some, Option.toList_some, Option.toList_none, List.cons_append, List.nil_append, List.append_nil, eq_self, not_true_eq_false, not_false_eq_true, ite_true, ite_false, ↓reduceIte, Nat.reduceLT, Nat.reduceEqDiff, Nat.reduceAdd, or_true, true_or, or_false, false_or, c154 ht, t1, c71 ht, i1, nmm, bI_ite, decide_true, decide_false, Bool.false_eq_true, f0, nn], fun e τ k => ?_⟩
    have j1 : τ.1 235 t = nI s := by rw [k.at s3 (by omega)]; exact i3
    have j2 : τ.1 236 t = nI n := by rw [k.at s4 (by omega)]; exact i4
    have j3 : τ.1 219 3 = nI M := by rw [k.at s7 (by omega)]; exact m3
    have e1 : bm_call S (e + 2) 275 [.ref 218, .int (nI t)] τ = bm_run S (e + 2) 275 14 [some (.ref 218), some (.int (nI t)), some (.int 0)] [] τ := by
      simp (decide := true) only [e275, g275_0, g275_5, bm_run_ite, Option.toList_some, Option.bind_some, Option.toList_some, Option.toList_none, List.cons_append, List.nil_append, List.append_nil, eq_self, not_true_eq_false, not_false_eq_true, ite_true, ite_false, ↓reduceIte, Nat.reduceLT, Nat.reduceEqDiff, Nat.reduceAdd, or_true, true_or, or_false, false_or, m229c ht hs j1]
    rw [e1, g275_14]
    simp (disch := omega) only [bm_run_ite, Option.toList_some, Option.bind_some, Option.toList_some, Option.toList_none, List.cons_append, List.nil_append, List.append_nil, eq_self, not_true_eq_false, not_false_eq_true, ite_true, ite_false, ↓reduceIte, Nat.reduceLT, Nat.reduceEqDiff, Nat.reduceAdd, or_true, true_or, or_false, false_or, nI_clamp2, nI_lt0F, nI_leT, nI_leF, nI_ltT, nI_ltF, n_leF, n_leT, nI_1, kA6, kA8, kA10, kA22, kA26, kA32, kA44, kA56, kA68, kA80, kA93, kA163, kA794, not_or, or_self, and_self, and_true, true_and, j2, j3, nn, g275_33, g275_35]
theorem fiB_cg {X Y : Nat → Int64} (h : ∀ m, m < M → X m = Y m) (l : Nat) : fiB M L B X l = fiB M L B Y l := by
  unfold fiB
  rw [fiP_cg h]
theorem p_missing (h : RS M L σ) (i : Int32) : PR S (d + 10) 145 277 [.int i] σ := by
  have s7 : ¬ Sc 219 := by unfold Sc; omega
  rcases c145a (S := S) (d := d + 2) h (i := i) with ⟨v, v0, k1, k2⟩ | ⟨t, ht, rfl, σ1, k1, kp, _, hx, k2⟩
  · refine PR.ofk (v := .int v) h ⟨σ, k1, Kp.rfl σ⟩ ?_
    intro τ k
    have k3 := k2 (d + 7) _ (k.tr (kp_t0 τ))
    have vn : ¬ v = 0 := fun z => by rw [z] at v0; exact absurd v0 (by decide)
    exact ⟨_, by simp (decide := true) only [e277, g277_0, g277_10, g277_15, g277_24, bm_run_ite, Option.toList_some, Option.bind_some, Option.toList_some, Option.toList_none, List.cons_append, List.nil_append, List.append_nil, eq_self, not_true_eq_false, not_false_eq_true, ite_true, ite_false, ↓reduceIte, Nat.reduceLT, Nat.reduceEqDiff, Nat.reduceAdd, or_true, true_or, or_false, false_or, k3, vn], kp_t0 τ⟩
  · refine PR.ofk h ⟨σ1, k1, kp⟩ ?_
    intro τ k
    have kk := k.tr (kp_t0 τ)
    have k3 := k2 (d + 7) _ kk
    have h2 := h.kp kk
    have hB : (bm_wi τ 218 0 0).1 219 = σ.1 219 := kk.at s7 (by omega)
    obtain ⟨σ3, k4, k5, k6, _⟩ := m276 (S := S) (d := d + 3) h2.mr hB h.ga ht (X := σ.2 (211 + 2 * t)) (fun m hm => by rw [kk.2.2 237 (by omega)]; exact (hx m hm).symm)
    exact ⟨σ3, by simp (decide := true) only [e277, g277_0, g277_10, g277_19, g277_24, bm_run_ite, Option.toList_some, Option.bind_some, Option.toList_some, Option.toList_none, List.cons_append, List.nil_append, List.append_nil, eq_self, not_true_eq_false, not_false_eq_true, ite_true, ite_false, ↓reduceIte, Nat.reduceLT, Nat.reduceEqDiff, Nat.reduceAdd, or_true, true_or, or_false, false_or, k3, k4], (kp_t0 τ).tr k6⟩
theorem p_look (h : RS M L σ) (i : Int32) : PR S (d + 10) 146 278 [.int i] σ := by
  have s7 : ¬ Sc 219 := by unfold Sc; omega
  have hM := h.rw.M6
  have hL := h.rw.L12
  have f0 : σ.1 5 0 = nI M := h.rw.f0
  have s5 : ¬ Sc 5 := by unfold Sc; omega
  rcases c145a (S := S) (d := d + 1) h (i := i) with ⟨v, v0, k1, k2⟩ | ⟨t, ht, rfl, σ1, k1, kp, ka, hx, k2⟩
  · have v2 : ¬ (0 : Int32) ≤ v := Int32.not_le.mpr v0
    have vn : ¬ v = 0 := fun z => by rw [z] at v0; exact absurd v0 (by decide)
    refine PR.ofk (v := .int v) h ⟨σ, by simp (decide := true) only [e146, g146_0, g146_5, g146_10, bm_run_ite, Option.toList_some, Option.bind_some, Option.toList_some, Option.toList_none, List.cons_append, List.nil_append, List.append_nil, eq_self, not_true_eq_false, not_false_eq_true, ite_true, ite_false, ↓reduceIte, Nat.reduceLT, Nat.reduceEqDiff, Nat.reduceAdd, or_true, true_or, or_false, false_or, k1, v2], Kp.rfl σ⟩ ?_
    intro τ k
    have k3 := k2 (d + 7) _ (k.tr (kp_t0 τ))
    exact ⟨_, by simp (decide := true) only [e278, g278_0, g278_10, g278_15, bm_run_ite, Option.toList_some, Option.bind_some, Option.toList_some, Option.toList_none, List.cons_append, List.nil_append, List.append_nil, eq_self, not_true_eq_false, not_false_eq_true, ite_true, ite_false, ↓reduceIte, Nat.reduceLT, Nat.reduceEqDiff, Nat.reduceAdd, or_true, true_or, or_false, false_or, k3, vn], kp_t0 τ⟩
  · have bits : orS (fiB M L (σ.1 219) (σ.2 (211 + 2 * t))) L = nI (myF (fiB M L (σ.1 219) (σ.2 (211 + 2 * t))) L) := orS_my hL
    have b1 : (0 : Int32) ≤ orS (fiB M L (σ.1 219) (σ.2 (211 + 2 * t))) L := by
      rw [bits]
      have := myF_lt (fiB M L (σ.1 219) (σ.2 (211 + 2 * t))) L
      have p12 : 2 ^ L ≤ 2 ^ 12 := Nat.pow_le_pow_right (by decide) hL
      exact nI_le (a := 0) (by omega) (by omega)
    have wd : ∀ k, k < 12 → tb (orS (fiB M L (σ.1 219) (σ.2 (211 + 2 * t))) L) k = true → k < L ∧ dB (σ.1 219) (σ.1 219 22) k = true := by
      intro k hk q
      rw [orS_tb _ (by omega) L (by omega)] at q
      simp only [Bool.and_eq_true, decide_eq_true_eq] at q
      refine ⟨q.1, ?_⟩
      have := q.2
      unfold fiB at this
      simp only [Bool.and_eq_true] at this
      exact this.1
    have wL : ∀ l, L ≤ l → l < 32 → tb (orS (fiB M L (σ.1 219) (σ.2 (211 + 2 * t))) L) l = false := by
      intro l h1 h2
      rw [orS_tb _ h2 L (by omega)]
      simp [Nat.not_lt.mpr h1]
    have wc : ∀ m, m < M → ∀ k, k < 12 → tb (orS (fiB M L (σ.1 219) (σ.2 (211 + 2 * t))) L) k = true → σ1.1 173 (6 * k + m) = caL M L (σ.1 219) k m := fun m hm k hk q => ka k (wd k hk q).1 (wd k hk q).2 m hm
    by_cases w0 : orS (fiB M L (σ.1 219) (σ.2 (211 + 2 * t))) L = 0
    · rw [w0] at k1
      refine PR.ofk (v := .int (Int32.ofInt (-1))) h ⟨σ1, by simp (decide := true) only [e146, g146_0, g146_5, g146_12, g146_16, g146_35, bm_run_ite, Option.toList_some, Option.bind_some, Option.toList_some, Option.toList_none, List.cons_append, List.nil_append, List.append_nil, eq_self, not_true_eq_false, not_false_eq_true, ite_true, ite_false, ↓reduceIte, Nat.reduceLT, Nat.reduceEqDiff, Nat.reduceAdd, or_true, true_or, or_false, false_or, k1], kp⟩ ?_
      intro τ k
      have kk := k.tr (kp_t0 τ)
      have k3 := k2 (d + 7) _ kk
      have h2 := h.kp kk
      have hB : (bm_wi τ 218 0 0).1 219 = σ.1 219 := kk.at s7 (by omega)
      obtain ⟨σ3, k4, k5, k6, _⟩ := m276 (S := S) (d := d + 3) h2.mr hB h.ga ht (X := σ.2 (211 + 2 * t)) (fun m hm => by rw [kk.2.2 237 (by omega)]; exact (hx m hm).symm)
      rw [w0] at k4
      have m3 := (h2.kp k6).mr.m
      refine ⟨σ3, ?_, (kp_t0 τ).tr k6⟩
      by_cases q : σ3.1 219 3 ≤ 0
      · simp (decide := true) only [e278, g278_0, g278_10, g278_17, g278_22, g278_33, g278_195, bm_run_ite, Option.toList_some, Option.bind_some, Option.toList_some, Option.toList_none, List.cons_append, List.nil_append, List.append_nil, eq_self, not_true_eq_false, not_false_eq_true, ite_true, ite_false, ↓reduceIte, Nat.reduceLT, Nat.reduceEqDiff, Nat.reduceAdd, or_true, true_or, or_false, false_or, k3, k4, q]
      · simp (decide := true) only [e278, g278_0, g278_10, g278_17, g278_22, g278_33, g278_44, g278_195, bm_run_ite, Option.toList_some, Option.bind_some, Option.toList_some, Option.toList_none, List.cons_append, List.nil_append, List.append_nil, eq_self, not_true_eq_false, not_false_eq_true, ite_true, ite_false, ↓reduceIte, Nat.reduceLT, Nat.reduceEqDiff, Nat.reduceAdd, or_true, true_or, or_false, false_or, k3, k4, q]
    · have k30 := c30 (S := S) (d := d + 7) (M := M) (L := L) (B := σ.1 219) (σ := σ1) hM wc
      have f1 : σ1.1 5 0 = nI M := by rw [kp.at s5 (by omega)]; exact f0
      refine PR.ofk (v := .int (teF M L (σ.1 219) (orS (fiB M L (σ.1 219) (σ.2 (211 + 2 * t))) L) M).1) h ⟨σ1, by simp (decide := true) only [e146, g146_0, g146_5, g146_12, g146_20, g146_35, bm_run_ite, Option.toList_some, Option.bind_some, Option.toList_some, Option.toList_none, List.cons_append, List.nil_append, List.append_nil, eq_self, not_true_eq_false, not_false_eq_true, ite_true, ite_false, ↓reduceIte, Nat.reduceLT, Nat.reduceEqDiff, Nat.reduceAdd, or_true, true_or, or_false, false_or, k1, b1, w0, f1, k30], kp⟩ ?_
      intro τ k
      have kk := k.tr (kp_t0 τ)
      have k3 := k2 (d + 7) _ kk
      have h2 := h.kp kk
      have hB : (bm_wi τ 218 0 0).1 219 = σ.1 219 := kk.at s7 (by omega)
      obtain ⟨σ3, k4, k5, k6, k7⟩ := m276 (S := S) (d := d + 3) h2.mr hB h.ga ht (X := σ.2 (211 + 2 * t)) (fun m hm => by rw [kk.2.2 237 (by omega)]; exact (hx m hm).symm)
      have k8 := m278t (S := S) (d := d) (h2.kp k6).mr k5 wL (fun m hm k hk q => k7 k (wd k hk q).1 (wd k hk q).2 m hm) w0
      refine ⟨σ3, ?_, (kp_t0 τ).tr k6⟩
      simp (decide := true) only [e278, g278_0, g278_10, g278_17, g278_22, bm_run_ite, Option.toList_some, Option.bind_some, Option.toList_some, Option.toList_none, List.cons_append, List.nil_append, List.append_nil, eq_self, not_true_eq_false, not_false_eq_true, ite_true, ite_false, ↓reduceIte, Nat.reduceLT, Nat.reduceEqDiff, Nat.reduceAdd, or_true, true_or, or_false, false_or, k3, k4, k8]
end LOOK
