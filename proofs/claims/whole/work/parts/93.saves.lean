/-! how much more saves one -/
theorem evF_nm {W V C : Nat → Int32} {p n : Nat} (h : wfL true C p n) (e : ∀ i, i < 4 → W i = V i) (no : ∀ j, j < n → ¬ cdB C p j = 1004 ∧ ¬ cdB C p j = 1005) : ∀ j, j ≤ n → evF W C p j = evF V C p j := by
  intro j
  induction j with
  | zero => intro _; rfl
  | succ j ih =>
    intro hj
    rw [evF, evF, ih (by omega)]
    have : cdB C p j < 3000 → evV W (cdB C p j) = evV V (cdB C p j) := by
      intro hc
      unfold evV
      have q0 : cN ((1000 : Int32) - 1000) = 0 := by decide
      have q1 : cN ((1001 : Int32) - 1000) = 1 := by decide
      have q3 : cN ((1003 : Int32) - 1000) = 3 := by decide
      have nn := no j (by omega)
      rcases (h.2.2 j (by omega)).1 with ⟨k, hk, e9⟩ | e9 | e9 | ⟨ht, e9⟩ | ⟨ht, e9⟩ | e9 | e9
      · rw [e9]
        have : nI k < 1000 := nI_lt (b := 1000) hk (by decide)
        rw [if_pos this, if_pos this]
      · rw [e9, q0, e 0 (by omega)]
      · rw [e9, q1, e 1 (by omega)]
      · cases ht
      · rcases e9 with e9 | e9 | e9
        · rw [e9, q3, e 3 (by omega)]
        · exact absurd e9 nn.1
        · exact absurd e9 nn.2
      · rw [e9] at hc; exact absurd hc (by decide)
      · exact absurd hc (isJ_ge e9).1
    unfold evS
    by_cases hc : cdB C p j < 3000
    · rw [if_pos hc, if_pos hc, this hc]
    · rw [if_neg hc, if_neg hc]
def asC (B : Nat → Int32) (p j : Nat) : Bool := decide (cdB B p j = 1004) || decide (cdB B p j = 1005)
theorem tr45 {c : Int32} (h : okC true c) : (trI c = Int32.ofInt (-4) ↔ c = 1004) ∧ (trI c = Int32.ofInt (-5) ↔ c = 1005) := by
  rcases h with ⟨k, hk, rfl⟩ | rfl | rfl | ⟨h, _⟩ | ⟨_, h⟩ | rfl | h
  · rw [trI_nI hk]
    refine ⟨⟨fun z => ?_, fun z => ?_⟩, ⟨fun z => ?_, fun z => ?_⟩⟩
    · exact absurd (show nI k < 0 by rw [z]; decide) (nI_pos (by omega))
    · have := (nI_eq (a := k) (b := 1004) (by omega) (by omega)).mp z; omega
    · exact absurd (show nI k < 0 by rw [z]; decide) (nI_pos (by omega))
    · have := (nI_eq (a := k) (b := 1005) (by omega) (by omega)).mp z; omega
  · decide
  · decide
  · cases h
  · rcases h with rfl | rfl | rfl <;> decide
  · decide
  · rcases h with rfl | rfl | rfl | rfl | rfl | rfl | rfl | rfl <;> decide
section SAVES
variable {S : am_S} {d : Nat} {σ : bm_S} {M L : Nat} {B : Nat → Int32}
theorem NM_of (hl : LW B) (h : ¬ B 5 = 0 → ∀ p n, B 7 = nI p → B 9 = nI n → p + n ≤ 900 → ∀ j, j < n → ¬ cdB B p j = 1004 ∧ ¬ cdB B p j = 1005) : NM B := by
  intro f a c s c2 s2
  unfold tmB
  rw [upd_s, upd_n B f (show 5 ≠ 22 by decide), upd_n B f (show 1 ≠ 22 by decide), upd_n B f (show 7 ≠ 22 by decide), upd_n B f (show 9 ≠ 22 by decide)]
  by_cases z : B 5 = 0
  · rw [if_pos z, if_pos z]
  · rw [if_neg z, if_neg z]
    obtain ⟨p, n, e7, e9, w⟩ := hl.2.2 z
    have no := h z p n e7 e9 w.1
    have wn : p + n ≤ 900 := w.1
    rw [e7, e9, cN_nI (by omega), cN_nI (by omega)]
    have ec : ∀ j, cdB (upd B 22 f) p j = cdB B p j := fun j => upd_n _ _ (by omega)
    have ew : ∀ W n, evF W (upd B 22 f) p n = evF W B p n := by
      intro W n
      induction n with
      | zero => rfl
      | succ n ih => rw [evF, evF, ih, ec]
    rw [ew, ew, evF_nm w (W := wd (B 1) f a c s) (V := wd (B 1) f a c2 s2) (fun i hi => by rcases (show i = 0 ∨ i = 1 ∨ i = 2 ∨ i = 3 by omega) with rfl | rfl | rfl | rfl <;> rfl) no n (Nat.le_refl n)]
theorem c10 {b : Nat} (h : BK σ b B) (hl : LW B) : ∃ v : Bool, bm_call S (d + 1) 10 [.ref b] σ = some (some (.int (bI v)), σ) ∧ (v = false → NM B) := by
  obtain ⟨⟨t0, t1, t2, l1, l2⟩, _, _, _, h5, h5n⟩ := h
  by_cases z : B 5 = 0
  · refine ⟨false, ?_, fun _ => NM_of hl (fun q => absurd z q)⟩
    have e := h5 z
    have le : σ.1 b 8 ≤ σ.1 b 8 := Int32.le_refl _
    simp (decide := true) only [e10, g10_0, g10_5, g10_42, bm_run_ite, Option.toList_some, Option.bind_some, Option.toList_some, Option.toList_none, List.cons_append, List.nil_append, List.append_nil, eq_self, not_true_eq_false, not_false_eq_true, ite_true, ite_false, ↓reduceIte, Nat.reduceLT, Nat.reduceEqDiff, Nat.reduceAdd, or_true, true_or, or_false, false_or, t0, e, le]
    rfl
  · obtain ⟨e7, e8, ck⟩ := h5n z
    obtain ⟨p, n, p7, p9, w⟩ := hl.2.2 z
    have wn : p + n ≤ 900 := w.1
    rw [p7] at e7
    rw [p7, p9, nI_add] at e8
    rw [p7, p9, cN_nI (by omega), cN_nI (by omega)] at ck
    have ca : ∀ k, k < n → bm_call S d 158 [.ref (b + 1), .int (nI (p + k))] σ = some (some (.int (trI (cdB B p k))), σ) := fun k hk => by rw [at_row t1 l1 (by omega) (by decide), ck k hk]
    have step := loop_allx (fun k (o : Option Value) => bm_run S (d + 1) 10 5 [some (.ref b), some (.int (nI (p + k))), o] [] σ) (fun _ _ => True) (fun k => !asC B p k) (some (some (.int 1), σ)) n none trivial (by
      intro k o hk _
      have wk := (w.2.2 k hk).1
      obtain ⟨i4, i5⟩ := tr45 wk
      have lt : ¬ nI (p + n) ≤ nI (p + k) := nI_ge (by omega) (by omega)
      refine ⟨fun q => ⟨some (.int (trI (cdB B p k))), ?_, trivial⟩, fun q => ?_⟩
      · unfold asC at q
        simp only [Bool.not_eq_true', Bool.or_eq_false_iff, decide_eq_false_iff_not] at q
        have n4 : ¬ trI (cdB B p k) = Int32.ofInt (-4) := fun z => q.1 (i4.mp z)
        have n5 : ¬ trI (cdB B p k) = Int32.ofInt (-5) := fun z => q.2 (i5.mp z)
        show bm_run S (d + 1) 10 5 [some (.ref b), some (.int (nI (p + k))), o] [] σ = bm_run S (d + 1) 10 5 [some (.ref b), some (.int (nI (p + k + 1))), _] [] σ
        rw [g10_5]
        simp only [bm_run_ite, Option.toList_some, Option.bind_some, Option.toList_some, Option.toList_none, List.cons_append, List.nil_append, List.append_nil, eq_self, not_true_eq_false, not_false_eq_true, ite_true, ite_false, ↓reduceIte, Nat.reduceLT, Nat.reduceEqDiff, Nat.reduceAdd, or_true, true_or, or_false, false_or, t0, e8, lt, g10_13, ca k hk, g10_21, n4, g10_28, n5, g10_36, nI_1]
      · unfold asC at q
        simp only [Bool.not_eq_false', Bool.or_eq_true, decide_eq_true_eq] at q
        show bm_run S (d + 1) 10 5 [some (.ref b), some (.int (nI (p + k))), o] [] σ = _
        rw [g10_5]
        rcases q with q | q
        · have n4 := i4.mpr q
          simp (decide := true) only [bm_run_ite, Option.toList_some, Option.bind_some, Option.toList_some, Option.toList_none, List.cons_append, List.nil_append, List.append_nil, eq_self, not_true_eq_false, not_false_eq_true, ite_true, ite_false, ↓reduceIte, Nat.reduceLT, Nat.reduceEqDiff, Nat.reduceAdd, or_true, true_or, or_false, false_or, t0, e8, lt, g10_13, ca k hk, g10_21, n4, g10_34]
        · have n5 := i5.mpr q
          have n4 : ¬ trI (cdB B p k) = Int32.ofInt (-4) := fun z => by have := i4.mp z; rw [q] at this; exact absurd this (by decide)
          simp (decide := true) only [bm_run_ite, Option.toList_some, Option.bind_some, Option.toList_some, Option.toList_none, List.cons_append, List.nil_append, List.append_nil, eq_self, not_true_eq_false, not_false_eq_true, ite_true, ite_false, ↓reduceIte, Nat.reduceLT, Nat.reduceEqDiff, Nat.reduceAdd, or_true, true_or, or_false, false_or, t0, e8, lt, g10_13, ca k hk, g10_21, n5, g10_28, g10_34])
    have go : bm_call S (d + 1) 10 [.ref b] σ = bm_run S (d + 1) 10 5 [some (.ref b), some (.int (nI (p + 0))), none] [] σ := by
      simp (decide := true) only [e10, g10_0, bm_run_ite, Option.toList_some, Option.bind_some, Option.toList_some, Option.toList_none, List.cons_append, List.nil_append, List.append_nil, eq_self, not_true_eq_false, not_false_eq_true, ite_true, ite_false, ↓reduceIte, Nat.reduceLT, Nat.reduceEqDiff, Nat.reduceAdd, or_true, true_or, or_false, false_or, t0, e7]
      rfl
    rcases step with ⟨a1, o, e1, _⟩ | ⟨a1, e1⟩
    · refine ⟨false, ?_, fun _ => NM_of hl (fun _ p2 n2 q7 q9 hpn j hj => ?_)⟩
      · refine go.trans (e1.trans ?_)
        have le : nI (p + n) ≤ nI (p + n) := Int32.le_refl _
        show bm_run S (d + 1) 10 5 [some (.ref b), some (.int (nI (p + n))), o] [] σ = _
        rw [g10_5]
        simp (decide := true) only [bm_run_ite, Option.toList_some, Option.bind_some, Option.toList_some, Option.toList_none, List.cons_append, List.nil_append, List.append_nil, eq_self, not_true_eq_false, not_false_eq_true, ite_true, ite_false, ↓reduceIte, Nat.reduceLT, Nat.reduceEqDiff, Nat.reduceAdd, or_true, true_or, or_false, false_or, t0, e8, le, g10_42]
        rfl
      · have ep : p2 = p := (nI_eq (by omega) (by omega)).mp (q7.symm.trans p7)
        have en : n2 = n := (nI_eq (by omega) (by omega)).mp (q9.symm.trans p9)
        subst ep en
        rw [List.all_eq_true] at a1
        have := a1 j (List.mem_range.mpr hj)
        unfold asC at this
        simp only [Bool.not_eq_true', Bool.or_eq_false_iff, decide_eq_false_iff_not] at this
        exact this
    · exact ⟨true, go.trans e1, fun z => by cases z⟩
end SAVES
