/-! THE CLASS's fair -/
def Fx (w : Nat) (σ τ : bm_S) : Prop := (∀ a, (a < w ∨ w + 7 < a) → τ.1 a = σ.1 a) ∧ τ.2 = σ.2
theorem Fx.rfl (w : Nat) (σ : bm_S) : Fx w σ σ := ⟨fun _ _ => Eq.refl _, Eq.refl _⟩
theorem Fx.tr {w : Nat} {σ τ ρ : bm_S} (h : Fx w σ τ) (h1 : Fx w τ ρ) : Fx w σ ρ := ⟨fun a ha => (h1.1 a ha).trans (h.1 a ha), h1.2.trans h.2⟩
theorem Fx.wi {w : Nat} {σ τ : bm_S} (h : Fx w σ τ) {a : Nat} (h0 : w ≤ a) (h1 : a ≤ w + 7) (k : Nat) (x : Int32) : Fx w σ (bm_wi τ a k x) := ⟨fun b hb => (wi_n τ (by omega) k x).trans (h.1 b hb), h.2⟩
/-- all but a world and its book's stack -/
def Fs (w b : Nat) (σ τ : bm_S) : Prop := (∀ a, (a < w ∨ w + 7 < a) → a ≠ w + 9 → a ≠ b + 2 → τ.1 a = σ.1 a) ∧ τ.2 = σ.2
theorem Fs.rfl (w b : Nat) (σ : bm_S) : Fs w b σ σ := ⟨fun _ _ _ _ => Eq.refl _, Eq.refl _⟩
theorem Fs.tr {w b : Nat} {σ τ ρ : bm_S} (h : Fs w b σ τ) (h1 : Fs w b τ ρ) : Fs w b σ ρ := ⟨fun a ha hb hc => (h1.1 a ha hb hc).trans (h.1 a ha hb hc), h1.2.trans h.2⟩
theorem Fx.s {w b : Nat} {σ τ : bm_S} (h : Fx w σ τ) : Fs w b σ τ := ⟨fun a ha _ _ => h.1 a ha, h.2⟩
theorem BK.cg {σ : bm_S} {b : Nat} {B C : Nat → Int32} (h : BK σ b B) (e : eqS B C) : BK σ b C := by
  have hc : ∀ p j, cdB C p j = cdB B p j := fun p j => e _ (by omega) (by omega)
  unfold BK CK at h ⊢
  simp only [hc]
  rw [e 0 (by omega) (by omega), e 1 (by omega) (by omega), e 2 (by omega) (by omega), e 4 (by omega) (by omega), e 5 (by omega) (by omega), e 6 (by omega) (by omega), e 7 (by omega) (by omega), e 8 (by omega) (by omega), e 9 (by omega) (by omega)]
  exact h
theorem tyF_cg {B C : Nat → Int32} (e : eqS B C) (p : Nat) : ∀ n, tyF C p n = tyF B p n := by
  intro n
  have hc : ∀ p j, cdB C p j = cdB B p j := fun p j => e _ (by omega) (by omega)
  induction n with
  | zero => rfl
  | succ n ih => rw [tyF, tyF, ih, hc]
theorem LW.cg {B C : Nat → Int32} (h : LW B) (e : eqS B C) : LW C := by
  have hc : ∀ p j, cdB C p j = cdB B p j := fun p j => e _ (by omega) (by omega)
  unfold LW wfL at h ⊢
  simp only [hc, tyF_cg e]
  rw [e 1 (by omega) (by omega), e 4 (by omega) (by omega), e 5 (by omega) (by omega), e 6 (by omega) (by omega), e 7 (by omega) (by omega), e 8 (by omega) (by omega), e 9 (by omega) (by omega)]
  exact h
theorem neg_sub2 (x y : Int32) : -x - y = -(x + y) := by rw [Int32.neg_add, Int32.sub_eq_add_neg]
section CFAIR
variable {S : am_S} {d : Nat} {σ : bm_S} {M L w : Nat} {B : Nat → Int32}
theorem c106 (h : RW M L σ w B) {m : Nat} (hm : m < 6) : ∃ σ1, bm_call S (d + 2) 106 [.ref w, .int (nI m)] σ = some (none, σ1) ∧ RW M L σ1 w (brB B m L) ∧ Fx w σ σ1 := by
  have hL := h.L12
  have h0 := h.wf2 (B 24 ||| bt m)
  obtain ⟨σ1, e1, h1, f1⟩ := loop_ex (fun k s => bm_run S (d + 2) 106 14 [some (.ref w), some (.int (nI m)), some (.int (nI k))] [] s) (fun k s => RW M L s w (itR (brS (nI m)) (upd B 24 (B 24 ||| bt m)) k) ∧ Fx w σ s) L (bm_wi σ w 2 (B 24 ||| bt m)) ⟨h0, (Fx.rfl w σ).wi (by omega) (by omega) _ _⟩ (by
    intro k s hk hp
    obtain ⟨h1, f1⟩ := hp
    have e9 : ∀ {C : Nat → Int32}, itR (brS (nI m)) (upd B 24 (B 24 ||| bt m)) k = C → itR (brS (nI m)) (upd B 24 (B 24 ||| bt m)) (k + 1) = brS (nI m) C k := fun q => by rw [itR, q]
    generalize hC : itR (brS (nI m)) (upd B 24 (B 24 ||| bt m)) k = C at h1
    rw [e9 hC]
    unfold brS
    cases ho : oB C k
    · refine ⟨s, ?_, ?_, f1⟩
      · rw [g106_14]
        simp (disch := omega) only [bm_run_ite, Option.toList_some, Option.bind_some, Option.toList_some, Option.toList_none, List.cons_append, List.nil_append, List.append_nil, eq_self, not_true_eq_false, not_false_eq_true, ite_true, ite_false, ↓reduceIte, Nat.reduceLT, Nat.reduceEqDiff, Nat.reduceAdd, or_true, true_or, or_false, false_or, nI_clamp2, nI_lt0F, nI_leT, nI_leF, nI_ltT, nI_ltF, n_leF, n_leT, nI_1, kA6, kA8, kA10, kA22, kA26, kA32, kA44, kA56, kA68, kA80, kA93, kA163, kA794, not_or, or_self, and_self, and_true, true_and, g106_0, g106_22, g106_27, g106_30, g106_38, g106_42, g106_50, g106_54, g106_63, g106_69, h1.t, h1.f1, c81n h1, ho, bI_ite, Bool.false_eq_true]
      · simpa using h1
    · by_cases q : C (32 + k) = nI m
      · have et : tou C (nI m) k = true := by simp [tou, q]
        refine ⟨bm_wi s (w + 6) k 2, ?_, ?_, f1.wi (by omega) (by omega) _ _⟩
        · rw [g106_14]
          simp (disch := omega) only [bm_run_ite, Option.toList_some, Option.bind_some, Option.toList_some, Option.toList_none, List.cons_append, List.nil_append, List.append_nil, eq_self, not_true_eq_false, not_false_eq_true, ite_true, ite_false, ↓reduceIte, Nat.reduceLT, Nat.reduceEqDiff, Nat.reduceAdd, or_true, true_or, or_false, false_or, nI_clamp2, nI_lt0F, nI_leT, nI_leF, nI_ltT, nI_ltF, n_leF, n_leT, nI_1, kA6, kA8, kA10, kA22, kA26, kA32, kA44, kA56, kA68, kA80, kA93, kA163, kA794, not_or, or_self, and_self, and_true, true_and, g106_0, g106_22, g106_27, g106_30, g106_38, g106_42, g106_50, g106_54, g106_63, g106_69, h1.t, h1.f1, c81n h1, ho, bI_ite, h1.a2, q, h1.s6]
        · simp only [et, Bool.and_self, if_true]; exact h1.w6 hk 2
      · by_cases q1 : C (44 + k) = nI m
        · have et : tou C (nI m) k = true := by simp [tou, q1]
          refine ⟨bm_wi s (w + 6) k 2, ?_, ?_, f1.wi (by omega) (by omega) _ _⟩
          · rw [g106_14]
            simp (disch := omega) only [bm_run_ite, Option.toList_some, Option.bind_some, Option.toList_some, Option.toList_none, List.cons_append, List.nil_append, List.append_nil, eq_self, not_true_eq_false, not_false_eq_true, ite_true, ite_false, ↓reduceIte, Nat.reduceLT, Nat.reduceEqDiff, Nat.reduceAdd, or_true, true_or, or_false, false_or, nI_clamp2, nI_lt0F, nI_leT, nI_leF, nI_ltT, nI_ltF, n_leF, n_leT, nI_1, kA6, kA8, kA10, kA22, kA26, kA32, kA44, kA56, kA68, kA80, kA93, kA163, kA794, not_or, or_self, and_self, and_true, true_and, g106_0, g106_22, g106_27, g106_30, g106_38, g106_42, g106_50, g106_54, g106_63, g106_69, h1.t, h1.f1, c81n h1, ho, bI_ite, h1.a2, h1.a3, q, q1, h1.s6]
          · simp only [et, Bool.and_self, if_true]; exact h1.w6 hk 2
        · have et : tou C (nI m) k = false := by simp [tou, q, q1]
          refine ⟨s, ?_, ?_, f1⟩
          · rw [g106_14]
            simp (disch := omega) only [bm_run_ite, Option.toList_some, Option.bind_some, Option.toList_some, Option.toList_none, List.cons_append, List.nil_append, List.append_nil, eq_self, not_true_eq_false, not_false_eq_true, ite_true, ite_false, ↓reduceIte, Nat.reduceLT, Nat.reduceEqDiff, Nat.reduceAdd, or_true, true_or, or_false, false_or, nI_clamp2, nI_lt0F, nI_leT, nI_leF, nI_ltT, nI_ltF, n_leF, n_leT, nI_1, kA6, kA8, kA10, kA22, kA26, kA32, kA44, kA56, kA68, kA80, kA93, kA163, kA794, not_or, or_self, and_self, and_true, true_and, g106_0, g106_22, g106_27, g106_30, g106_38, g106_42, g106_50, g106_54, g106_63, g106_69, h1.t, h1.f1, c81n h1, ho, bI_ite, h1.a2, h1.a3, q, q1]
          · simp only [et, Bool.and_false, Bool.false_eq_true, if_false]; exact h1)
  refine ⟨σ1, ?_, h1, f1⟩
  simp only [e106, g106_0, bm_run_ite, Option.toList_some, Option.bind_some, Option.toList_some, Option.toList_none, List.cons_append, List.nil_append, List.append_nil, eq_self, not_true_eq_false, not_false_eq_true, ite_true, ite_false, ↓reduceIte, Nat.reduceLT, Nat.reduceEqDiff, Nat.reduceAdd, or_true, true_or, or_false, false_or, h.t, h.f2]
  refine (show bm_run S (d + 2) 106 14 [some (.ref w), some (.int (nI m)), some (.int (nI 0))] [] _ = _ from e1).trans ?_
  rw [g106_14]
  simp (disch := omega) only [bm_run_ite, Option.toList_some, Option.bind_some, Option.toList_some, Option.toList_none, List.cons_append, List.nil_append, List.append_nil, eq_self, not_true_eq_false, not_false_eq_true, ite_true, ite_false, ↓reduceIte, Nat.reduceLT, Nat.reduceEqDiff, Nat.reduceAdd, or_true, true_or, or_false, false_or, nI_clamp2, nI_lt0F, nI_leT, nI_leF, nI_ltT, nI_ltF, n_leF, n_leT, nI_1, kA6, kA8, kA10, kA22, kA26, kA32, kA44, kA56, kA68, kA80, kA93, kA163, kA794, not_or, or_self, and_self, and_true, true_and, g106_0, g106_22, g106_27, g106_30, g106_38, g106_42, g106_50, g106_54, g106_63, g106_69, h1.t, h1.f1]
theorem c105 (h : RW M L σ w B) {m : Nat} : ∃ σ1, bm_call S (d + 2) 105 [.ref w, .int (nI m)] σ = some (none, σ1) ∧ RW M L σ1 w (ptB B (dB B (B 22)) m L) ∧ Fx w σ σ1 := by
  have hL := h.L12
  obtain ⟨σ1, e1, h1, f1⟩ := loop_ex (fun k s => bm_run S (d + 2) 105 2 [some (.ref w), some (.int (nI m)), some (.int (nI k))] [] s) (fun k s => RW M L s w (ptB B (dB B (B 22)) m k) ∧ Fx w σ s) L σ ⟨h, Fx.rfl w σ⟩ (by
    intro k s hk hp
    obtain ⟨h1, f1⟩ := hp
    have e9 : ∀ {C : Nat → Int32}, ptB B (dB B (B 22)) m k = C → ptB B (dB B (B 22)) m (k + 1) = ptS (dB B (B 22)) (nI m) C k := fun q => by rw [← q]; rfl
    have ed : ∀ {C : Nat → Int32}, ptB B (dB B (B 22)) m k = C → dB C (C 22) k = dB B (B 22) k := fun q => by
      unfold dB
      rw [← q, ptB_out (by omega), ptB_out (by omega), ptB_out (by omega)]
    generalize hC : ptB B (dB B (B 22)) m k = C at h1
    rw [e9 hC]
    unfold ptS
    cases hd : dB B (B 22) k
    · refine ⟨s, ?_, ?_, f1⟩
      · rw [g105_2]
        simp (disch := omega) only [bm_run_ite, Option.toList_some, Option.bind_some, Option.toList_some, Option.toList_none, List.cons_append, List.nil_append, List.append_nil, eq_self, not_true_eq_false, not_false_eq_true, ite_true, ite_false, ↓reduceIte, Nat.reduceLT, Nat.reduceEqDiff, Nat.reduceAdd, or_true, true_or, or_false, false_or, nI_clamp2, nI_lt0F, nI_leT, nI_leF, nI_ltT, nI_ltF, n_leF, n_leT, nI_1, kA6, kA8, kA10, kA22, kA26, kA32, kA44, kA56, kA68, kA80, kA93, kA163, kA794, not_or, or_self, and_self, and_true, true_and, g105_0, g105_10, g105_19, g105_22, g105_30, g105_34, g105_39, g105_45, h1.t, h1.f1, h1.f3, c82n h1, ed hC, hd, bI_ite, Bool.false_eq_true]
      · simpa using h1
    · by_cases q : C (32 + k) = nI m
      · refine ⟨bm_wi s (w + 5) k (C (68 + k) + 1), ?_, ?_, f1.wi (by omega) (by omega) _ _⟩
        · rw [g105_2]
          simp (disch := omega) only [bm_run_ite, Option.toList_some, Option.bind_some, Option.toList_some, Option.toList_none, List.cons_append, List.nil_append, List.append_nil, eq_self, not_true_eq_false, not_false_eq_true, ite_true, ite_false, ↓reduceIte, Nat.reduceLT, Nat.reduceEqDiff, Nat.reduceAdd, or_true, true_or, or_false, false_or, nI_clamp2, nI_lt0F, nI_leT, nI_leF, nI_ltT, nI_ltF, n_leF, n_leT, nI_1, kA6, kA8, kA10, kA22, kA26, kA32, kA44, kA56, kA68, kA80, kA93, kA163, kA794, not_or, or_self, and_self, and_true, true_and, g105_0, g105_10, g105_19, g105_22, g105_30, g105_34, g105_39, g105_45, h1.t, h1.f1, h1.f3, c82n h1, ed hC, hd, bI_ite, h1.a2, q, c103 h1]
        · simp only [q, decide_true, Bool.and_self, if_true]; exact h1.w5 hk _
      · refine ⟨s, ?_, ?_, f1⟩
        · rw [g105_2]
          simp (disch := omega) only [bm_run_ite, Option.toList_some, Option.bind_some, Option.toList_some, Option.toList_none, List.cons_append, List.nil_append, List.append_nil, eq_self, not_true_eq_false, not_false_eq_true, ite_true, ite_false, ↓reduceIte, Nat.reduceLT, Nat.reduceEqDiff, Nat.reduceAdd, or_true, true_or, or_false, false_or, nI_clamp2, nI_lt0F, nI_leT, nI_leF, nI_ltT, nI_ltF, n_leF, n_leT, nI_1, kA6, kA8, kA10, kA22, kA26, kA32, kA44, kA56, kA68, kA80, kA93, kA163, kA794, not_or, or_self, and_self, and_true, true_and, g105_0, g105_10, g105_19, g105_22, g105_30, g105_34, g105_39, g105_45, h1.t, h1.f1, h1.f3, c82n h1, ed hC, hd, bI_ite, h1.a2, q]
        · simp only [q, decide_false, Bool.and_false, Bool.false_eq_true, if_false]; exact h1)
  refine ⟨σ1, ?_, h1, f1⟩
  simp only [e105, g105_0, bm_run_ite, Option.toList_some, Option.bind_some, Option.toList_some, Option.toList_none, List.cons_append, List.nil_append, List.append_nil, eq_self, not_true_eq_false, not_false_eq_true, ite_true, ite_false, ↓reduceIte, Nat.reduceLT, Nat.reduceEqDiff, Nat.reduceAdd, or_true, true_or, or_false, false_or]
  refine (show bm_run S (d + 2) 105 2 [some (.ref w), some (.int (nI m)), some (.int (nI 0))] [] _ = _ from e1).trans ?_
  rw [g105_2]
  simp (disch := omega) only [bm_run_ite, Option.toList_some, Option.bind_some, Option.toList_some, Option.toList_none, List.cons_append, List.nil_append, List.append_nil, eq_self, not_true_eq_false, not_false_eq_true, ite_true, ite_false, ↓reduceIte, Nat.reduceLT, Nat.reduceEqDiff, Nat.reduceAdd, or_true, true_or, or_false, false_or, nI_clamp2, nI_lt0F, nI_leT, nI_leF, nI_ltT, nI_ltF, n_leF, n_leT, nI_1, kA6, kA8, kA10, kA22, kA26, kA32, kA44, kA56, kA68, kA80, kA93, kA163, kA794, not_or, or_self, and_self, and_true, true_and, g105_0, g105_10, g105_19, g105_22, g105_30, g105_34, g105_39, g105_45, h1.t, h1.f1]
theorem dB_br {L : Nat} (hL : L ≤ 12) {B : Nat → Int32} {f : Int32} {m l : Nat} (hl : l < L) : dB (brB B m L) f l = brD B m (dB B f) l := by
  unfold dB brD
  rw [brB_80 hL hl, brB_out (by omega) (by omega)]
  cases q : (oB B l && tou B (nI m) l)
  · simp [dB]
  · simp (decide := true)
theorem dB_pt {L : Nat} (hL : L ≤ 12) {B : Nat → Int32} {f : Int32} {D : Nat → Bool} (hD : ∀ l, l < L → D l = dB B f l) {m l : Nat} (hl : l < L) : dB (ptB B D m L) f l = ptD B m D l := by
  unfold ptD
  rw [hD l hl]
  unfold dB
  rw [ptB_out (by omega), ptB_68 hL hl, hD l hl]
  cases q : (dB B f l && decide (B (32 + l) = nI m))
  · simp only [Bool.false_eq_true, if_false]
    unfold dB at q
    by_cases q1 : B (32 + l) = nI m
    · simp only [q1, decide_true, Bool.and_true] at q
      rw [q]; simp
    · simp [q1]
  · simp only [Bool.and_eq_true, decide_eq_true_eq, dB] at q
    have : ¬ f + 1 = f := by
      intro z
      have z1 : (f + 1) - f = f - f := by rw [z]
      rw [Int32.add_comm, Int32.add_sub_cancel, Int32.sub_self] at z1
      exact absurd z1 (by decide)
    rw [q.1.2]
    simp [q.2, this]
end CFAIR
