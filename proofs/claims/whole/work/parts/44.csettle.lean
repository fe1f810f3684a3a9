/-- by how much one was SHORT, as it is set down -/
def rc1 (B g : Nat → Int32) (z k : Nat) (x : Int32) : Int32 := if z < k ∧ 0 < shF B g z then shF B g z else x
def rcF (M L z : Nat) : Nat → fS → Int32 → Int32
  | 0, _, x => x
  | n + 1, s, x => if anF M L s = true then rcF M L z n (tuS M L s) (rc1 s.1 (netF s.2 s.1 L) z M x) else rc1 s.1 (netF s.2 s.1 L) z M x
theorem rc1_n {B g : Nat → Int32} {z k : Nat} {x : Int32} (e : z ≠ k ∨ ¬ 0 < shF B g k) : rc1 B g z (k + 1) x = rc1 B g z k x := by
  unfold rc1
  by_cases p : 0 < shF B g z
  · by_cases l : z < k
    · rw [if_pos ⟨by omega, p⟩, if_pos ⟨l, p⟩]
    · have ne : ¬ z = k := by
        rcases e with e | e
        · exact e
        · intro y; rw [y] at p; exact e p
      rw [if_neg (fun y => l (by have := y.1; omega)), if_neg (fun y => l y.1)]
  · rw [if_neg (fun y => p y.2), if_neg (fun y => p y.2)]
theorem rc1_s {B g : Nat → Int32} {z k : Nat} {x : Int32} {f : Nat → Int32} (q : 0 < shF B g k) (h : f z = rc1 B g z k x) : upd f k (shF B g k) z = rc1 B g z (k + 1) x := by
  by_cases e : z = k
  · subst e; rw [upd_s]; unfold rc1; rw [if_pos ⟨by omega, q⟩]
  · rw [upd_n _ _ e, h, rc1_n (Or.inl e)]
section CSET
variable {S : am_S} {d : Nat} {σ : bm_S} {M L w b : Nat} {B : Nat → Int32}
/-- a book that lies outside a world -/
def ob (b w : Nat) : Prop := b + 2 < w ∨ w + 9 < b
theorem Fs.BK {τ : bm_S} (f : Fs w b σ τ) (o : ob b w) (h : BK σ b B) : BK τ b B := by
  unfold ob at o
  exact h.of (f.1 b (by omega) (by omega) (by omega)) (f.1 (b + 1) (by omega) (by omega) (by omega))
theorem c104 (h : RW M L σ w B) (o : ob b w) (hb : BK σ b B) (hl : LW B) {g : Nat → Int32} (hg : ∀ i, i < M → σ.1 (w + 8) i = g i) {D : Nat → Bool} (hD : ∀ l, l < L → D l = dB B (B 22) l) : ∃ σ1, bm_call S (d + 3) 104 [.ref w, .ref b] σ = some (some (.int (bI (anS B g M))), σ1) ∧ RW M L σ1 w (seF L B g (B, D) M).1 ∧ (∀ l, l < L → (seF L B g (B, D) M).2 l = dB (seF L B g (B, D) M).1 (B 22) l) ∧ Fs w b σ σ1 ∧ ∀ z, σ1.1 (w + 9) z = rc1 B g z M (σ.1 (w + 9) z) := by
  have hM := h.M6
  have hL := h.L12
  have ho : ob b w := o
  unfold ob at ho
  obtain ⟨⟨o4, σ1⟩, e1, h1, d1, f1, n1⟩ := loop_ex (fun k (s : Option Value × bm_S) => bm_run S (d + 3) 104 4 [some (.ref w), some (.ref b), some (.int (bI (anS B g k))), some (.int (nI k)), s.1] [] s.2) (fun k s => RW M L s.2 w (seF L B g (B, D) k).1 ∧ (∀ l, l < L → (seF L B g (B, D) k).2 l = dB (seF L B g (B, D) k).1 (B 22) l) ∧ Fs w b σ s.2 ∧ ∀ z, s.2.1 (w + 9) z = rc1 B g z k (σ.1 (w + 9) z)) M (none, σ) ⟨h, hD, Fs.rfl w b σ, fun z => by unfold rc1; rw [if_neg (fun y => absurd y.1 (by omega))]⟩ (by
    intro k s hk hp
    obtain ⟨h1, d1, f1, n1⟩ := hp
    have en : s.2.1 (w + 8) k = g k := by rw [f1.1 (w + 8) (by omega) (by omega) (by omega)]; exact hg k hk
    have eqC := eqS_seF hL B g (B, D) k
    have b24 : tb ((seF L B g (B, D) k).1 24) k = tb (B 24) k := seF_24 B g (B, D) (Nat.le_refl k) (by omega)
    rw [seF]
    generalize seF L B g (B, D) k = C at h1 d1 eqC b24 ⊢
    replace eqC : eqS B C.1 := eqC
    have e26 : C.1 (26 + k) = B (26 + k) := eqC _ (by omega) (by omega)
    have hb1 : BK s.2 b C.1 := (f1.BK o hb).cg eqC
    have hl1 : LW C.1 := hl.cg eqC
    have e22 : C.1 22 = B 22 := eqC _ (by omega) (by omega)
    unfold seS
    cases hq : tb (B 24) k
    · have es : shF B g k = -(B (26 + k) + g k) := by unfold shF; rw [hq]; rfl
      by_cases q : 0 < shF B g k
      · have q1 : ¬ -(B (26 + k) + g k) ≤ 0 := by rw [← es]; exact Int32.not_le.mpr q
        have ea : anS B g (k + 1) = true := by simp [anS, q]
        rw [if_pos q, ea]
        have h2 := h1.out (a := w + 9) (by omega) k (shF B g k)
        have b2 := hb1.of (τ := bm_wi s.2 (w + 9) k (shF B g k)) (wi_n _ (by omega) k _) (wi_n _ (by omega) k _)
        have n2 : ∀ z, upd (s.2.1 (w + 9)) k (shF B g k) z = rc1 B g z (k + 1) (σ.1 (w + 9) z) := fun z => rc1_s q (n1 z)
        obtain ⟨g1, v, ec, ev⟩ := c7t (S := S) (d := d) b2 hl1 (nI k) (C.1 (26 + k)) (shF B g k)
        have h3 : RW M L (bm_row (bm_wi s.2 (w + 9) k (shF B g k)) (b + 2) g1) w C.1 := h2.of (fun a ha hb => bm_row_1n _ _ (by omega))
        have f3 : Fs w b σ (bm_row (bm_wi s.2 (w + 9) k (shF B g k)) (b + 2) g1) := ⟨fun a ha hb hc => by rw [bm_row_1n _ _ hc, wi_n _ hb]; exact f1.1 a ha hb hc, f1.2⟩
        rw [e26] at ec ev
        cases ht : tmB C.1 (nI k) (B (26 + k)) (shF B g k)
        · have hv : v = 0 := by
            by_cases z : v = 0
            · exact z
            · have := ev.mp z; rw [ht] at this; cases this
          obtain ⟨σ2, e2, r2, f2⟩ := c106 (S := S) (d := d) h3 (m := k) (by omega)
          refine ⟨(some (.int (shF B g k)), σ2), ?_, ?_, ?_, f3.tr f2.s, fun z => by rw [f2.1 (w + 9) (by omega), bm_row_1n _ _ (by omega), wi_s]; exact n2 z⟩
          · clear n2
            rw [es] at *
            rw [g104_4]
            have e9 : bI true = (1 : Int32) := rfl
            simp (disch := omega) only [bm_run_ite, Option.toList_some, Option.bind_some, Option.toList_some, Option.toList_none, List.cons_append, List.nil_append, List.append_nil, eq_self, not_true_eq_false, not_false_eq_true, ite_true, ite_false, ↓reduceIte, Nat.reduceLT, Nat.reduceEqDiff, Nat.reduceAdd, or_true, true_or, or_false, false_or, nI_clamp2, nI_lt0F, nI_leT, nI_leF, nI_ltT, nI_ltF, n_leF, n_leT, nI_1, kA6, kA8, kA10, kA22, kA26, kA32, kA44, kA56, kA68, kA80, kA93, kA163, kA794, not_or, or_self, and_self, and_true, true_and, g104_0, g104_12, g104_20, g104_29, g104_37, g104_42, g104_45, g104_48, g104_60, g104_75, g104_80, g104_83, g104_88, g104_91, g104_96, g104_102, h1.t, h1.f0, h1.a1, h1.a8, en, e26, neg_sub2, q1, c80 h1 (show k < 32 by omega), b24, hq, bI_ite, Bool.false_eq_true, h1.s9, h2.t, h2.a1, h2.f3, ec, hv, h3.t, e2, e9, b2.1.1]
          · simpa [ht] using r2
          · intro l hll
            simp only [Bool.false_eq_true, if_false]
            rw [dB_br hL hll]
            unfold brD
            rw [d1 l hll]
        · have hv : ¬ v = 0 := ev.mpr ht
          obtain ⟨σ2, e2, r2, f2⟩ := c105 (S := S) (d := d) h3 (m := k)
          refine ⟨(some (.int (shF B g k)), σ2), ?_, ?_, ?_, f3.tr f2.s, fun z => by rw [f2.1 (w + 9) (by omega), bm_row_1n _ _ (by omega), wi_s]; exact n2 z⟩
          · clear n2
            rw [es] at *
            rw [g104_4]
            have e9 : bI true = (1 : Int32) := rfl
            simp (disch := omega) only [bm_run_ite, Option.toList_some, Option.bind_some, Option.toList_some, Option.toList_none, List.cons_append, List.nil_append, List.append_nil, eq_self, not_true_eq_false, not_false_eq_true, ite_true, ite_false, ↓reduceIte, Nat.reduceLT, Nat.reduceEqDiff, Nat.reduceAdd, or_true, true_or, or_false, false_or, nI_clamp2, nI_lt0F, nI_leT, nI_leF, nI_ltT, nI_ltF, n_leF, n_leT, nI_1, kA6, kA8, kA10, kA22, kA26, kA32, kA44, kA56, kA68, kA80, kA93, kA163, kA794, not_or, or_self, and_self, and_true, true_and, g104_0, g104_12, g104_20, g104_29, g104_37, g104_42, g104_45, g104_48, g104_60, g104_75, g104_80, g104_83, g104_88, g104_91, g104_96, g104_102, h1.t, h1.f0, h1.a1, h1.a8, en, e26, neg_sub2, q1, c80 h1 (show k < 32 by omega), b24, hq, bI_ite, Bool.false_eq_true, h1.s9, h2.t, h2.a1, h2.f3, ec, hv, h3.t, e2, e9, b2.1.1]
          · simp only [if_true]
            have ez : ptB C.1 (dB C.1 (C.1 22)) k L = ptB C.1 C.2 k L := by
              have : ∀ n, n ≤ L → ptB C.1 (dB C.1 (C.1 22)) k n = ptB C.1 C.2 k n := by
                intro n
                induction n with
                | zero => intro _; rfl
                | succ n ih =>
                  intro hn
                  show ptS _ _ (ptB C.1 (dB C.1 (C.1 22)) k n) n = ptS _ _ (ptB C.1 C.2 k n) n
                  rw [ih (by omega)]
                  unfold ptS
                  rw [d1 n (by omega), e22]
              exact this L (Nat.le_refl L)
            rw [← ez]; exact r2
          · intro l hll
            simp only [if_true]
            rw [dB_pt hL d1 hll]
      · have q1 : -(B (26 + k) + g k) ≤ 0 := by rw [← es]; exact Int32.not_lt.mp q
        have ea : anS B g (k + 1) = anS B g k := by simp [anS, q]
        rw [if_neg q, ea]
        refine ⟨(some (.int (-(B (26 + k) + g k))), s.2), ?_, h1, d1, f1, fun z => by rw [rc1_n (Or.inr q)]; exact n1 z⟩
        rw [g104_4]
        simp (disch := omega) only [bm_run_ite, Option.toList_some, Option.bind_some, Option.toList_some, Option.toList_none, List.cons_append, List.nil_append, List.append_nil, eq_self, not_true_eq_false, not_false_eq_true, ite_true, ite_false, ↓reduceIte, Nat.reduceLT, Nat.reduceEqDiff, Nat.reduceAdd, or_true, true_or, or_false, false_or, nI_clamp2, nI_lt0F, nI_leT, nI_leF, nI_ltT, nI_ltF, n_leF, n_leT, nI_1, kA6, kA8, kA10, kA22, kA26, kA32, kA44, kA56, kA68, kA80, kA93, kA163, kA794, not_or, or_self, and_self, and_true, true_and, g104_0, g104_12, g104_20, g104_29, g104_37, g104_42, g104_45, g104_48, g104_60, g104_75, g104_80, g104_83, g104_88, g104_91, g104_96, g104_102, h1.t, h1.f0, h1.a1, h1.a8, en, e26, neg_sub2, q1]
    · have es : shF B g k = 0 := by unfold shF; rw [hq]; rfl
      have q : ¬ 0 < shF B g k := by rw [es]; decide
      have ea : anS B g (k + 1) = anS B g k := by simp [anS, q]
      rw [if_neg q, ea]
      refine ⟨(some (.int (-(B (26 + k) + g k))), s.2), ?_, h1, d1, f1, fun z => by rw [rc1_n (Or.inr q)]; exact n1 z⟩
      rw [g104_4]
      by_cases q1 : -(B (26 + k) + g k) ≤ 0
      · simp (disch := omega) only [bm_run_ite, Option.toList_some, Option.bind_some, Option.toList_some, Option.toList_none, List.cons_append, List.nil_append, List.append_nil, eq_self, not_true_eq_false, not_false_eq_true, ite_true, ite_false, ↓reduceIte, Nat.reduceLT, Nat.reduceEqDiff, Nat.reduceAdd, or_true, true_or, or_false, false_or, nI_clamp2, nI_lt0F, nI_leT, nI_leF, nI_ltT, nI_ltF, n_leF, n_leT, nI_1, kA6, kA8, kA10, kA22, kA26, kA32, kA44, kA56, kA68, kA80, kA93, kA163, kA794, not_or, or_self, and_self, and_true, true_and, g104_0, g104_12, g104_20, g104_29, g104_37, g104_42, g104_45, g104_48, g104_60, g104_75, g104_80, g104_83, g104_88, g104_91, g104_96, g104_102, h1.t, h1.f0, h1.a1, h1.a8, en, e26, neg_sub2, q1]
      · simp (disch := omega) only [bm_run_ite, Option.toList_some, Option.bind_some, Option.toList_some, Option.toList_none, List.cons_append, List.nil_append, List.append_nil, eq_self, not_true_eq_false, not_false_eq_true, ite_true, ite_false, ↓reduceIte, Nat.reduceLT, Nat.reduceEqDiff, Nat.reduceAdd, or_true, true_or, or_false, false_or, nI_clamp2, nI_lt0F, nI_leT, nI_leF, nI_ltT, nI_ltF, n_leF, n_leT, nI_1, kA6, kA8, kA10, kA22, kA26, kA32, kA44, kA56, kA68, kA80, kA93, kA163, kA794, not_or, or_self, and_self, and_true, true_and, g104_0, g104_12, g104_20, g104_29, g104_37, g104_42, g104_45, g104_48, g104_60, g104_75, g104_80, g104_83, g104_88, g104_91, g104_96, g104_102, h1.t, h1.f0, h1.a1, h1.a8, en, e26, neg_sub2, q1, c80 h1 (show k < 32 by omega), b24, hq, bI_ite])
  replace h1 : RW M L σ1 w (seF L B g (B, D) M).1 := h1
  refine ⟨σ1, ?_, h1, d1, f1, n1⟩
  rw [e104, g104_0]
  refine (show bm_run S (d + 3) 104 4 [some (.ref w), some (.ref b), some (.int (bI (anS B g 0))), some (.int (nI 0)), none] [] σ = _ from e1).trans ?_
  rw [g104_4]
  simp (disch := omega) only [bm_run_ite, Option.toList_some, Option.bind_some, Option.toList_some, Option.toList_none, List.cons_append, List.nil_append, List.append_nil, eq_self, not_true_eq_false, not_false_eq_true, ite_true, ite_false, ↓reduceIte, Nat.reduceLT, Nat.reduceEqDiff, Nat.reduceAdd, or_true, true_or, or_false, false_or, nI_clamp2, nI_lt0F, nI_leT, nI_leF, nI_ltT, nI_ltF, n_leF, n_leT, nI_1, kA6, kA8, kA10, kA22, kA26, kA32, kA44, kA56, kA68, kA80, kA93, kA163, kA794, not_or, or_self, and_self, and_true, true_and, g104_0, g104_12, g104_20, g104_29, g104_37, g104_42, g104_45, g104_48, g104_60, g104_75, g104_80, g104_83, g104_88, g104_91, g104_96, g104_102, h1.t, h1.f0, bI_ok]
theorem c107 (h : RW M L σ w B) {g : Nat → Int32} (hg : ∀ i, i < M → σ.1 (w + 8) i = g i) {D : Nat → Bool} (hD : ∀ l, l < L → D l = dB B (B 22) l) : ∃ σ1, bm_call S (d + 2) 107 [.ref w] σ = some (none, σ1) ∧ RW M L σ1 w (itR (paF D) (itR (caF g) B M) L) ∧ Fx w σ σ1 := by
  have hM := h.M6
  have hL := h.L12
  have co : ∀ k, k ≤ M → ∀ i, (i < 26 ∨ 26 + k ≤ i) → itR (caF g) B k i = B i := by
    intro k hk i hi
    refine itR_out (fun C l hl => ?_)
    unfold caF
    exact upd_n _ _ (by omega)
  obtain ⟨σ1, e1, h1, f1⟩ := loop_ex (fun k s => bm_run S (d + 2) 107 2 [some (.ref w), some (.int (nI k))] [] s) (fun k s => RW M L s w (itR (caF g) B k) ∧ Fx w σ s) M σ ⟨h, Fx.rfl w σ⟩ (by
    intro k s hk hp
    obtain ⟨h1, f1⟩ := hp
    have en : s.1 (w + 8) k = g k := by rw [f1.1 (w + 8) (by omega)]; exact hg k hk
    refine ⟨bm_wi s (w + 1) k (mn (itR (caF g) B k (26 + k) + g k)), ?_, h1.w1 hk _, f1.wi (by omega) (by omega) _ _⟩
    rw [g107_2]
    simp (disch := omega) only [bm_run_ite, Option.toList_some, Option.bind_some, Option.toList_some, Option.toList_none, List.cons_append, List.nil_append, List.append_nil, eq_self, not_true_eq_false, not_false_eq_true, ite_true, ite_false, ↓reduceIte, Nat.reduceLT, Nat.reduceEqDiff, Nat.reduceAdd, or_true, true_or, or_false, false_or, nI_clamp2, nI_lt0F, nI_leT, nI_leF, nI_ltT, nI_ltF, n_leF, n_leT, nI_1, kA6, kA8, kA10, kA22, kA26, kA32, kA44, kA56, kA68, kA80, kA93, kA163, kA794, not_or, or_self, and_self, and_true, true_and, g107_0, g107_10, g107_20, g107_23, g107_29, g107_31, g107_39, g107_48, g107_51, g107_60, g107_66, h1.t, h1.f0, h1.a8, en, c93 h1])
  generalize hC : itR (caF g) B M = C at h1
  have co2 : ∀ i, (i < 26 ∨ 26 + M ≤ i) → C i = B i := by rw [← hC]; exact co M (Nat.le_refl M)
  obtain ⟨σ2, e2, h2, f2⟩ := loop_ex (fun k s => bm_run S (d + 2) 107 31 [some (.ref w), some (.int (nI k))] [] s) (fun k s => RW M L s w (itR (paF D) C k) ∧ Fx w σ s) L σ1 ⟨h1, f1⟩ (by
    intro k s hk hp
    obtain ⟨h2, f2⟩ := hp
    have po : ∀ i, (i < 80 ∨ 80 + k ≤ i) → itR (paF D) C k i = C i := by
      intro i hi
      refine itR_out (fun C l hl => ?_)
      unfold paF
      split
      · exact upd_n _ _ (by omega)
      · rfl
    have e9 : ∀ {E : Nat → Int32}, itR (paF D) C k = E → itR (paF D) C (k + 1) = paF D E k := fun q => by rw [itR, q]
    have ed : dB (itR (paF D) C k) (itR (paF D) C k 22) k = D k := by
      rw [hD k hk]
      unfold dB
      rw [po _ (by omega), po _ (by omega), po _ (by omega), co2 _ (by omega), co2 _ (by omega), co2 _ (by omega)]
    generalize hE : itR (paF D) C k = E at h2 ed
    rw [e9 hE]
    unfold paF
    cases hd : D k
    · rw [hd] at ed
      refine ⟨s, ?_, ?_, f2⟩
      · rw [g107_31]
        simp (disch := omega) only [bm_run_ite, Option.toList_some, Option.bind_some, Option.toList_some, Option.toList_none, List.cons_append, List.nil_append, List.append_nil, eq_self, not_true_eq_false, not_false_eq_true, ite_true, ite_false, ↓reduceIte, Nat.reduceLT, Nat.reduceEqDiff, Nat.reduceAdd, or_true, true_or, or_false, false_or, nI_clamp2, nI_lt0F, nI_leT, nI_leF, nI_ltT, nI_ltF, n_leF, n_leT, nI_1, kA6, kA8, kA10, kA22, kA26, kA32, kA44, kA56, kA68, kA80, kA93, kA163, kA794, not_or, or_self, and_self, and_true, true_and, g107_0, g107_2, g107_10, g107_20, g107_23, g107_29, g107_39, g107_48, g107_51, g107_60, g107_66, h2.t, h2.f1, h2.f3, c82n h2, ed, bI_ite, Bool.false_eq_true]
      · simpa using h2
    · rw [hd] at ed
      refine ⟨bm_wi s (w + 6) k 1, ?_, ?_, f2.wi (by omega) (by omega) _ _⟩
      · rw [g107_31]
        simp (disch := omega) only [bm_run_ite, Option.toList_some, Option.bind_some, Option.toList_some, Option.toList_none, List.cons_append, List.nil_append, List.append_nil, eq_self, not_true_eq_false, not_false_eq_true, ite_true, ite_false, ↓reduceIte, Nat.reduceLT, Nat.reduceEqDiff, Nat.reduceAdd, or_true, true_or, or_false, false_or, nI_clamp2, nI_lt0F, nI_leT, nI_leF, nI_ltT, nI_ltF, n_leF, n_leT, nI_1, kA6, kA8, kA10, kA22, kA26, kA32, kA44, kA56, kA68, kA80, kA93, kA163, kA794, not_or, or_self, and_self, and_true, true_and, g107_0, g107_2, g107_10, g107_20, g107_23, g107_29, g107_39, g107_48, g107_51, g107_60, g107_66, h2.t, h2.f1, h2.f3, c82n h2, ed, bI_ite, h2.s6]
      · simp only [if_true]; exact h2.w6 hk 1)
  refine ⟨σ2, ?_, h2, f2⟩
  rw [e107, g107_0]
  refine (show bm_run S (d + 2) 107 2 [some (.ref w), some (.int (nI 0))] [] _ = _ from e1).trans ?_
  rw [g107_2]
  simp (disch := omega) only [bm_run_ite, Option.toList_some, Option.bind_some, Option.toList_some, Option.toList_none, List.cons_append, List.nil_append, List.append_nil, eq_self, not_true_eq_false, not_false_eq_true, ite_true, ite_false, ↓reduceIte, Nat.reduceLT, Nat.reduceEqDiff, Nat.reduceAdd, or_true, true_or, or_false, false_or, nI_clamp2, nI_lt0F, nI_leT, nI_leF, nI_ltT, nI_ltF, n_leF, n_leT, nI_1, kA6, kA8, kA10, kA22, kA26, kA32, kA44, kA56, kA68, kA80, kA93, kA163, kA794, not_or, or_self, and_self, and_true, true_and, g107_29, h1.t, h1.f0]
  refine (show bm_run S (d + 2) 107 31 [some (.ref w), some (.int (nI 0))] [] _ = _ from e2).trans ?_
  rw [g107_31]
  simp (disch := omega) only [bm_run_ite, Option.toList_some, Option.bind_some, Option.toList_some, Option.toList_none, List.cons_append, List.nil_append, List.append_nil, eq_self, not_true_eq_false, not_false_eq_true, ite_true, ite_false, ↓reduceIte, Nat.reduceLT, Nat.reduceEqDiff, Nat.reduceAdd, or_true, true_or, or_false, false_or, nI_clamp2, nI_lt0F, nI_leT, nI_leF, nI_ltT, nI_ltF, n_leF, n_leT, nI_1, kA6, kA8, kA10, kA22, kA26, kA32, kA44, kA56, kA68, kA80, kA93, kA163, kA794, not_or, or_self, and_self, and_true, true_and, g107_66, h2.t, h2.f1]
end CSET
