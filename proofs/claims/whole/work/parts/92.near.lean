/-! the class's nearest shortage -/
def nrR (B g : Nat → Int32) (z k : Nat) (x y : Int32) : Prop := y ≤ x ∧ (z < k → 0 < shF B g z → y ≤ shF B g z)
theorem nrR_0 {B g : Nat → Int32} {z k : Nat} {x y : Int32} (h : nrR B g z k x y) (q : ¬ 0 < shF B g k) : nrR B g z (k + 1) x y := by
  refine ⟨h.1, fun hk hp => ?_⟩
  by_cases e : z = k
  · subst e; exact absurd hp q
  · exact h.2 (by omega) hp
theorem mnl {a b : Int32} : (if a < b then a else b) ≤ a ∧ (if a < b then a else b) ≤ b := by
  by_cases q : a < b
  · rw [if_pos q]; exact ⟨Int32.le_refl _, Int32.le_of_lt q⟩
  · rw [if_neg q]; exact ⟨Int32.not_lt.mp q, Int32.le_refl _⟩
theorem nrR_s {B g : Nat → Int32} {z k : Nat} {x : Int32} {f : Nat → Int32} (h : nrR B g z k x (f z)) : nrR B g z (k + 1) x (upd f k (if shF B g k < f k then shF B g k else f k) z) := by
  by_cases e : z = k
  · subst e
    rw [upd_s]
    exact ⟨Int32.le_trans mnl.2 h.1, fun _ _ => mnl.1⟩
  · rw [upd_n _ _ e]
    exact ⟨h.1, fun hk hp => h.2 (by omega) hp⟩
section NEAR
variable {S : am_S} {d : Nat} {σ : bm_S} {M L w b : Nat} {B : Nat → Int32}
theorem c104n {z : Nat} (h : RW M L σ w B) (o : ob b w) (hb : BK σ b B) (hl : LW B) {g : Nat → Int32} (hg : ∀ i, i < M → σ.1 (w + 8) i = g i) {D : Nat → Bool} (hD : ∀ l, l < L → D l = dB B (B 22) l) : ∃ σ1, bm_call S (d + 3) 104 [.ref w, .ref b] σ = some (some (.int (bI (anS B g M))), σ1) ∧ RW M L σ1 w (seF L B g (B, D) M).1 ∧ (∀ l, l < L → (seF L B g (B, D) M).2 l = dB (seF L B g (B, D) M).1 (B 22) l) ∧ Fs w b σ σ1 ∧ nrR B g z M (σ.1 (w + 9) z) (σ1.1 (w + 9) z) := by
  have hM := h.M6
  have hL := h.L12
  have ho : ob b w := o
  unfold ob at ho
  obtain ⟨⟨o4, σ1⟩, e1, h1, d1, f1, n1⟩ := loop_ex (fun k (s : Option Value × bm_S) => bm_run S (d + 3) 104 4 [some (.ref w), some (.ref b), some (.int (bI (anS B g k))), some (.int (nI k)), s.1] [] s.2) (fun k s => RW M L s.2 w (seF L B g (B, D) k).1 ∧ (∀ l, l < L → (seF L B g (B, D) k).2 l = dB (seF L B g (B, D) k).1 (B 22) l) ∧ Fs w b σ s.2 ∧ nrR B g z k (σ.1 (w + 9) z) (s.2.1 (w + 9) z)) M (none, σ) ⟨h, hD, Fs.rfl w b σ, Int32.le_refl _, fun q => absurd q (by omega)⟩ (by
    intro k s hk hp
    obtain ⟨h1, d1, f1, n1⟩ := hp
    have en : s.2.1 (w + 8) k = g k := by rw [f1.1 (w + 8) (by omega) (by omega) (by omega)]; exact hg k hk
    have eqC := eqS_seF hL B g (B, D) k
    have b24 : tb ((seF L B g (B, D) k).1 24) k = tb (B 24) k := seF_24 B g (B, D) (Nat.le_refl k) (by omega)
    rw [seF]
    generalize seF L B g (B, D) k = C at h1 d1 eqC b24 ⊢
    replace eqC : eqS B C.1 := eqC
    have e26 : C.1 (26 + k) = B (26 + k) := eqC _ (by omega) (by omega)
    have hb1 : BK s.2 b C.1 := (f1.BK o hb).cg eqC
    have hl1 : LW C.1 := hl.cg eqC
    have e22 : C.1 22 = B 22 := eqC _ (by omega) (by omega)
    unfold seS
    cases hq : tb (B 24) k
    · have es : shF B g k = -(B (26 + k) + g k) := by unfold shF; rw [hq]; rfl
      by_cases q : 0 < shF B g k
      · have q1 : ¬ -(B (26 + k) + g k) ≤ 0 := by rw [← es]; exact Int32.not_le.mpr q
        have ea : anS B g (k + 1) = true := by simp [anS, q]
        rw [if_pos q, ea]
        have hx := fun x => (h1.out (a := w + 9) (by omega) k x)
        have hbx := fun x => (hb1.of (τ := bm_wi s.2 (w + 9) k x) (wi_n _ (by omega) k x) (wi_n _ (by omega) k x))
        have nX : nrR B g z (k + 1) (σ.1 (w + 9) z) (upd (s.2.1 (w + 9)) k (if shF B g k < s.2.1 (w + 9) k then shF B g k else s.2.1 (w + 9) k) z) := nrR_s n1
        generalize hX : (if shF B g k < s.2.1 (w + 9) k then shF B g k else s.2.1 (w + 9) k) = X at nX ⊢
        have h2 := hx X
        have b2 := hbx X
        obtain ⟨g1, v, ec, ev⟩ := c7t (S := S) (d := d) b2 hl1 (nI k) (C.1 (26 + k)) (shF B g k)
        have h3 : RW M L (bm_row (bm_wi s.2 (w + 9) k X) (b + 2) g1) w C.1 := h2.of (fun a ha hb => bm_row_1n _ _ (by omega))
        have f3 : Fs w b σ (bm_row (bm_wi s.2 (w + 9) k X) (b + 2) g1) := ⟨fun a ha hb hc => by rw [bm_row_1n _ _ hc, wi_n _ hb]; exact f1.1 a ha hb hc, f1.2⟩
        rw [e26] at ec ev
        cases ht : tmB C.1 (nI k) (B (26 + k)) (shF B g k)
        · have hv : v = 0 := by
            by_cases z : v = 0
            · exact z
            · have := ev.mp z; rw [ht] at this; cases this
          obtain ⟨σ2, e2, r2, f2⟩ := c106 (S := S) (d := d) h3 (m := k) (by omega)
          refine ⟨(some (.int (shF B g k)), σ2), ?_, ?_, ?_, f3.tr f2.s, by rw [f2.1 (w + 9) (by omega), bm_row_1n _ _ (by omega), wi_s]; exact nX⟩
          · rw [es] at *
            rw [g104_4]
            have e9 : bI true = (1 : Int32) := rfl
            simp (disch := omega) only [bm_run_ite, Option.toList_some, Option.bind_some, Option.toList_some, Option.toList_none, List.cons_append, List.nil_append, List.append_nil, eq_self, not_true_eq_false, not_false_eq_true, ite_true, ite_false, ↓reduceIte, Nat.reduceLT, Nat.reduceEqDiff, Nat.reduceAdd, or_true, true_or, or_false, false_or, nI_clamp2, nI_lt0F, nI_leT, nI_leF, nI_ltT, nI_ltF, n_leF, n_leT, nI_1, kA6, kA8, kA10, kA22, kA26, kA32, kA44, kA56, kA68, kA80, kA93, kA163, kA794, not_or, or_self, and_self, and_true, true_and, g104_0, g104_12, g104_20, g104_29, g104_37, g104_42, g104_45, g104_48, g104_63, g104_68, g104_71, g104_86, g104_91, g104_94, g104_99, g104_102, g104_107, g104_113, h1.t, h1.f0, h1.a1, h1.a8, en, e26, neg_sub2, q1, c80 h1 (show k < 32 by omega), b24, hq, bI_ite, Bool.false_eq_true, h1.a9, c291, hX, h1.s9, h2.t, h2.a1, h2.f3, ec, hv, h3.t, e2, e9, b2.1.1]
          · simpa [ht] using r2
          · intro l hll
            simp only [Bool.false_eq_true, if_false]
            rw [dB_br hL hll]
            unfold brD
            rw [d1 l hll]
        · have hv : ¬ v = 0 := ev.mpr ht
          obtain ⟨σ2, e2, r2, f2⟩ := c105 (S := S) (d := d) h3 (m := k)
          refine ⟨(some (.int (shF B g k)), σ2), ?_, ?_, ?_, f3.tr f2.s, by rw [f2.1 (w + 9) (by omega), bm_row_1n _ _ (by omega), wi_s]; exact nX⟩
          · rw [es] at *
            rw [g104_4]
            have e9 : bI true = (1 : Int32) := rfl
            simp (disch := omega) only [bm_run_ite, Option.toList_some, Option.bind_some, Option.toList_some, Option.toList_none, List.cons_append, List.nil_append, List.append_nil, eq_self, not_true_eq_false, not_false_eq_true, ite_true, ite_false, ↓reduceIte, Nat.reduceLT, Nat.reduceEqDiff, Nat.reduceAdd, or_true, true_or, or_false, false_or, nI_clamp2, nI_lt0F, nI_leT, nI_leF, nI_ltT, nI_ltF, n_leF, n_leT, nI_1, kA6, kA8, kA10, kA22, kA26, kA32, kA44, kA56, kA68, kA80, kA93, kA163, kA794, not_or, or_self, and_self, and_true, true_and, g104_0, g104_12, g104_20, g104_29, g104_37, g104_42, g104_45, g104_48, g104_63, g104_68, g104_71, g104_86, g104_91, g104_94, g104_99, g104_102, g104_107, g104_113, h1.t, h1.f0, h1.a1, h1.a8, en, e26, neg_sub2, q1, c80 h1 (show k < 32 by omega), b24, hq, bI_ite, Bool.false_eq_true, h1.a9, c291, hX, h1.s9, h2.t, h2.a1, h2.f3, ec, hv, h3.t, e2, e9, b2.1.1]
          · simp only [if_true]
            have ez : ptB C.1 (dB C.1 (C.1 22)) k L = ptB C.1 C.2 k L := by
              have : ∀ n, n ≤ L → ptB C.1 (dB C.1 (C.1 22)) k n = ptB C.1 C.2 k n := by
                intro n
                induction n with
                | zero => intro _; rfl
                | succ n ih =>
                  intro hn
                  show ptS _ _ (ptB C.1 (dB C.1 (C.1 22)) k n) n = ptS _ _ (ptB C.1 C.2 k n) n
                  rw [ih (by omega)]
                  unfold ptS
                  rw [d1 n (by omega), e22]
              exact this L (Nat.le_refl L)
            rw [← ez]; exact r2
          · intro l hll
            simp only [if_true]
            rw [dB_pt hL d1 hll]
      · have q1 : -(B (26 + k) + g k) ≤ 0 := by rw [← es]; exact Int32.not_lt.mp q
        have ea : anS B g (k + 1) = anS B g k := by simp [anS, q]
        rw [if_neg q, ea]
        refine ⟨(some (.int (-(B (26 + k) + g k))), s.2), ?_, h1, d1, f1, nrR_0 n1 q⟩
        rw [g104_4]
        simp (disch := omega) only [bm_run_ite, Option.toList_some, Option.bind_some, Option.toList_some, Option.toList_none, List.cons_append, List.nil_append, List.append_nil, eq_self, not_true_eq_false, not_false_eq_true, ite_true, ite_false, ↓reduceIte, Nat.reduceLT, Nat.reduceEqDiff, Nat.reduceAdd, or_true, true_or, or_false, false_or, nI_clamp2, nI_lt0F, nI_leT, nI_leF, nI_ltT, nI_ltF, n_leF, n_leT, nI_1, kA6, kA8, kA10, kA22, kA26, kA32, kA44, kA56, kA68, kA80, kA93, kA163, kA794, not_or, or_self, and_self, and_true, true_and, g104_0, g104_12, g104_20, g104_29, g104_37, g104_42, g104_45, g104_48, g104_63, g104_68, g104_71, g104_86, g104_91, g104_94, g104_99, g104_102, g104_107, g104_113, h1.t, h1.f0, h1.a1, h1.a8, en, e26, neg_sub2, q1]
    · have es : shF B g k = 0 := by unfold shF; rw [hq]; rfl
      have q : ¬ 0 < shF B g k := by rw [es]; decide
      have ea : anS B g (k + 1) = anS B g k := by simp [anS, q]
      rw [if_neg q, ea]
      refine ⟨(some (.int (-(B (26 + k) + g k))), s.2), ?_, h1, d1, f1, nrR_0 n1 q⟩
      rw [g104_4]
      by_cases q1 : -(B (26 + k) + g k) ≤ 0
      · simp (disch := omega) only [bm_run_ite, Option.toList_some, Option.bind_some, Option.toList_some, Option.toList_none, List.cons_append, List.nil_append, List.append_nil, eq_self, not_true_eq_false, not_false_eq_true, ite_true, ite_false, ↓reduceIte, Nat.reduceLT, Nat.reduceEqDiff, Nat.reduceAdd, or_true, true_or, or_false, false_or, nI_clamp2, nI_lt0F, nI_leT, nI_leF, nI_ltT, nI_ltF, n_leF, n_leT, nI_1, kA6, kA8, kA10, kA22, kA26, kA32, kA44, kA56, kA68, kA80, kA93, kA163, kA794, not_or, or_self, and_self, and_true, true_and, g104_0, g104_12, g104_20, g104_29, g104_37, g104_42, g104_45, g104_48, g104_63, g104_68, g104_71, g104_86, g104_91, g104_94, g104_99, g104_102, g104_107, g104_113, h1.t, h1.f0, h1.a1, h1.a8, en, e26, neg_sub2, q1]
      · simp (disch := omega) only [bm_run_ite, Option.toList_some, Option.bind_some, Option.toList_some, Option.toList_none, List.cons_append, List.nil_append, List.append_nil, eq_self, not_true_eq_false, not_false_eq_true, ite_true, ite_false, ↓reduceIte, Nat.reduceLT, Nat.reduceEqDiff, Nat.reduceAdd, or_true, true_or, or_false, false_or, nI_clamp2, nI_lt0F, nI_leT, nI_leF, nI_ltT, nI_ltF, n_leF, n_leT, nI_1, kA6, kA8, kA10, kA22, kA26, kA32, kA44, kA56, kA68, kA80, kA93, kA163, kA794, not_or, or_self, and_self, and_true, true_and, g104_0, g104_12, g104_20, g104_29, g104_37, g104_42, g104_45, g104_48, g104_63, g104_68, g104_71, g104_86, g104_91, g104_94, g104_99, g104_102, g104_107, g104_113, h1.t, h1.f0, h1.a1, h1.a8, en, e26, neg_sub2, q1, c80 h1 (show k < 32 by omega), b24, hq, bI_ite])
  replace h1 : RW M L σ1 w (seF L B g (B, D) M).1 := h1
  refine ⟨σ1, ?_, h1, d1, f1, n1⟩
  rw [e104, g104_0]
  refine (show bm_run S (d + 3) 104 4 [some (.ref w), some (.ref b), some (.int (bI (anS B g 0))), some (.int (nI 0)), none] [] σ = _ from e1).trans ?_
  rw [g104_4]
  simp (disch := omega) only [bm_run_ite, Option.toList_some, Option.bind_some, Option.toList_some, Option.toList_none, List.cons_append, List.nil_append, List.append_nil, eq_self, not_true_eq_false, not_false_eq_true, ite_true, ite_false, ↓reduceIte, Nat.reduceLT, Nat.reduceEqDiff, Nat.reduceAdd, or_true, true_or, or_false, false_or, nI_clamp2, nI_lt0F, nI_leT, nI_leF, nI_ltT, nI_ltF, n_leF, n_leT, nI_1, kA6, kA8, kA10, kA22, kA26, kA32, kA44, kA56, kA68, kA80, kA93, kA163, kA794, not_or, or_self, and_self, and_true, true_and, g104_0, g104_12, g104_20, g104_29, g104_37, g104_42, g104_45, g104_48, g104_63, g104_68, g104_71, g104_86, g104_91, g104_94, g104_99, g104_102, g104_107, g104_113, h1.t, h1.f0, bI_ok]
theorem c101tn {z : Nat} (hz : z < M) (hM : M ≤ 6) (hL : L ≤ 12) (o : ob b w) (f : Int32) : ∀ (n k : Nat) (σ : bm_S) (s : fS) (o2 : Option Value), n + k = 13 → RW M L σ w s.1 → s.1 22 = f → BK σ b s.1 → LW s.1 → GO M L s.1 → GM L s.1 → GC M s.1 → (∀ l, l < L → s.2 l = dB s.1 f l) → cnD s.2 L < n → ∃ σ1 o2x o3 o4, bm_run S (d + 4) 101 13 [some (.ref w), some (.ref b), o2, some (.int 1), some (.int (nI k))] [] σ = bm_run S (d + 4) 101 45 [some (.ref w), some (.ref b), o2x, o3, o4] [] σ1 ∧ RW M L σ1 w (tuF M L n s).1 ∧ (∀ i, i < M → σ1.1 (w + 8) i = netF (tuF M L n s).2 (tuF M L n s).1 L i) ∧ (∀ l, l < L → (tuF M L n s).2 l = dB (tuF M L n s).1 f l) ∧ Fb w b σ σ1 ∧ σ1.1 (w + 9) z ≤ σ.1 (w + 9) z ∧ shO M L z (σ1.1 (w + 9) z) n s := by
  intro n
  induction n with
  | zero => intro k σ s o2 _ _ _ _ _ _ _ _ _ h; omega
  | succ n ih =>
    intro k σ s o2 hn h h22 hb hl g gm gc hD hc
    have ho : ob b w := o
    unfold ob at ho
    obtain ⟨g1, ec, eg⟩ := c87 (S := S) (d := d + 1) h g f (Int32.ofInt (-1))
    have en : netF (fun l => !decide (nI l = Int32.ofInt (-1)) && dB s.1 f l) s.1 L = netF s.2 s.1 L := by
      refine netF_cg (fun l hll => ?_) (fun l _ => ⟨rfl, rfl, rfl⟩)
      have : ¬ nI l = Int32.ofInt (-1) := by
        intro z; have := nI_pos (show l < 2 ^ 31 by omega); rw [z] at this; exact this (by decide)
      rw [hD l hll]; simp only [this, decide_false, Bool.not_false, Bool.true_and]
    rw [en] at eg
    have h1 := h.row8 g1
    have hb1 : BK (bm_row σ (w + 8) g1) b s.1 := hb.of (bm_row_1n _ _ (by omega)) (bm_row_1n _ _ (by omega))
    have eg1 : ∀ i, i < M → (bm_row σ (w + 8) g1).1 (w + 8) i = netF s.2 s.1 L i := by intro i hi; rw [row_row1]; exact eg i hi
    obtain ⟨σ2, e2, h2, d2, f2, n2a, n2b⟩ := c104n (S := S) (d := d) (z := z) h1 o hb1 hl eg1 (D := s.2) (by rw [h22]; exact hD)
    rw [h22] at d2
    rw [bm_row_1n _ _ (show w + 9 ≠ w + 8 by omega)] at n2a
    replace n2b := n2b hz
    have fr : Fb w b σ (bm_row σ (w + 8) g1) := ⟨fun a ha _ => bm_row_1n _ _ (by omega), rfl⟩
    have e12 : ¬ (12 : Int32) < nI k := nI_nlt (b := 12) (a := k) |> fun _ => by
      have := nI_nlt (a := 12) (b := k) (by omega) (by decide)
      exact this
    have ss : (s.1, s.2) = s := rfl
    cases q : anF M L s with
    | false =>
      have qn := anS_no q
      have e5 : tuF M L (n + 1) s = s := by rw [tuF, q]; rfl
      rw [e5]
      rw [ss, seF_same _ _ s M qn] at h2 d2
      have q0 := q
      unfold anF at q0
      rw [q0] at e2
      refine ⟨σ2, am_clr o2, some (.int 0), some (.int (nI (k + 1))), ?_, h2, ?_, d2, fr.tr f2.b, n2a, n2b, fun y => by rw [q] at y; cases y⟩
      · rw [g101_13]
        have e10 : ¬ (1 : Int32) = 0 := by decide
        have e9 : bI false = (0 : Int32) := rfl
        simp (disch := omega) only [bm_run_ite, Option.toList_some, Option.bind_some, Option.toList_some, Option.toList_none, List.cons_append, List.nil_append, List.append_nil, eq_self, not_true_eq_false, not_false_eq_true, ite_true, ite_false, ↓reduceIte, Nat.reduceLT, Nat.reduceEqDiff, Nat.reduceAdd, or_true, true_or, or_false, false_or, nI_clamp2, nI_lt0F, nI_leT, nI_leF, nI_ltT, nI_ltF, n_leF, n_leT, nI_1, kA6, kA8, kA10, kA22, kA26, kA32, kA44, kA56, kA68, kA80, kA93, kA163, kA794, not_or, or_self, and_self, and_true, true_and, g101_0, g101_4, g101_8, g101_20, g101_24, g101_33, g101_38, g101_49, e12, e10, h.t, h.f3, h22, ec, h1.t, e2, e9]
        rw [g101_13]
        simp (disch := omega) only [bm_run_ite, Option.toList_some, Option.bind_some, Option.toList_some, Option.toList_none, List.cons_append, List.nil_append, List.append_nil, eq_self, not_true_eq_false, not_false_eq_true, ite_true, ite_false, ↓reduceIte, Nat.reduceLT, Nat.reduceEqDiff, Nat.reduceAdd, or_true, true_or, or_false, false_or, nI_clamp2, nI_lt0F, nI_leT, nI_leF, nI_ltT, nI_ltF, n_leF, n_leT, nI_1, kA6, kA8, kA10, kA22, kA26, kA32, kA44, kA56, kA68, kA80, kA93, kA163, kA794, not_or, or_self, and_self, and_true, true_and, g101_0, g101_4, g101_8, g101_20, g101_24, g101_33, g101_38, g101_49, ite_self]
      · intro i hi
        rw [f2.1 (w + 8) (by omega) (by omega) (by omega)]
        exact eg1 i hi
    | true =>
      have hs := eqS_seF hL s.1 (netF s.2 s.1 L) s M
      have qq := q
      unfold anF at qq
      rw [qq] at e2
      have e5 : tuF M L (n + 1) s = tuF M L n (tuS M L s) := by rw [tuF, q]; rfl
      rw [e5]
      have hlt := tuS_lt hM hL (fun l hll hq => by rw [hD l hll] at hq; simp only [dB, Bool.and_eq_true] at hq; exact hq.1) g gm gc q
      obtain ⟨σ3, o2x, o3, o4, e3, h3, n3, d3, f3, y1, y2⟩ := ih (k + 1) σ2 (tuS M L s) (am_clr o2) (by omega) h2 ((hs 22 (by omega) (by omega)).trans h22) ((f2.BK o hb1).cg hs) (hl.cg hs) (g.cg hL hs) (gm.cg hL hs) (gc.cg hM hs) d2 (by omega)
      refine ⟨σ3, o2x, o3, o4, ?_, h3, n3, d3, (fr.tr f2.b).tr f3, Int32.le_trans y1 n2a, fun y => Int32.le_trans y1 (n2b y), fun _ => y2⟩
      rw [← e3, g101_13]
      have e10 : ¬ (1 : Int32) = 0 := by decide
      have e9 : bI true = (1 : Int32) := rfl
      simp (disch := omega) only [bm_run_ite, Option.toList_some, Option.bind_some, Option.toList_some, Option.toList_none, List.cons_append, List.nil_append, List.append_nil, eq_self, not_true_eq_false, not_false_eq_true, ite_true, ite_false, ↓reduceIte, Nat.reduceLT, Nat.reduceEqDiff, Nat.reduceAdd, or_true, true_or, or_false, false_or, nI_clamp2, nI_lt0F, nI_leT, nI_leF, nI_ltT, nI_ltF, n_leF, n_leT, nI_1, kA6, kA8, kA10, kA22, kA26, kA32, kA44, kA56, kA68, kA80, kA93, kA163, kA794, not_or, or_self, and_self, and_true, true_and, g101_0, g101_4, g101_8, g101_20, g101_24, g101_33, g101_38, g101_49, e12, e10, h.t, h.f3, h22, ec, h1.t, e2, e9]
theorem c101n {z : Nat} (hz : z < M) (h : RW M L σ w B) (o : ob b w) (hb : BK σ b B) (hg : GW M L B) (o2 : Option Value) : ∃ σ1, bm_run S (d + 4) 101 8 [some (.ref w), some (.ref b), o2, none, none] [] σ = some (none, σ1) ∧ RW M L σ1 w (faB M L B (dB B (B 22))) ∧ Fb w b σ σ1 ∧ σ1.1 (w + 9) z ≤ σ.1 (w + 9) z ∧ shO M L z (σ1.1 (w + 9) z) 13 (B, dB B (B 22)) := by
  have hM := h.M6
  have hL := h.L12
  have ho : ob b w := o
  unfold ob at ho
  obtain ⟨hl, g, gm, gc⟩ := hg
  obtain ⟨σ1, o2x, o3, o4, e1, h1, n1, d1, f1, y1, y2⟩ := c101tn (S := S) (d := d) hz hM hL o (B 22) 13 0 σ (B, dB B (B 22)) (am_clr o2) rfl h rfl hb hl g gm gc (fun _ _ => rfl) (by have := cnD_n (dB B (B 22)) L; simp only; omega)
  have e22 : (tuF M L 13 (B, dB B (B 22))).1 22 = B 22 := eqS_tuF hL 13 (B, dB B (B 22)) 22 (by omega) (by omega)
  obtain ⟨σ2, e2, h2, f2⟩ := c107 (S := S) (d := d + 1) h1 n1 (D := (tuF M L 13 (B, dB B (B 22))).2) (by rw [e22]; exact d1)
  refine ⟨_, ?_, h2.wf3 _, (f1.tr f2.b).tr (⟨fun a ha _ => wi_n _ (by omega) _ _, rfl⟩ : Fb w b σ2 (bm_wi σ2 w 3 _)), ?_⟩
  · rw [g101_8]
    refine (show bm_run S (d + 4) 101 13 [some (.ref w), some (.ref b), am_clr o2, some (.int 1), some (.int (nI 0))] [] σ = _ from e1).trans ?_
    simp (disch := omega) only [bm_run_ite, Option.toList_some, Option.bind_some, Option.toList_some, Option.toList_none, List.cons_append, List.nil_append, List.append_nil, eq_self, not_true_eq_false, not_false_eq_true, ite_true, ite_false, ↓reduceIte, Nat.reduceLT, Nat.reduceEqDiff, Nat.reduceAdd, or_true, true_or, or_false, false_or, nI_clamp2, nI_lt0F, nI_leT, nI_leF, nI_ltT, nI_ltF, n_leF, n_leT, nI_1, kA6, kA8, kA10, kA22, kA26, kA32, kA44, kA56, kA68, kA80, kA93, kA163, kA794, not_or, or_self, and_self, and_true, true_and, g101_0, g101_4, g101_8, g101_20, g101_24, g101_33, g101_38, g101_45, g101_49, h1.t, e2, h2.t, h2.f3]
    rfl
  · rw [wi_n _ (show w + 9 ≠ w by omega), f2.1 (w + 9) (by omega)]
    exact ⟨y1, y2⟩
theorem c101N {z : Nat} (hz : z < M) (h : RW M L σ w B) (o : ob b w) (hb : BK σ b B) (hg : GW M L B) : ∃ σ1, bm_call S (d + 4) 101 [.ref w, .ref b, .int 0] σ = some (none, σ1) ∧ RW M L σ1 w (hoB M L B false) ∧ Fb w b σ σ1 ∧ σ1.1 (w + 9) z ≤ σ.1 (w + 9) z ∧ shO M L z (σ1.1 (w + 9) z) 13 (B, dB B (B 22)) := by
  obtain ⟨σ1, e1, h1, f1, y1, y2⟩ := c101n (S := S) (d := d) hz h o hb hg (some (.int 0))
  refine ⟨σ1, ?_, h1, f1, y1, y2⟩
  simp only [e101, g101_0, bm_run_ite, Option.toList_some, Option.bind_some, Option.toList_some, Option.toList_none, List.cons_append, List.nil_append, List.append_nil, eq_self, not_true_eq_false, not_false_eq_true, ite_true, ite_false, ↓reduceIte, Nat.reduceLT, Nat.reduceEqDiff, Nat.reduceAdd, or_true, true_or, or_false, false_or, e1]
end NEAR
