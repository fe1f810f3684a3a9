def Fb (w b : Nat) (σ τ : bm_S) : Prop := (∀ a, (a < w ∨ w + 9 < a) → a ≠ b + 2 → τ.1 a = σ.1 a) ∧ τ.2 = σ.2
theorem Fb.rfl (w b : Nat) (σ : bm_S) : Fb w b σ σ := ⟨fun _ _ _ => Eq.refl _, Eq.refl _⟩
theorem Fb.tr {w b : Nat} {σ τ ρ : bm_S} (h : Fb w b σ τ) (h1 : Fb w b τ ρ) : Fb w b σ ρ := ⟨fun a ha hb => (h1.1 a ha hb).trans (h.1 a ha hb), h1.2.trans h.2⟩
theorem Fs.b {w b : Nat} {σ τ : bm_S} (h : Fs w b σ τ) : Fb w b σ τ := ⟨fun a ha hb => h.1 a (by omega) (by omega) hb, h.2⟩
theorem Fx.b {w b : Nat} {σ τ : bm_S} (h : Fx w σ τ) : Fb w b σ τ := ⟨fun a ha _ => h.1 a (by omega), h.2⟩
theorem Fb.BK {w b : Nat} {σ τ : bm_S} {B : Nat → Int32} (f : Fb w b σ τ) (o : ob b w) (h : BK σ b B) : BK τ b B := by
  unfold ob at o
  exact h.of (f.1 b (by omega) (by omega)) (f.1 (b + 1) (by omega) (by omega))
def muS (D : Nat → Bool) (C : Nat → Int32) (l : Nat) : Nat → Int32 := if (D l && decide (0 < C (10 + l))) = true then (if am_rem (am_ush (drB C 23) 16) 10 < drB C (10 + l) then upd (drB C) (68 + l) (drB C (68 + l) + 1) else drB C) else C
def muB (L : Nat) (B : Nat → Int32) : Nat → Int32 := itR (muS (dB B (B 22))) B L
theorem muS_out (D : Nat → Bool) (C : Nat → Int32) (l i : Nat) (h : i ≠ 23) (h1 : i ≠ 68 + l) : muS D C l i = C i := by
  unfold muS
  split
  · split
    · rw [upd_n _ _ h1]; exact upd_n _ _ h
    · exact upd_n _ _ h
  · rfl
theorem muB_out {L : Nat} {B : Nat → Int32} {i : Nat} (h : i ≠ 23) (h1 : i < 68 ∨ 68 + L ≤ i) : muB L B i = B i := itR_out (fun C l hl => muS_out _ C l i h (by omega))
section CHOLD
variable {S : am_S} {d : Nat} {σ : bm_S} {M L w b : Nat} {B : Nat → Int32}
theorem c101t (hM : M ≤ 6) (hL : L ≤ 12) (o : ob b w) (f : Int32) : ∀ (n k : Nat) (σ : bm_S) (s : fS) (o2 : Option Value), n + k = 13 → RW M L σ w s.1 → s.1 22 = f → BK σ b s.1 → LW s.1 → GO M L s.1 → GM L s.1 → GC M s.1 → (∀ l, l < L → s.2 l = dB s.1 f l) → cnD s.2 L < n → ∃ σ1 o2x o3 o4, bm_run S (d + 4) 101 38 [some (.ref w), some (.ref b), o2, some (.int 1), some (.int (nI k))] [] σ = bm_run S (d + 4) 101 70 [some (.ref w), some (.ref b), o2x, o3, o4] [] σ1 ∧ RW M L σ1 w (tuF M L n s).1 ∧ (∀ i, i < M → σ1.1 (w + 8) i = netF (tuF M L n s).2 (tuF M L n s).1 L i) ∧ (∀ l, l < L → (tuF M L n s).2 l = dB (tuF M L n s).1 f l) ∧ Fb w b σ σ1 ∧ ∀ z, σ1.1 (w + 9) z = rcF M L z n s (σ.1 (w + 9) z) := by
  intro n
  induction n with
  | zero => intro k σ s o2 _ _ _ _ _ _ _ _ _ h; omega
  | succ n ih =>
    intro k σ s o2 hn h h22 hb hl g gm gc hD hc
    have ho : ob b w := o
    unfold ob at ho
    obtain ⟨g1, ec, eg⟩ := c87 (S := S) (d := d + 1) h g f (Int32.ofInt (-1))
    have en : netF (fun l => !decide (nI l = Int32.ofInt (-1)) && dB s.1 f l) s.1 L = netF s.2 s.1 L := by
      refine netF_cg (fun l hll => ?_) (fun l _ => ⟨rfl, rfl, rfl⟩)
      have : ¬ nI l = Int32.ofInt (-1) := by
        intro z; have := nI_pos (show l < 2 ^ 31 by omega); rw [z] at this; exact this (by decide)
      rw [hD l hll]; simp only [this, decide_false, Bool.not_false, Bool.true_and]
    rw [en] at eg
    have h1 := h.row8 g1
    have hb1 : BK (bm_row σ (w + 8) g1) b s.1 := hb.of (bm_row_1n _ _ (by omega)) (bm_row_1n _ _ (by omega))
    have eg1 : ∀ i, i < M → (bm_row σ (w + 8) g1).1 (w + 8) i = netF s.2 s.1 L i := by intro i hi; rw [row_row1]; exact eg i hi
    obtain ⟨σ2, e2, h2, d2, f2, n2⟩ := c104 (S := S) (d := d) h1 o hb1 hl eg1 (D := s.2) (by rw [h22]; exact hD)
    rw [bm_row_1n _ _ (show w + 9 ≠ w + 8 by omega)] at n2
    rw [h22] at d2
    have fr : Fb w b σ (bm_row σ (w + 8) g1) := ⟨fun a ha _ => bm_row_1n _ _ (by omega), rfl⟩
    have e12 : ¬ (12 : Int32) < nI k := nI_nlt (b := 12) (a := k) |> fun _ => by
      have := nI_nlt (a := 12) (b := k) (by omega) (by decide)
      exact this
    have ss : (s.1, s.2) = s := rfl
    cases q : anF M L s with
    | false =>
      have qn := anS_no q
      have e5 : tuF M L (n + 1) s = s := by rw [tuF, q]; rfl
      rw [e5]
      rw [ss, seF_same _ _ s M qn] at h2 d2
      have q0 := q
      unfold anF at q
      rw [q] at e2
      refine ⟨σ2, am_clr o2, some (.int 0), some (.int (nI (k + 1))), ?_, h2, ?_, d2, fr.tr f2.b, fun z => by rw [rcF, if_neg (by rw [q0]; decide)]; exact n2 z⟩
      · rw [g101_38]
        have e10 : ¬ (1 : Int32) = 0 := by decide
        have e9 : bI false = (0 : Int32) := rfl
        simp (disch := omega) only [bm_run_ite, Option.toList_some, Option.bind_some, Option.toList_some, Option.toList_none, List.cons_append, List.nil_append, List.append_nil, eq_self, not_true_eq_false, not_false_eq_true, ite_true, ite_false, ↓reduceIte, Nat.reduceLT, Nat.reduceEqDiff, Nat.reduceAdd, or_true, true_or, or_false, false_or, nI_clamp2, nI_lt0F, nI_leT, nI_leF, nI_ltT, nI_ltF, n_leF, n_leT, nI_1, kA6, kA8, kA10, kA22, kA26, kA32, kA44, kA56, kA68, kA80, kA93, kA163, kA794, not_or, or_self, and_self, and_true, true_and, g101_0, g101_4, g101_8, g101_18, g101_27, g101_33, g101_45, g101_49, g101_58, g101_63, g101_74, e12, e10, h.t, h.f3, h22, ec, h1.t, e2, e9]
        rw [g101_38]
        simp (disch := omega) only [bm_run_ite, Option.toList_some, Option.bind_some, Option.toList_some, Option.toList_none, List.cons_append, List.nil_append, List.append_nil, eq_self, not_true_eq_false, not_false_eq_true, ite_true, ite_false, ↓reduceIte, Nat.reduceLT, Nat.reduceEqDiff, Nat.reduceAdd, or_true, true_or, or_false, false_or, nI_clamp2, nI_lt0F, nI_leT, nI_leF, nI_ltT, nI_ltF, n_leF, n_leT, nI_1, kA6, kA8, kA10, kA22, kA26, kA32, kA44, kA56, kA68, kA80, kA93, kA163, kA794, not_or, or_self, and_self, and_true, true_and, g101_0, g101_4, g101_8, g101_18, g101_27, g101_33, g101_45, g101_49, g101_58, g101_63, g101_74, ite_self]
      · intro i hi
        rw [f2.1 (w + 8) (by omega) (by omega) (by omega)]
        exact eg1 i hi
    | true =>
      have hs := eqS_seF hL s.1 (netF s.2 s.1 L) s M
      have qq := q
      unfold anF at qq
      rw [qq] at e2
      have e5 : tuF M L (n + 1) s = tuF M L n (tuS M L s) := by rw [tuF, q]; rfl
      rw [e5]
      have hlt := tuS_lt hM hL (fun l hll hq => by rw [hD l hll] at hq; simp only [dB, Bool.and_eq_true] at hq; exact hq.1) g gm gc q
      obtain ⟨σ3, o2x, o3, o4, e3, h3, n3, d3, f3, n4⟩ := ih (k + 1) σ2 (tuS M L s) (am_clr o2) (by omega) h2 ((hs 22 (by omega) (by omega)).trans h22) ((f2.BK o hb1).cg hs) (hl.cg hs) (g.cg hL hs) (gm.cg hL hs) (gc.cg hM hs) d2 (by omega)
      refine ⟨σ3, o2x, o3, o4, ?_, h3, n3, d3, (fr.tr f2.b).tr f3, fun z => by rw [rcF, if_pos q, n4 z, n2 z]⟩
      rw [← e3, g101_38]
      have e10 : ¬ (1 : Int32) = 0 := by decide
      have e9 : bI true = (1 : Int32) := rfl
      simp (disch := omega) only [bm_run_ite, Option.toList_some, Option.bind_some, Option.toList_some, Option.toList_none, List.cons_append, List.nil_append, List.append_nil, eq_self, not_true_eq_false, not_false_eq_true, ite_true, ite_false, ↓reduceIte, Nat.reduceLT, Nat.reduceEqDiff, Nat.reduceAdd, or_true, true_or, or_false, false_or, nI_clamp2, nI_lt0F, nI_leT, nI_leF, nI_ltT, nI_ltF, n_leF, n_leT, nI_1, kA6, kA8, kA10, kA22, kA26, kA32, kA44, kA56, kA68, kA80, kA93, kA163, kA794, not_or, or_self, and_self, and_true, true_and, g101_0, g101_4, g101_8, g101_18, g101_27, g101_33, g101_45, g101_49, g101_58, g101_63, g101_74, e12, e10, h.t, h.f3, h22, ec, h1.t, e2, e9]
/-- the ranges in which a world lies -/
def GW (M L : Nat) (B : Nat → Int32) : Prop := LW B ∧ GO M L B ∧ GM L B ∧ GC M B
theorem c101z (h : RW M L σ w B) (o : ob b w) (hb : BK σ b B) (o2 : Option Value) : ∃ σ1 ox, bm_run S (d + 4) 101 10 [some (.ref w), some (.ref b), o2, some (.int 0), none] [] σ = bm_run S (d + 4) 101 38 [some (.ref w), some (.ref b), ox, some (.int 1), some (.int 0)] [] σ1 ∧ RW M L σ1 w B ∧ BK σ1 b B ∧ Fb w b σ σ1 ∧ ∀ z, z < M → σ1.1 (w + 9) z = 0 := by
  have hM := h.M6
  have ho : ob b w := o
  unfold ob at ho
  obtain ⟨⟨o3, σ1⟩, e1, h1, b1, f1, n1⟩ := loop_ex (fun k (s : Option Value × bm_S) => bm_run S (d + 4) 101 10 [some (.ref w), some (.ref b), s.1, some (.int (nI k)), none] [] s.2) (fun k s => RW M L s.2 w B ∧ BK s.2 b B ∧ Fb w b σ s.2 ∧ ∀ z, z < k → s.2.1 (w + 9) z = 0) M (o2, σ) ⟨h, hb, Fb.rfl w b σ, fun z hz => absurd hz (by omega)⟩ (by
    intro k s hk hp
    obtain ⟨h1, b1, f1, n1⟩ := hp
    have lt : ¬ nI M ≤ nI k := nI_ge (by omega) (by omega)
    refine ⟨(am_clr s.1, bm_wi s.2 (w + 9) k 0), ?_, h1.out (a := w + 9) (by omega) k 0, b1.of (wi_n _ (by omega) k 0) (wi_n _ (by omega) k 0), ⟨fun a ha hc => by rw [wi_n _ (by omega)]; exact f1.1 a ha hc, f1.2⟩, fun z hz => ?_⟩
    · rw [g101_10]
      simp only [bm_run_ite, Option.toList_some, Option.bind_some, Option.toList_some, Option.toList_none, List.cons_append, List.nil_append, List.append_nil, eq_self, not_true_eq_false, not_false_eq_true, ite_true, ite_false, ↓reduceIte, Nat.reduceLT, Nat.reduceEqDiff, Nat.reduceAdd, or_true, true_or, or_false, false_or, h1.t, h1.f0, lt, g101_18, h1.s9 hk, g101_27, nI_1]
    · rw [wi_s]
      by_cases e : z = k
      · subst e; exact upd_s _ _ _
      · rw [upd_n _ _ e]; exact n1 z (by omega))
  replace h1 : RW M L σ1 w B := h1
  refine ⟨σ1, am_clr o3, ?_, h1, b1, f1, n1⟩
  refine (show bm_run S (d + 4) 101 10 [some (.ref w), some (.ref b), o2, some (.int (nI 0)), none] [] σ = _ from e1).trans ?_
  have le : nI M ≤ nI M := Int32.le_refl _
  rw [g101_10]
  simp only [bm_run_ite, Option.toList_some, Option.bind_some, Option.toList_some, Option.toList_none, List.cons_append, List.nil_append, List.append_nil, eq_self, not_true_eq_false, not_false_eq_true, ite_true, ite_false, ↓reduceIte, Nat.reduceLT, Nat.reduceEqDiff, Nat.reduceAdd, or_true, true_or, or_false, false_or, h1.t, h1.f0, le, g101_33]
theorem c101m (h : RW M L σ w B) (o : ob b w) (hb : BK σ b B) (hg : GW M L B) (o2 : Option Value) : ∃ σ1, bm_run S (d + 4) 101 8 [some (.ref w), some (.ref b), o2, none, none] [] σ = some (none, σ1) ∧ RW M L σ1 w (faB M L B (dB B (B 22))) ∧ Fb w b σ σ1 ∧ ∀ z, z < M → σ1.1 (w + 9) z = rcF M L z 13 (B, dB B (B 22)) 0 := by
  have hM := h.M6
  have hL := h.L12
  have ho : ob b w := o
  unfold ob at ho
  obtain ⟨hl, g, gm, gc⟩ := hg
  obtain ⟨σ0, ox, e0, h0, b0, f0, z0⟩ := c101z (S := S) (d := d) h o hb (am_clr o2)
  obtain ⟨σ1, o2x, o3, o4, e1, h1, n1, d1, f1, r1⟩ := c101t (S := S) (d := d) hM hL o (B 22) 13 0 σ0 (B, dB B (B 22)) ox rfl h0 rfl b0 hl g gm gc (fun _ _ => rfl) (by have := cnD_n (dB B (B 22)) L; simp only; omega)
  have e22 : (tuF M L 13 (B, dB B (B 22))).1 22 = B 22 := eqS_tuF hL 13 (B, dB B (B 22)) 22 (by omega) (by omega)
  obtain ⟨σ2, e2, h2, f2⟩ := c107 (S := S) (d := d + 1) h1 n1 (D := (tuF M L 13 (B, dB B (B 22))).2) (by rw [e22]; exact d1)
  refine ⟨_, ?_, h2.wf3 _, (f0.tr (f1.tr f2.b)).tr (⟨fun a ha _ => wi_n _ (by omega) _ _, rfl⟩ : Fb w b σ2 (bm_wi σ2 w 3 _)), fun z hz => ?_⟩
  · rw [g101_8]
    refine (show bm_run S (d + 4) 101 10 [some (.ref w), some (.ref b), am_clr o2, some (.int 0), none] [] σ = _ from e0).trans ((show bm_run S (d + 4) 101 38 [some (.ref w), some (.ref b), ox, some (.int 1), some (.int 0)] [] σ0 = _ from e1).trans ?_)
    rw [g101_70]
    simp (disch := omega) only [bm_run_ite, Option.toList_some, Option.bind_some, Option.toList_some, Option.toList_none, List.cons_append, List.nil_append, List.append_nil, eq_self, not_true_eq_false, not_false_eq_true, ite_true, ite_false, ↓reduceIte, Nat.reduceLT, Nat.reduceEqDiff, Nat.reduceAdd, or_true, true_or, or_false, false_or, nI_clamp2, nI_lt0F, nI_leT, nI_leF, nI_ltT, nI_ltF, n_leF, n_leT, nI_1, kA6, kA8, kA10, kA22, kA26, kA32, kA44, kA56, kA68, kA80, kA93, kA163, kA794, not_or, or_self, and_self, and_true, true_and, g101_74, h1.t, e2, h2.t, h2.f3]
    rfl
  · rw [wi_n _ (show w + 9 ≠ w by omega), f2.1 (w + 9) (by omega), r1 z, z0 z hz]
theorem c101 (h : RW M L σ w B) (o : ob b w) (hb : BK σ b B) (hg : GW M L B) : ∃ σ1, bm_call S (d + 4) 101 [.ref w, .ref b, .int 0] σ = some (none, σ1) ∧ RW M L σ1 w (faB M L B (dB B (B 22))) ∧ Fb w b σ σ1 := by
  obtain ⟨σ1, e1, h1, f1, _⟩ := c101m (S := S) (d := d) h o hb hg (some (.int 0))
  refine ⟨σ1, ?_, h1, f1⟩
  simp only [e101, g101_0, bm_run_ite, Option.toList_some, Option.bind_some, Option.toList_some, Option.toList_none, List.cons_append, List.nil_append, List.append_nil, eq_self, not_true_eq_false, not_false_eq_true, ite_true, ite_false, ↓reduceIte, Nat.reduceLT, Nat.reduceEqDiff, Nat.reduceAdd, or_true, true_or, or_false, false_or, e1]
theorem c102 (h : RW M L σ w B) : ∃ σ1, bm_call S (d + 2) 102 [.ref w] σ = some (none, σ1) ∧ RW M L σ1 w (muB L B) ∧ Fx w σ σ1 := by
  have hL := h.L12
  obtain ⟨σ1, e1, h1, f1⟩ := loop_ex (fun k s => bm_run S (d + 2) 102 2 [some (.ref w), some (.int (nI k))] [] s) (fun k s => RW M L s w (muB k B) ∧ Fx w σ s) L σ ⟨h, Fx.rfl w σ⟩ (by
    intro k s hk hp
    obtain ⟨h1, f1⟩ := hp
    have ed : dB (muB k B) (muB k B 22) k = dB B (B 22) k := by
      unfold dB
      rw [muB_out (by omega) (by omega), muB_out (by omega) (by omega), muB_out (by omega) (by omega)]
    have es : muB (k + 1) B = muS (dB B (B 22)) (muB k B) k := rfl
    rw [es]
    generalize muB k B = C at h1 ed
    unfold muS
    cases hd : dB B (B 22) k
    · rw [hd] at ed
      refine ⟨s, ?_, ?_, f1⟩
      · rw [g102_2]
        simp (disch := omega) only [bm_run_ite, Option.toList_some, Option.bind_some, Option.toList_some, Option.toList_none, List.cons_append, List.nil_append, List.append_nil, eq_self, not_true_eq_false, not_false_eq_true, ite_true, ite_false, ↓reduceIte, Nat.reduceLT, Nat.reduceEqDiff, Nat.reduceAdd, or_true, true_or, or_false, false_or, nI_clamp2, nI_lt0F, nI_leT, nI_leF, nI_ltT, nI_ltF, n_leF, n_leT, nI_1, kA6, kA8, kA10, kA22, kA26, kA32, kA44, kA56, kA68, kA80, kA93, kA163, kA794, not_or, or_self, and_self, and_true, true_and, g102_0, g102_10, g102_19, g102_22, g102_30, g102_33, g102_37, g102_48, g102_51, g102_56, g102_62, h1.t, h1.f1, h1.f3, c82n h1, ed, bI_ite, Bool.false_eq_true]
      · simpa using h1
    · rw [hd] at ed
      by_cases q : 0 < C (10 + k)
      · have q1 : ¬ C (10 + k) ≤ 0 := Int32.not_le.mpr q
        have h2 := h1.wf4 (drB C 23)
        have e2 : upd C 23 (drB C 23) = drB C := by unfold drB; rw [upd_s]
        rw [e2] at h2
        have q2 : drB C (10 + k) = C (10 + k) := upd_n _ _ (by omega)
        have f2 : Fx w σ (bm_wi s w 4 (drB C 23)) := f1.wi (by omega) (by omega) _ _
        by_cases q3 : am_rem (am_ush (drB C 23) 16) 10 < drB C (10 + k)
        · have q4 : ¬ drB C (10 + k) ≤ am_rem (am_ush (drB C 23) 16) 10 := Int32.not_le.mpr q3
          refine ⟨bm_wi (bm_wi s w 4 (drB C 23)) (w + 5) k (drB C (68 + k) + 1), ?_, ?_, f2.wi (by omega) (by omega) _ _⟩
          · rw [g102_2]
            simp (disch := omega) only [bm_run_ite, Option.toList_some, Option.bind_some, Option.toList_some, Option.toList_none, List.cons_append, List.nil_append, List.append_nil, eq_self, not_true_eq_false, not_false_eq_true, ite_true, ite_false, ↓reduceIte, Nat.reduceLT, Nat.reduceEqDiff, Nat.reduceAdd, or_true, true_or, or_false, false_or, nI_clamp2, nI_lt0F, nI_leT, nI_leF, nI_ltT, nI_ltF, n_leF, n_leT, nI_1, kA6, kA8, kA10, kA22, kA26, kA32, kA44, kA56, kA68, kA80, kA93, kA163, kA794, not_or, or_self, and_self, and_true, true_and, g102_0, g102_10, g102_19, g102_22, g102_30, g102_33, g102_37, g102_48, g102_51, g102_56, g102_62, h1.t, h1.f1, h1.f3, c82n h1, ed, bI_ite, h1.a7, q1, c100 h1, h2.t, h2.a7, q4, c103 h2]
          · simp only [q, decide_true, Bool.and_self, if_true, q3]; exact h2.w5 hk _
        · have q4 : drB C (10 + k) ≤ am_rem (am_ush (drB C 23) 16) 10 := Int32.not_lt.mp q3
          refine ⟨bm_wi s w 4 (drB C 23), ?_, ?_, f2⟩
          · rw [g102_2]
            simp (disch := omega) only [bm_run_ite, Option.toList_some, Option.bind_some, Option.toList_some, Option.toList_none, List.cons_append, List.nil_append, List.append_nil, eq_self, not_true_eq_false, not_false_eq_true, ite_true, ite_false, ↓reduceIte, Nat.reduceLT, Nat.reduceEqDiff, Nat.reduceAdd, or_true, true_or, or_false, false_or, nI_clamp2, nI_lt0F, nI_leT, nI_leF, nI_ltT, nI_ltF, n_leF, n_leT, nI_1, kA6, kA8, kA10, kA22, kA26, kA32, kA44, kA56, kA68, kA80, kA93, kA163, kA794, not_or, or_self, and_self, and_true, true_and, g102_0, g102_10, g102_19, g102_22, g102_30, g102_33, g102_37, g102_48, g102_51, g102_56, g102_62, h1.t, h1.f1, h1.f3, c82n h1, ed, bI_ite, h1.a7, q1, c100 h1, h2.t, h2.a7, q4]
          · simp only [q, decide_true, Bool.and_self, if_true, q3, if_false]; exact h2
      · have q1 : C (10 + k) ≤ 0 := Int32.not_lt.mp q
        refine ⟨s, ?_, ?_, f1⟩
        · rw [g102_2]
          simp (disch := omega) only [bm_run_ite, Option.toList_some, Option.bind_some, Option.toList_some, Option.toList_none, List.cons_append, List.nil_append, List.append_nil, eq_self, not_true_eq_false, not_false_eq_true, ite_true, ite_false, ↓reduceIte, Nat.reduceLT, Nat.reduceEqDiff, Nat.reduceAdd, or_true, true_or, or_false, false_or, nI_clamp2, nI_lt0F, nI_leT, nI_leF, nI_ltT, nI_ltF, n_leF, n_leT, nI_1, kA6, kA8, kA10, kA22, kA26, kA32, kA44, kA56, kA68, kA80, kA93, kA163, kA794, not_or, or_self, and_self, and_true, true_and, g102_0, g102_10, g102_19, g102_22, g102_30, g102_33, g102_37, g102_48, g102_51, g102_56, g102_62, h1.t, h1.f1, h1.f3, c82n h1, ed, bI_ite, h1.a7, q1]
        · simp only [q, decide_false, Bool.and_false, Bool.false_eq_true, if_false]; exact h1)
  refine ⟨σ1, ?_, h1, f1⟩
  rw [e102, g102_0]
  refine (show bm_run S (d + 2) 102 2 [some (.ref w), some (.int (nI 0))] [] _ = _ from e1).trans ?_
  rw [g102_2]
  simp (disch := omega) only [bm_run_ite, Option.toList_some, Option.bind_some, Option.toList_some, Option.toList_none, List.cons_append, List.nil_append, List.append_nil, eq_self, not_true_eq_false, not_false_eq_true, ite_true, ite_false, ↓reduceIte, Nat.reduceLT, Nat.reduceEqDiff, Nat.reduceAdd, or_true, true_or, or_false, false_or, nI_clamp2, nI_lt0F, nI_leT, nI_leF, nI_ltT, nI_ltF, n_leF, n_leT, nI_1, kA6, kA8, kA10, kA22, kA26, kA32, kA44, kA56, kA68, kA80, kA93, kA163, kA794, not_or, or_self, and_self, and_true, true_and, g102_62, h1.t, h1.f1]
/-- what no fair touches -/
def eqG (B C : Nat → Int32) : Prop := ∀ i, (i < 10 ∨ (26 ≤ i ∧ i < 68) ∨ 92 ≤ i) → C i = B i
theorem eqS.g {B C : Nat → Int32} (h : eqS B C) : eqG B C := fun i hi => h i (by omega) (by omega)
theorem BK.cgG {σ : bm_S} {b : Nat} {B C : Nat → Int32} (h : BK σ b B) (e : eqG B C) : BK σ b C := by
  have hc : ∀ p j, cdB C p j = cdB B p j := fun p j => e _ (by omega)
  unfold BK CK at h ⊢
  simp only [hc]
  rw [e 0 (by omega), e 1 (by omega), e 2 (by omega), e 4 (by omega), e 5 (by omega), e 6 (by omega), e 7 (by omega), e 8 (by omega), e 9 (by omega)]
  exact h
theorem LW.cgG {B C : Nat → Int32} (h : LW B) (e : eqG B C) : LW C := by
  have hc : ∀ p j, cdB C p j = cdB B p j := fun p j => e _ (by omega)
  have ht : ∀ p n, tyF C p n = tyF B p n := by
    intro p n
    induction n with
    | zero => rfl
    | succ n ih => rw [tyF, tyF, ih, hc]
  unfold LW wfL at h ⊢
  simp only [hc, ht]
  rw [e 1 (by omega), e 4 (by omega), e 5 (by omega), e 6 (by omega), e 7 (by omega), e 8 (by omega), e 9 (by omega)]
  exact h
theorem GW.cgG {M L : Nat} (hM : M ≤ 6) (hL : L ≤ 12) {B C : Nat → Int32} (h : GW M L B) (e : eqG B C) : GW M L C := by
  obtain ⟨hl, g, gm, gc⟩ := h
  refine ⟨hl.cgG e, ?_, ?_, ?_⟩
  · intro l hl
    obtain ⟨a, b, ha, hb, hab, ea, eb⟩ := g l hl
    exact ⟨a, b, ha, hb, hab, by rw [e _ (by omega)]; exact ea, by rw [e _ (by omega)]; exact eb⟩
  · intro l hl
    obtain ⟨k, hk, ek⟩ := gm l hl
    exact ⟨k, hk, by rw [e _ (by omega)]; exact ek⟩
  · intro l hl
    obtain ⟨k, hk, ek⟩ := gc l hl
    exact ⟨k, hk, by rw [e _ (by omega)]; exact ek⟩
theorem eqG_mu {L : Nat} (hL : L ≤ 12) (B : Nat → Int32) : eqG B (muB L B) := fun i hi => muB_out (by omega) (by omega)
/-- a fair, with mules or without -/
def hoB (M L : Nat) (B : Nat → Int32) (mu : Bool) : Nat → Int32 := if mu = true then faB M L (muB L B) (dB (muB L B) (muB L B 22)) else faB M L B (dB B (B 22))
theorem c101h (h : RW M L σ w B) (o : ob b w) (hb : BK σ b B) (hg : GW M L B) (mu : Bool) : ∃ σ1, bm_call S (d + 4) 101 [.ref w, .ref b, .int (bI mu)] σ = some (none, σ1) ∧ RW M L σ1 w (hoB M L B mu) ∧ Fb w b σ σ1 := by
  cases mu with
  | false => exact c101 h o hb hg
  | true =>
    have hM := h.M6
    have hL := h.L12
    obtain ⟨σ1, e1, h1, f1⟩ := c102 (S := S) (d := d + 1) h
    have e := eqG_mu hL B
    obtain ⟨σ2, e2, h2, f2, _⟩ := c101m (S := S) (d := d) h1 o ((f1.b.BK o hb).cgG e) (hg.cgG hM hL e) (some (.int 1))
    refine ⟨σ2, ?_, h2, f1.b.tr f2⟩
    have e10 : ¬ (1 : Int32) = 0 := by decide
    have e9 : bI true = (1 : Int32) := rfl
    simp only [e101, g101_0, g101_4, bm_run_ite, Option.toList_some, Option.bind_some, Option.toList_some, Option.toList_none, List.cons_append, List.nil_append, List.append_nil, eq_self, not_true_eq_false, not_false_eq_true, ite_true, ite_false, ↓reduceIte, Nat.reduceLT, Nat.reduceEqDiff, Nat.reduceAdd, or_true, true_or, or_false, false_or, e9, e10, h.t, e1, e2]
/-- and its bounds are kept -/
theorem mn_le (x : Nat) (hx : x ≤ 2000000) : ∃ k, k ≤ 999999 ∧ mn (nI x) = nI k := by
  unfold mn
  have e : (999999 : Int32) = nI 999999 := rfl
  rw [e]
  by_cases q : x ≤ 999999
  · rw [if_pos (nI_le q (by decide))]; exact ⟨x, q, rfl⟩
  · rw [if_neg (nI_ge (by omega) (by omega))]; exact ⟨999999, Nat.le_refl _, rfl⟩
end CHOLD
