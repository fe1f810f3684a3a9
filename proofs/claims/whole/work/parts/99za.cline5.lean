section CLIN5
variable {S : am_S} {d : Nat} {σ : bm_S} {T : Nat → Int32} {n K : Nat} {R : Nat → Int32} {C : List Int32}
/-- a sign or word that must stand there, in the class -/
theorem c53x {i w : Nat} (hK : tkK (qN T n) K) (hKn : K ≤ 900) (hi : i ≤ K) (hw : w < 35) (h21 : ¬ w = 21) (c : ClT T n K i σ) : ∃ b σ1, bm_call S (d + 1) 53 [.ref 25, .int (kcT w)] σ = some (some (.int b), σ1) ∧ Frd σ σ1 ∧ CX T n K (tkx (qN T n) w (Sum.inl i)) b σ1 ∧ (b = 1 → σ1.1 26 = σ.1 26 ∧ σ1.1 27 = σ.1 27 ∧ σ1.1 25 10 = σ.1 25 10) := by
  show ∃ b σ1, _ ∧ _ ∧ CX T n K (if qN T n i = w then Sum.inl (i + 1) else rfx (qN T n) i 2) b σ1 ∧ _
  by_cases q : qN T n i = w
  · obtain ⟨σ1, k1, x1, f1, y1, y2, y3⟩ := c51c (S := S) (d := d) hKn (lt_K hK hi (by rw [q]; exact h21)) c
    have e9 := c.2.2
    rw [q] at e9
    rw [if_pos q]
    refine ⟨1, σ1, ?_, f1, ⟨rfl, x1⟩, fun _ => ⟨y1, y2, y3⟩⟩
    simp (decide := true) only [e53, g53_0, g53_14, g53_18, bm_run_ite, Option.toList_some, Option.bind_some, Option.toList_some, Option.toList_none, List.cons_append, List.nil_append, List.append_nil, eq_self, not_true_eq_false, not_false_eq_true, ite_true, ite_false, ↓reduceIte, Nat.reduceLT, Nat.reduceEqDiff, Nat.reduceAdd, or_true, true_or, or_false, false_or, e9, k1]
  · obtain ⟨σ1, k1, x1, f1⟩ := c52 (S := S) (d := d) (w := 2) hKn hi c
    have e9 := c.2.2
    have ne : ¬ kcT (qN T n i) = kcT w := fun z => q ((kc_inj _ q_lt w hw).mp z)
    rw [if_neg q]
    refine ⟨0, σ1, ?_, f1, ⟨rfl, x1⟩, fun z => absurd z (by decide)⟩
    simp (decide := true) only [e53, g53_0, g53_8, g53_13, bm_run_ite, Option.toList_some, Option.bind_some, Option.toList_some, Option.toList_none, List.cons_append, List.nil_append, List.append_nil, eq_self, not_true_eq_false, not_false_eq_true, ite_true, ite_false, ↓reduceIte, Nat.reduceLT, Nat.reduceEqDiff, Nat.reduceAdd, or_true, true_or, or_false, false_or, e9, ne, k1, if_true]
/-- the class reads a letter's line as far as its debts' letters: either the fault is told or all five numbers are there -/
theorem c57r (hK : tkK (qN T n) K) (hKn : K ≤ 900) {i M L : Nat} (hM : M ≤ 6) (hL : L < 12) (hi : i < K) (c : ClT T n K i σ) (cc : ClC C σ) (w : CWR R σ) (e3 : R 3 = nI M) (e25 : R 25 = nI L) : ∃ σ1, Frd σ σ1 ∧ ((∃ e, lt5 (qN T n) (vN T n) M i = Sum.inr e ∧ bm_call S (d + 2) 57 [.ref 25] σ = some (some (.int 0), σ1) ∧ ClF T n e.1 e.2 σ1) ∨ ∃ j, lt5 (qN T n) (vN T n) M i = Sum.inl j ∧ bm_call S (d + 2) 57 [.ref 25] σ = bm_run S (d + 2) 57 202 [some (.ref 25), some (.int (vN T n (i + 1))), some (.int (vN T n (i + 3))), some (.int (vN T n (i + 5))), some (.int (vN T n (i + 7))), some (.int (if qN T n (i + 8) = 7 then vN T n (i + 9) else 0))] [] σ1 ∧ ClT T n K j σ1 ∧ σ1.1 26 = σ.1 26 ∧ σ1.1 27 = σ.1 27) := by
  have kv : kcT 4 = 205 ∧ kcT 5 = 206 ∧ kcT 6 = 207 ∧ kcT 7 = 208 ∧ kcT 20 = 2 := by decide +kernel
  obtain ⟨v4, v5, v6, v7, v20⟩ := kv
  obtain ⟨_, ⟨bt1, bt2⟩, _⟩ := t39
  have w0 := w.M e3 hM
  have w1 := w.L e25
  have l12 : nI L < 12 := nI_lt (b := 12) hL (by decide)
  have f29 : ∀ τ, Frd σ τ → τ.1 29 0 = nI M := fun τ f => by rw [f.1 29 (by decide) (by decide) (by decide)]; exact w0
  obtain ⟨σ1, k1, x1, f1, y1, z1, _⟩ := c51c (S := S) (d := d + 1) hKn hi c
  have g1 : bm_call S (d + 2) 57 [.ref 25] σ = bm_run S (d + 2) 57 22 [some (.ref 25), none, none, none, none, none] [] σ1 := by
    simp (decide := true) only [e57, g57_0, g57_18, bm_run_ite, Option.toList_some, Option.bind_some, Option.toList_some, Option.toList_none, List.cons_append, List.nil_append, List.append_nil, eq_self, not_true_eq_false, not_false_eq_true, ite_true, ite_false, ↓reduceIte, Nat.reduceLT, Nat.reduceEqDiff, Nat.reduceAdd, or_true, true_or, or_false, false_or, w1, l12, k1]
  obtain ⟨b2, σ2, k2, f2, x2, hb2, hv2⟩ := c54 (S := S) (d := d) hK hKn (lo := 0) (up := nI M - 1) (show i + 1 ≤ K by omega) x1
  cases h2 : nmx (qN T n) (vN T n) 0 (nI M - 1) (Sum.inl (i + 1)) with
  | inr e =>
    rw [h2] at x2
    obtain ⟨rfl, x2f⟩ := (show b2 = 0 ∧ ClF T n e.1 e.2 σ2 from x2)
    refine ⟨σ2, f1.tr f2, Or.inl ⟨e, ?_, g1.trans ?_, x2f⟩⟩
    · unfold lt5 lt4 lt3 lt2 lt1; rw [h2]; rfl
    · rw [g57_22, f29 σ1 f1]
      simp (decide := true) only [bm_run_ite, Option.toList_some, Option.bind_some, Option.toList_some, Option.toList_none, List.cons_append, List.nil_append, List.append_nil, eq_self, not_true_eq_false, not_false_eq_true, ite_true, ite_false, ↓reduceIte, Nat.reduceLT, Nat.reduceEqDiff, Nat.reduceAdd, or_true, true_or, or_false, false_or, k2, g57_36, g57_39]
  | inl j2 =>
  obtain ⟨c2, j2K⟩ := nmx_K hK (show i + 1 ≤ K by omega) h2
  subst c2
  rw [h2] at x2
  obtain ⟨rfl, x2⟩ := x2
  obtain ⟨y2, z2, u2⟩ := hv2 rfl
  have f12 := f1.tr f2
  obtain ⟨b3, σ3, k3, f3, x3, hv3⟩ := c53x (S := S) (d := d) hK hKn j2K (w := 4) (by decide) (by decide) x2
  rw [v4] at k3
  have e1 : lt1 (qN T n) (vN T n) M i = tkx (qN T n) 4 (Sum.inl (i + 1 + 1)) := by unfold lt1; rw [h2]
  have g2 : bm_run S (d + 2) 57 22 [some (.ref 25), none, none, none, none, none] [] σ1 = bm_run S (d + 2) 57 53 [some (.ref 25), some (.int (vN T n (i + 1))), none, none, none, none] [.int b3] σ3 := by
    rw [g57_22, f29 σ1 f1]
    simp (decide := true) only [bm_run_ite, Option.toList_some, Option.bind_some, Option.toList_some, Option.toList_none, List.cons_append, List.nil_append, List.append_nil, eq_self, not_true_eq_false, not_false_eq_true, ite_true, ite_false, ↓reduceIte, Nat.reduceLT, Nat.reduceEqDiff, Nat.reduceAdd, or_true, true_or, or_false, false_or, k2, g57_36, g57_41, u2, k3]
  cases h3 : tkx (qN T n) 4 (Sum.inl (i + 1 + 1)) with
  | inr e =>
    rw [h3] at x3 e1
    obtain ⟨rfl, x3f⟩ := (show b3 = 0 ∧ ClF T n e.1 e.2 σ3 from x3)
    refine ⟨σ3, f12.tr f3, Or.inl ⟨e, ?_, g1.trans (g2.trans ?_), x3f⟩⟩
    · unfold lt5 lt4 lt3 lt2; rw [e1]; rfl
    · rw [g57_53]
      simp (decide := true) only [bm_run_ite, Option.toList_some, Option.bind_some, Option.toList_some, Option.toList_none, List.cons_append, List.nil_append, List.append_nil, eq_self, not_true_eq_false, not_false_eq_true, ite_true, ite_false, ↓reduceIte, Nat.reduceLT, Nat.reduceEqDiff, Nat.reduceAdd, or_true, true_or, or_false, false_or, g57_56]
  | inl j3 =>
  obtain ⟨c3, j3K⟩ := tkx_K hK (by decide) j2K h3
  subst c3
  rw [h3] at x3 e1
  obtain ⟨rfl, x3⟩ := x3
  obtain ⟨y3, z3, u3⟩ := hv3 rfl
  have f13 := f12.tr f3
  -- whom is no one's own
  have e2 : lt2 (qN T n) (vN T n) M i = if qN T n (i + 3) = 20 ∧ vN T n (i + 3) = vN T n (i + 1) then Sum.inr (3, i + 3) else Sum.inl (i + 3) := by unfold lt2; rw [e1]; rfl
  have x39 := x3.2.2
  have x38 := x3.2.1
  have e40 : bm_call S (d + 1) 158 [.ref 40, .int (nI (i + 3))] σ3 = some (some (.int (vN T n (i + 3))), σ3) := by rw [at_row bt1 bt2 (by omega) (by decide), (x3.1.2 (i + 3) (by omega)).2.1]; rfl
  have g3 : bm_run S (d + 2) 57 53 [some (.ref 25), some (.int (vN T n (i + 1))), none, none, none, none] [.int 1] σ3 = bm_run S (d + 2) 57 (if qN T n (i + 3) = 20 ∧ vN T n (i + 3) = vN T n (i + 1) then 81 else 87) [some (.ref 25), some (.int (vN T n (i + 1))), none, none, none, none] [] σ3 := by
    by_cases q20 : qN T n (i + 3) = 20
    · have x39b : σ3.1 25 9 = 2 := by rw [x39, show i + 1 + 1 + 1 = i + 3 from rfl, q20, v20]
      by_cases qe : vN T n (i + 3) = vN T n (i + 1)
      · rw [if_pos ⟨q20, qe⟩, g57_53]
        simp (decide := true) only [bm_run_ite, Option.toList_some, Option.bind_some, Option.toList_some, Option.toList_none, List.cons_append, List.nil_append, List.append_nil, eq_self, not_true_eq_false, not_false_eq_true, ite_true, ite_false, ↓reduceIte, Nat.reduceLT, Nat.reduceEqDiff, Nat.reduceAdd, or_true, true_or, or_false, false_or, g57_58, x39b, g57_66, x38, show i + 1 + 1 + 1 = i + 3 from rfl, e40, g57_77, qe]
      · rw [if_neg (fun z => qe z.2), g57_53]
        simp (decide := true) only [bm_run_ite, Option.toList_some, Option.bind_some, Option.toList_some, Option.toList_none, List.cons_append, List.nil_append, List.append_nil, eq_self, not_true_eq_false, not_false_eq_true, ite_true, ite_false, ↓reduceIte, Nat.reduceLT, Nat.reduceEqDiff, Nat.reduceAdd, or_true, true_or, or_false, false_or, g57_58, x39b, g57_66, x38, show i + 1 + 1 + 1 = i + 3 from rfl, e40, g57_77, qe]
    · have x39b : ¬ σ3.1 25 9 = 2 := by rw [x39, ← v20]; exact fun z => q20 ((kc_inj _ q_lt 20 (by decide)).mp z)
      rw [if_neg (fun z => q20 z.1), g57_53]
      simp (decide := true) only [bm_run_ite, Option.toList_some, Option.bind_some, Option.toList_some, Option.toList_none, List.cons_append, List.nil_append, List.append_nil, eq_self, not_true_eq_false, not_false_eq_true, ite_true, ite_false, ↓reduceIte, Nat.reduceLT, Nat.reduceEqDiff, Nat.reduceAdd, or_true, true_or, or_false, false_or, g57_58, x39b]
  by_cases qc : qN T n (i + 3) = 20 ∧ vN T n (i + 3) = vN T n (i + 1)
  · rw [if_pos qc] at e2 g3
    obtain ⟨σ4, k4, x4, f4⟩ := c52 (S := S) (d := d + 1) (w := 3) hKn j3K x3
    rw [if_neg (by rw [show i + 1 + 1 + 1 = i + 3 from rfl, qc.1]; decide)] at x4
    refine ⟨σ4, f13.tr f4, Or.inl ⟨(3, i + 3), ?_, g1.trans (g2.trans (g3.trans ?_)), x4⟩⟩
    · unfold lt5 lt4 lt3; rw [e2]; rfl
    · rw [g57_81]
      simp (decide := true) only [bm_run_ite, Option.toList_some, Option.bind_some, Option.toList_some, Option.toList_none, List.cons_append, List.nil_append, List.append_nil, eq_self, not_true_eq_false, not_false_eq_true, ite_true, ite_false, ↓reduceIte, Nat.reduceLT, Nat.reduceEqDiff, Nat.reduceAdd, or_true, true_or, or_false, false_or, k4, g57_86, if_true]
  rw [if_neg qc] at e2 g3
  have f290 := f29 σ3 f13
  obtain ⟨b4, σ4, k4, f4, x4, hb4, hv4⟩ := c54 (S := S) (d := d) hK hKn (lo := 0) (up := nI M - 1) j3K x3
  cases h4 : nmx (qN T n) (vN T n) 0 (nI M - 1) (Sum.inl (i + 1 + 1 + 1)) with
  | inr e =>
    rw [h4] at x4
    obtain ⟨rfl, x4f⟩ := (show b4 = 0 ∧ ClF T n e.1 e.2 σ4 from x4)
    refine ⟨σ4, f13.tr f4, Or.inl ⟨e, ?_, g1.trans (g2.trans (g3.trans ?_)), x4f⟩⟩
    · unfold lt5 lt4 lt3; rw [e2, show (i + 3) = i + 1 + 1 + 1 from rfl, h4]; rfl
    · rw [g57_87, f290]
      simp (decide := true) only [bm_run_ite, Option.toList_some, Option.bind_some, Option.toList_some, Option.toList_none, List.cons_append, List.nil_append, List.append_nil, eq_self, not_true_eq_false, not_false_eq_true, ite_true, ite_false, ↓reduceIte, Nat.reduceLT, Nat.reduceEqDiff, Nat.reduceAdd, or_true, true_or, or_false, false_or, k4, g57_101, g57_104]
  | inl j4 =>
  obtain ⟨c4e, j4K⟩ := nmx_K hK j3K h4
  subst c4e
  rw [h4] at x4
  obtain ⟨rfl, x4⟩ := x4
  obtain ⟨y4, z4, u4⟩ := hv4 rfl
  have f14 := f13.tr f4
  obtain ⟨b5, σ5, k5, f5, x5, hv5⟩ := c53x (S := S) (d := d) hK hKn j4K (w := 5) (by decide) (by decide) x4
  rw [v5] at k5
  have g4 : bm_run S (d + 2) 57 87 [some (.ref 25), some (.int (vN T n (i + 1))), none, none, none, none] [] σ3 = bm_run S (d + 2) 57 118 [some (.ref 25), some (.int (vN T n (i + 1))), some (.int (vN T n (i + 3))), none, none, none] [.int b5] σ5 := by
    rw [g57_87, f290]
    simp (decide := true) only [bm_run_ite, Option.toList_some, Option.bind_some, Option.toList_some, Option.toList_none, List.cons_append, List.nil_append, List.append_nil, eq_self, not_true_eq_false, not_false_eq_true, ite_true, ite_false, ↓reduceIte, Nat.reduceLT, Nat.reduceEqDiff, Nat.reduceAdd, or_true, true_or, or_false, false_or, k4, g57_101, g57_106, u4, k5]
  have go := g1.trans (g2.trans (g3.trans g4))
  have l4 : nmx (qN T n) (vN T n) 0 (nI M - 1) (lt2 (qN T n) (vN T n) M i) = Sum.inl (i + 4) := by rw [e2]; exact h4
  cases h5 : tkx (qN T n) 5 (Sum.inl (i + 1 + 1 + 1 + 1)) with
  | inr e =>
    rw [h5] at x5
    obtain ⟨rfl, x5f⟩ := (show b5 = 0 ∧ ClF T n e.1 e.2 σ5 from x5)
    refine ⟨σ5, f14.tr f5, Or.inl ⟨e, ?_, go.trans ?_, x5f⟩⟩
    · unfold lt5 lt4 lt3; rw [l4, show (i + 4) = i + 1 + 1 + 1 + 1 from rfl, h5]; rfl
    · rw [g57_118]
      simp (decide := true) only [bm_run_ite, Option.toList_some, Option.bind_some, Option.toList_some, Option.toList_none, List.cons_append, List.nil_append, List.append_nil, eq_self, not_true_eq_false, not_false_eq_true, ite_true, ite_false, ↓reduceIte, Nat.reduceLT, Nat.reduceEqDiff, Nat.reduceAdd, or_true, true_or, or_false, false_or, g57_132]
  | inl j5 =>
  obtain ⟨c5e, j5K⟩ := tkx_K hK (by decide) j4K h5
  subst c5e
  rw [h5] at x5
  obtain ⟨rfl, x5⟩ := x5
  obtain ⟨y5, z5, u5⟩ := hv5 rfl
  have f15 := f14.tr f5
  obtain ⟨b6, σ6, k6, f6, x6, hb6, hv6⟩ := c54 (S := S) (d := d) hK hKn (lo := 1) (up := 999) j5K x5
  cases h6 : nmx (qN T n) (vN T n) 1 999 (Sum.inl (i + 1 + 1 + 1 + 1 + 1)) with
  | inr e =>
    rw [h6] at x6
    obtain ⟨rfl, x6f⟩ := (show b6 = 0 ∧ ClF T n e.1 e.2 σ6 from x6)
    refine ⟨σ6, f15.tr f6, Or.inl ⟨e, ?_, go.trans ?_, x6f⟩⟩
    · unfold lt5 lt4 lt3; rw [l4, show (i + 4) = i + 1 + 1 + 1 + 1 from rfl, h5, h6]; rfl
    · rw [g57_118]
      simp (decide := true) only [bm_run_ite, Option.toList_some, Option.bind_some, Option.toList_some, Option.toList_none, List.cons_append, List.nil_append, List.append_nil, eq_self, not_true_eq_false, not_false_eq_true, ite_true, ite_false, ↓reduceIte, Nat.reduceLT, Nat.reduceEqDiff, Nat.reduceAdd, or_true, true_or, or_false, false_or, g57_121, k6, g57_129, g57_132]
  | inl j6 =>
  obtain ⟨c6e, j6K⟩ := nmx_K hK j5K h6
  subst c6e
  rw [h6] at x6
  obtain ⟨rfl, x6⟩ := x6
  obtain ⟨y6, z6, u6⟩ := hv6 rfl
  have f16 := f15.tr f6
  obtain ⟨b7, σ7, k7, f7, x7, hv7⟩ := c53x (S := S) (d := d) hK hKn j6K (w := 6) (by decide) (by decide) x6
  rw [v6] at k7
  have g5 : bm_run S (d + 2) 57 118 [some (.ref 25), some (.int (vN T n (i + 1))), some (.int (vN T n (i + 3))), none, none, none] [.int 1] σ5 = bm_run S (d + 2) 57 146 [some (.ref 25), some (.int (vN T n (i + 1))), some (.int (vN T n (i + 3))), some (.int (vN T n (i + 5))), none, none] [.int b7] σ7 := by
    rw [g57_118]
    simp (decide := true) only [bm_run_ite, Option.toList_some, Option.bind_some, Option.toList_some, Option.toList_none, List.cons_append, List.nil_append, List.append_nil, eq_self, not_true_eq_false, not_false_eq_true, ite_true, ite_false, ↓reduceIte, Nat.reduceLT, Nat.reduceEqDiff, Nat.reduceAdd, or_true, true_or, or_false, false_or, g57_121, k6, g57_129, g57_134, u6, k7]
  have go2 := go.trans g5
  have l5 : nmx (qN T n) (vN T n) 1 999 (tkx (qN T n) 5 (nmx (qN T n) (vN T n) 0 (nI M - 1) (lt2 (qN T n) (vN T n) M i))) = Sum.inl (i + 6) := by rw [l4, show (i + 4) = i + 1 + 1 + 1 + 1 from rfl, h5]; exact h6
  cases h7 : tkx (qN T n) 6 (Sum.inl (i + 1 + 1 + 1 + 1 + 1 + 1)) with
  | inr e =>
    rw [h7] at x7
    obtain ⟨rfl, x7f⟩ := (show b7 = 0 ∧ ClF T n e.1 e.2 σ7 from x7)
    refine ⟨σ7, f16.tr f7, Or.inl ⟨e, ?_, go2.trans ?_, x7f⟩⟩
    · unfold lt5 lt4 lt3; rw [l5, show (i + 6) = i + 1 + 1 + 1 + 1 + 1 + 1 from rfl, h7]; rfl
    · rw [g57_146]
      simp (decide := true) only [bm_run_ite, Option.toList_some, Option.bind_some, Option.toList_some, Option.toList_none, List.cons_append, List.nil_append, List.append_nil, eq_self, not_true_eq_false, not_false_eq_true, ite_true, ite_false, ↓reduceIte, Nat.reduceLT, Nat.reduceEqDiff, Nat.reduceAdd, or_true, true_or, or_false, false_or, g57_159]
  | inl j7 =>
  obtain ⟨c7e, j7K⟩ := tkx_K hK (by decide) j6K h7
  subst c7e
  rw [h7] at x7
  obtain ⟨rfl, x7⟩ := x7
  obtain ⟨y7, z7, u7⟩ := hv7 rfl
  have f17 := f16.tr f7
  obtain ⟨b8, σ8, k8, f8, x8, hb8, hv8⟩ := c54 (S := S) (d := d) hK hKn (lo := 0) (up := 20) j7K x7
  have l7 : lt3 (qN T n) (vN T n) M i = Sum.inl (i + 7) := by unfold lt3; rw [l5]; exact h7
  cases h8 : nmx (qN T n) (vN T n) 0 20 (Sum.inl (i + 1 + 1 + 1 + 1 + 1 + 1 + 1)) with
  | inr e =>
    rw [h8] at x8
    obtain ⟨rfl, x8f⟩ := (show b8 = 0 ∧ ClF T n e.1 e.2 σ8 from x8)
    refine ⟨σ8, f17.tr f8, Or.inl ⟨e, ?_, go2.trans ?_, x8f⟩⟩
    · unfold lt5 lt4; rw [l7, show (i + 7) = i + 1 + 1 + 1 + 1 + 1 + 1 + 1 from rfl, h8]; rfl
    · rw [g57_146]
      simp (decide := true) only [bm_run_ite, Option.toList_some, Option.bind_some, Option.toList_some, Option.toList_none, List.cons_append, List.nil_append, List.append_nil, eq_self, not_true_eq_false, not_false_eq_true, ite_true, ite_false, ↓reduceIte, Nat.reduceLT, Nat.reduceEqDiff, Nat.reduceAdd, or_true, true_or, or_false, false_or, g57_149, k8, g57_156, g57_159]
  | inl j8 =>
  obtain ⟨c8e, j8K⟩ := nmx_K hK j7K h8
  subst c8e
  rw [h8] at x8
  obtain ⟨rfl, x8⟩ := x8
  obtain ⟨y8, z8, u8⟩ := hv8 rfl
  have f18 := f17.tr f8
  have l8 : lt4 (qN T n) (vN T n) M i = Sum.inl (i + 8) := by unfold lt4; rw [l7]; exact h8
  have l9 : lt5 (qN T n) (vN T n) M i = if qN T n (i + 8) = 7 then nmx (qN T n) (vN T n) 0 9 (Sum.inl (i + 8 + 1)) else Sum.inl (i + 8) := by unfold lt5; rw [l8]; rfl
  have r26 : σ8.1 26 = σ.1 26 := by rw [y8, y7, y6, y5, y4, y3, y2, y1]
  have r27 : σ8.1 27 = σ.1 27 := by rw [z8, z7, z6, z5, z4, z3, z2, z1]
  have x89 := x8.2.2
  by_cases q7 : qN T n (i + 8) = 7
  · have x89b : σ8.1 25 9 = 208 := by rw [x89, show i + 1 + 1 + 1 + 1 + 1 + 1 + 1 + 1 = i + 8 from rfl, q7, v7]
    obtain ⟨σ9, k9, x9, f9, y9, z9, _⟩ := c51c (S := S) (d := d + 1) hKn (lt_K hK j8K (by rw [show i + 1 + 1 + 1 + 1 + 1 + 1 + 1 + 1 = i + 8 from rfl, q7]; decide)) x8
    have i9K : i + 8 + 1 ≤ K := by have := lt_K hK j8K (by rw [show i + 1 + 1 + 1 + 1 + 1 + 1 + 1 + 1 = i + 8 from rfl, q7]; decide); omega
    obtain ⟨b10, σ10, k10, f10, x10, hb10, hv10⟩ := c54 (S := S) (d := d) hK hKn (lo := 0) (up := 9) i9K x9
    rw [if_pos q7] at l9
    cases h10 : nmx (qN T n) (vN T n) 0 9 (Sum.inl (i + 8 + 1)) with
    | inr e =>
      rw [h10] at x10 l9
      obtain ⟨rfl, x10f⟩ := (show b10 = 0 ∧ ClF T n e.1 e.2 σ10 from x10)
      refine ⟨σ10, (f18.tr f9).tr f10, Or.inl ⟨e, l9, go2.trans ?_, x10f⟩⟩
      rw [g57_146]
      simp (decide := true) only [bm_run_ite, Option.toList_some, Option.bind_some, Option.toList_some, Option.toList_none, List.cons_append, List.nil_append, List.append_nil, eq_self, not_true_eq_false, not_false_eq_true, ite_true, ite_false, ↓reduceIte, Nat.reduceLT, Nat.reduceEqDiff, Nat.reduceAdd, or_true, true_or, or_false, false_or, g57_149, k8, g57_156, g57_161, x89b, g57_180, k9, g57_184, k10, g57_191, g57_194]
    | inl j10 =>
      rw [h10] at x10 l9
      obtain ⟨rfl, x10⟩ := x10
      obtain ⟨y10, z10, u10⟩ := hv10 rfl
      refine ⟨σ10, (f18.tr f9).tr f10, Or.inr ⟨j10, l9, go2.trans ?_, x10, by rw [y10, y9]; exact r26, by rw [z10, z9]; exact r27⟩⟩
      have i9 : vN T n (i + 8 + 1) = vN T n (i + 9) := rfl
      rw [if_pos q7, g57_146]
      simp (decide := true) only [bm_run_ite, Option.toList_some, Option.bind_some, Option.toList_some, Option.toList_none, List.cons_append, List.nil_append, List.append_nil, eq_self, not_true_eq_false, not_false_eq_true, ite_true, ite_false, ↓reduceIte, Nat.reduceLT, Nat.reduceEqDiff, Nat.reduceAdd, or_true, true_or, or_false, false_or, g57_149, k8, g57_156, g57_161, u8, x89b, g57_180, k9, g57_184, k10, g57_191, g57_196, u10, i9]
  · have x89b : ¬ σ8.1 25 9 = 208 := by rw [x89, ← v7]; exact fun z => q7 ((kc_inj _ q_lt 7 (by decide)).mp z)
    rw [if_neg q7] at l9
    refine ⟨σ8, f18, Or.inr ⟨i + 8, l9, go2.trans ?_, x8, r26, r27⟩⟩
    rw [if_neg q7, g57_146]
    simp (decide := true) only [bm_run_ite, Option.toList_some, Option.bind_some, Option.toList_some, Option.toList_none, List.cons_append, List.nil_append, List.append_nil, eq_self, not_true_eq_false, not_false_eq_true, ite_true, ite_false, ↓reduceIte, Nat.reduceLT, Nat.reduceEqDiff, Nat.reduceAdd, or_true, true_or, or_false, false_or, g57_149, k8, g57_156, g57_161, u8, x89b]
end CLIN5
