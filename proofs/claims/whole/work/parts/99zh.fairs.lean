section FAIRS
variable {S : am_S} {d : Nat} {σ : bm_S} {T : Nat → Int32} {n K M L : Nat} {R : Nat → Int32} {C : List Int32}
theorem isB26 : isB 26 := by unfold isB; decide
/-- what was read is a good row; the class's world and book stand beside it -/
theorem GR.okb (g : GR R C) (hC : C.length ≤ 900) {B : Nat → Int32} (lo : ∀ k, k < 793 → B k = dsR R k) (cd : ∀ m, m < C.length → B (794 + m) = C.getD m 0) (w : CWR (dsR R) σ) (cc : ClC C σ) : ∃ M L, OKB M L B ∧ RW M L σ 29 B ∧ BK σ 26 B := by
  obtain ⟨⟨M, L, ⟨h1, h2, h3, h4⟩, go, gm, gc, lt, lz⟩, ⟨⟨z23, z24, z92⟩, z80⟩, ⟨⟨f, f1, f2, f3⟩, ⟨m, m1, m2, m3⟩⟩, gl1, gl2⟩ := g
  have cL : cN (R 25) = L := by rw [h4]; exact cN_nI (by omega)
  have n : ∀ k, k < 793 → (k < 68 ∨ 80 ≤ k) → B k = R k := fun k a b => (lo k a).trans (ds_n b (by omega))
  have b24 : B 24 = 0 := by rw [n 24 (by omega) (by omega)]; exact z24
  have law : ∀ (a p q : Int32) (time : Bool), LG a p q time C → ¬ a = 0 → ∃ k m, p = nI k ∧ q = nI m ∧ wfL time B k m ∧ CK σ 26 B k m := by
    intro a p q time hl ha
    obtain ⟨k, E, e1, e2, e3, e4, e5⟩ := hl ha
    have hc : ∀ j, j < E.length → cdB B k j = E.getD j 0 := fun j hj => by
      unfold cdB
      rw [show 794 + k + j = 794 + (k + j) by omega, cd (k + j) (by omega)]
      exact e5 j hj
    refine ⟨k, E.length, e1, e2, wf_of e3 (by omega) hc, fun j hj => ?_⟩
    rw [hc j hj, ← e5 j hj]
    exact cc.2 (k + j) (by omega)
  have l1 : ¬ B 4 = 0 → ∃ k m, B 6 = nI k ∧ B 8 = nI m ∧ wfL false B k m ∧ CK σ 26 B k m := fun z => by
    rw [n 4 (by omega) (by omega)] at z
    obtain ⟨k, m, e1, e2, e3⟩ := law _ _ _ _ gl1 z
    exact ⟨k, m, by rw [n 6 (by omega) (by omega)]; exact e1, by rw [n 8 (by omega) (by omega)]; exact e2, e3⟩
  have l2 : ¬ B 5 = 0 → ∃ k m, B 7 = nI k ∧ B 9 = nI m ∧ wfL true B k m ∧ CK σ 26 B k m := fun z => by
    rw [n 5 (by omega) (by omega)] at z
    obtain ⟨k, m, e1, e2, e3⟩ := law _ _ _ _ gl2 z
    exact ⟨k, m, by rw [n 7 (by omega) (by omega)]; exact e1, by rw [n 9 (by omega) (by omega)]; exact e2, e3⟩
  have b1 : ¬ B 1 = 0 := by
    rw [n 1 (by omega) (by omega), f3]
    intro z
    have := (nI_eq (a := f) (b := 0) (by omega) (by decide)).mp z
    omega
  have lw : LW B := ⟨b1, fun z => by obtain ⟨k, m, e1, e2, e3, _⟩ := l1 z; exact ⟨k, m, e1, e2, e3⟩, fun z => by obtain ⟨k, m, e1, e2, e3, _⟩ := l2 z; exact ⟨k, m, e1, e2, e3⟩⟩
  refine ⟨M, L, ⟨⟨⟨lw, fun l hl => ?_, fun l hl => ?_, fun m hm => ?_⟩, fun l hl ho m hm hb => ?_, fun m _ hm => ?_⟩, fun l h5 h6 => ?_, fun l hl => ?_, ⟨h1, h2, ?_, ?_⟩, ⟨m, m1, m2, ?_⟩, ⟨f, f1, f2, ?_⟩, ?_⟩, ?_, ?_⟩
  · obtain ⟨a, b, ha, hb, hab, ea, eb⟩ := go l hl
    exact ⟨a, b, ha, hb, hab, by rw [n _ (by omega) (by omega)]; exact ea, by rw [n _ (by omega) (by omega)]; exact eb⟩
  · obtain ⟨k, hk, ek⟩ := gm l hl
    exact ⟨k, hk, by rw [n _ (by omega) (by omega)]; exact ek⟩
  · obtain ⟨k, hk, ek⟩ := gc m hm
    exact ⟨k, by omega, by rw [n _ (by omega) (by omega)]; exact ek⟩
  · rw [b24, tb_0] at hb; cases hb
  · rw [b24, tb_0]
  · rw [n _ (by omega) (by omega)]; exact lz l h5 h6
  · obtain ⟨k, hk, ek⟩ := lt l hl
    exact ⟨k, hk, by rw [n _ (by omega) (by omega)]; exact ek⟩
  · rw [n _ (by omega) (by omega)]; exact h3
  · rw [n _ (by omega) (by omega)]; exact h4
  · rw [n _ (by omega) (by omega)]; exact m3
  · rw [n _ (by omega) (by omega)]; exact f3
  · have sb : ∀ i, i ≤ M → sZ B i ≤ 999 * (i : Int) := by
      intro i
      induction i with
      | zero => intro _; exact Int.le_refl _
      | succ i ih =>
        intro hi
        have h0 := ih (by omega)
        obtain ⟨k, hk, ek⟩ := gc i (by omega)
        have e1 : (B (26 + i)).toInt = (k : Int) := by rw [n _ (by omega) (by omega), ek]; exact nI_toInt2 (by omega)
        have es : sZ B (i + 1) = sZ B i + (B (26 + i)).toInt := rfl
        omega
    have := sb M (Nat.le_refl M)
    unfold SC
    omega
  · obtain ⟨M2, L2, ⟨a1, a2, a3, a4⟩, ⟨b1, b2, b3, b4, b5⟩, g1, g2, _⟩ := w
    rw [ds_n (by omega) (by omega)] at a3 a4
    have eM : M2 = M := (nI_eq (by omega) (by omega)).mp (a3.symm.trans h3)
    have eL : L2 = L := (nI_eq (by omega) (by omega)).mp (a4.symm.trans h4)
    subst eM eL
    refine ⟨⟨t29, h1, h2⟩, ⟨b1, b2, by rw [b24]; exact b3, by rw [lo 22 (by omega)]; exact b4, by rw [n 23 (by omega) (by omega), z23]; exact b5⟩, fun i hi => ?_, fun i hi => ?_, fun i hi => ?_, fun i hi => ?_, fun i hi => ?_, fun i hi => ?_, fun i hi => ?_⟩
    · rw [lo _ (by omega)]; exact g1 i hi
    · rw [lo _ (by omega)]; exact (g2 i hi).1
    · rw [lo _ (by omega)]; exact (g2 i hi).2.1
    · rw [lo _ (by omega)]; exact (g2 i hi).2.2.1
    · rw [lo _ (by omega)]; exact (g2 i hi).2.2.2.1
    · rw [lo _ (by omega)]; exact (g2 i hi).2.2.2.2.1
    · rw [lo _ (by omega)]; exact (g2 i hi).2.2.2.2.2
  · obtain ⟨M2, L2, _, _, _, _, ⟨g1, g2, g3⟩, g4, g5, g6, g7⟩ := w
    rw [← lo 1 (by omega)] at g1
    rw [← lo 2 (by omega)] at g2
    rw [← lo 0 (by omega)] at g3
    rw [← lo 4 (by omega)] at g4 g5
    rw [← lo 6 (by omega), ← lo 8 (by omega)] at g5
    rw [← lo 5 (by omega)] at g6 g7
    rw [← lo 7 (by omega), ← lo 9 (by omega)] at g7
    refine ⟨isB26.bk, ⟨g1, g2, g3⟩, g4, fun z => ?_, g6, fun z => ?_⟩
    · obtain ⟨k, m, e1, e2, e3, e4⟩ := l1 z
      have := e3.1
      refine ⟨(g5 z).1, (g5 z).2, ?_⟩
      rw [e1, e2, cN_nI (by omega), cN_nI (by omega)]
      exact e4
    · obtain ⟨k, m, e1, e2, e3, e4⟩ := l2 z
      have := e3.1
      refine ⟨(g7 z).1, (g7 z).2, ?_⟩
      rw [e1, e2, cN_nI (by omega), cN_nI (by omega)]
      exact e4
/-- all stays but what was fed and the fault -/
theorem RS.tp {τ : bm_S} (h : RS M L σ) (e : ∀ a, ¬ Sc a → a ≠ 218 → a ≠ 0 → τ.1 a = σ.1 a) (ex : ∀ a, a = 211 ∨ a = 213 ∨ a = 215 ∨ a = 217 ∨ a = 237 → τ.2 a = σ.2 a) (z1 : τ.1 0 1 = 0) (z2 : τ.1 218 5 = 0) (ft : FT τ) : RS M L τ := by
  obtain ⟨⟨c1, c2, c3⟩, ⟨n, e', p1, p2, p3, p4, p5, p6⟩, im, tr, _, _⟩ := h
  have e17 : τ.1 219 = σ.1 219 := e 219 (by unfold Sc; omega) (by omega) (by omega)
  refine ⟨⟨by rw [e17]; exact c1, ?_, ?_⟩, ⟨n, e', p1, p2, ?_, ?_, ?_, ?_⟩, ?_, ?_, ⟨0, by omega, z1, z2, fun i hi => absurd hi (by omega)⟩, ft⟩
  · rw [e17]; exact c2.of (fun a h1 h2 => e a (by unfold Sc; omega) (by omega) (by omega))
  · rw [e17]; exact c3.of (e 2 (by unfold Sc; omega) (by omega) (by omega)) (e 3 (by unfold Sc; omega) (by omega) (by omega))
  · rw [e17]; exact p3
  · rw [e 42 (by unfold Sc; omega) (by omega) (by omega)]; exact p4
  · rw [e 42 (by unfold Sc; omega) (by omega) (by omega)]; exact p5
  · intro i hi
    obtain ⟨L1, q1, q2⟩ := p6 i hi
    rw [e17]
    refine ⟨L1, q1, q2.of (fun a h1 h2 => e a ?_ ?_ ?_)⟩
    · unfold Sc; omega
    · omega
    · omega
  · intro j hj
    have im1 := im j hj
    unfold IM at im1 ⊢
    rw [e (182 + 14 * j) (by unfold Sc; omega) (by omega) (by omega), e 220 (by unfold Sc; omega) (by omega) (by omega), e17]
    rcases im1 with z | ⟨z1, z2, M2, L2, o1, o2, o3⟩
    · exact Or.inl z
    · exact Or.inr ⟨z1, z2, M2, L2, o1, o2.of (fun a h1 h2 => e a (by unfold Sc; omega) (by omega) (by omega)), o3.of (e _ (by unfold Sc; omega) (by omega) (by omega)) (e _ (by unfold Sc; omega) (by omega) (by omega))⟩
  · intro j hj
    have := tr j hj
    unfold TR at this ⊢
    rw [e (210 + 2 * j) (by unfold Sc; omega) (by omega) (by omega), e 235 (by unfold Sc; omega) (by omega) (by omega), e 236 (by unfold Sc; omega) (by omega) (by omega), ex (211 + 2 * j) (by omega), ex 237 (by omega)]
    exact this
/-- a new text's fairs -/
theorem RS.new {M0 L0 : Nat} {τ : bm_S} (h : RS M0 L0 σ) (e : ∀ a, ¬ Sc a → a ≠ 218 → a ≠ 219 → a ≠ 42 → 12 < a → τ.1 a = σ.1 a) (ex : ∀ a, a = 211 ∨ a = 213 ∨ a = 215 ∨ a = 217 ∨ a = 237 → τ.2 a = σ.2 a) (big : ∀ k, 1694 ≤ k → τ.1 219 k = σ.1 219 k) (co : CO M L τ) (n1 : τ.1 219 92 = 0) (n2 : τ.1 42 2 = 0) (n3 : τ.1 42 1 = σ.1 42 1) (z1 : τ.1 0 1 = 0) (z2 : τ.1 218 5 = 0) (ft : FT τ) : RS M L τ := by
  obtain ⟨_, ⟨n, e', p1, p2, p3, p4, p5, p6⟩, im, tr, _, _⟩ := h
  refine ⟨co, ⟨0, e', by omega, p2, n1, n2, n3.trans p5, fun i hi => absurd hi (by omega)⟩, ?_, ?_, ⟨0, by omega, z1, z2, fun i hi => absurd hi (by omega)⟩, ft⟩
  · intro j hj
    have im1 := im j hj
    have ei : imB (τ.1 219) j = imB (σ.1 219) j := by funext y; unfold imB; exact big _ (by omega)
    unfold IM at im1 ⊢
    rw [e (182 + 14 * j) (by unfold Sc; omega) (by omega) (by omega) (by omega) (by omega), e 220 (by unfold Sc; omega) (by omega) (by omega) (by omega) (by omega), ei]
    rcases im1 with z | ⟨z1, z2, M2, L2, o1, o2, o3⟩
    · exact Or.inl z
    · exact Or.inr ⟨z1, z2, M2, L2, o1, o2.of (fun a h1 h2 => e a (by unfold Sc; omega) (by omega) (by omega) (by omega) (by omega)), o3.of (e _ (by unfold Sc; omega) (by omega) (by omega) (by omega) (by omega)) (e _ (by unfold Sc; omega) (by omega) (by omega) (by omega) (by omega))⟩
  · intro j hj
    have := tr j hj
    unfold TR at this ⊢
    rw [e (210 + 2 * j) (by unfold Sc; omega) (by omega) (by omega) (by omega) (by omega), e 235 (by unfold Sc; omega) (by omega) (by omega) (by omega) (by omega), e 236 (by unfold Sc; omega) (by omega) (by omega) (by omega) (by omega), ex (211 + 2 * j) (by omega), ex 237 (by omega)]
    exact this
/-- the reference begins -/
theorem m191s {t : Nat} (h : tx T n σ) (hn : n ≤ t) (h5 : σ.1 218 5 = nI t) (ht : t ≤ 900) : ∃ g, bm_call S (d + 42) 191 [.ref 218, .int (nI n)] σ = bm_run S (d + 42) 191 53 [some (.ref 218), some (.int (nI n)), none] [] (st2 σ g (plR (σ.1 222))) ∧ MT T n 0 g ∧ g 5 = 0 := by
  have e5 : (bm_wi σ 218 0 0).1 218 5 = nI t := by rw [wi_s, upd_n _ _ (by decide)]; exact h5
  have z0 : (0 : Int32).toInt64 = 0 := by decide
  have bw : bW (nI n).toInt64 0 (nI t).toInt64 = 1 := by
    have a := inb_bW (nI n) 0 (nI t)
    rw [z0] at a
    rw [a]
    have : inb (nI n) 0 (nI t) = true := by
      unfold inb
      rw [Bool.and_eq_true, decide_eq_true_eq, decide_eq_true_eq]
      exact ⟨nI_pos (by omega), nI_nlt hn (by omega)⟩
    rw [this]
    rfl
  generalize hg0 : upd (upd (upd (upd (upd (σ.1 218) 0 0) 8 (nI n)) 5 0) 7 0) 11 0 = g0
  have es : bm_wi (bm_wi (bm_wi (bm_wi (bm_wi σ 218 0 0) 218 8 (nI n)) 218 5 0) 218 7 0) 218 11 0 = bm_row σ 218 g0 := by
    rw [← hg0, bm_wi_def σ, row_wi, row_wi, row_wi, row_wi]
  have k165 := m165 (S := S) (d := d + 41) (σ := bm_row σ 218 g0)
  have e20 : (bm_row σ 218 g0).1 222 = σ.1 222 := bm_row_1n _ _ (by decide)
  rw [e20, bm_row_comm σ g0 _ (by decide)] at k165
  have s0 : bm_call S (d + 42) 191 [.ref 218, .int (nI n)] σ = bm_run S (d + 42) 191 49 [some (.ref 218), some (.int (nI n)), none] [] (st2 σ g0 (plR (σ.1 222))) := by
    simp (decide := true) only [e191, g191_0, bm_run_ite, Option.toList_some, Option.bind_some, Option.toList_some, Option.toList_none, List.cons_append, List.nil_append, List.append_nil, eq_self, not_true_eq_false, not_false_eq_true, ite_true, ite_false, ↓reduceIte, Nat.reduceLT, Nat.reduceEqDiff, Nat.reduceAdd, or_true, true_or, or_false, false_or, e5, c163, bw, g191_16, g191_22, es, k165]
    rfl
  have g7 : g0 7 = nI 0 := by rw [← hg0, upd_n _ _ (by decide), upd_s]; rfl
  have g8 : g0 8 = nI n := by rw [← hg0, upd_n _ _ (by decide), upd_n _ _ (by decide), upd_n _ _ (by decide), upd_s]
  have g11 : g0 11 = 0 := by rw [← hg0, upd_s]
  have g5 : g0 5 = 0 := by rw [← hg0, upd_n _ _ (by decide), upd_n _ _ (by decide), upd_s]
  obtain ⟨g1, k, x6, x7, x9, x10, xo⟩ := m171 (S := S) (d := d + 35) (σ := bm_row σ 222 (plR (σ.1 222))) (s2_tx h) (p := 0) (g := g0) (Nat.zero_le _) g7 g8
  obtain ⟨t1, t2, t3⟩ := tk_v (T := T) (n := n) (p := 0) (g0 10)
  rw [t2] at x6 x7
  rw [t1] at x9
  refine ⟨g1, ?_, ⟨by rw [xo 11 (by decide) (by decide) (by decide) (by decide)]; exact g11, x9, x6, x7, by rw [xo 8 (by decide) (by decide) (by decide) (by decide)]; exact g8, fun hq => by rw [x10]; exact t3 hq⟩, by rw [xo 5 (by decide) (by decide) (by decide) (by decide)]; exact g5⟩
  rw [s0, g191_49]
  replace k : bm_call S (d + 41) 171 [.ref 218] (st2 σ g0 (plR (σ.1 222))) = some (none, st2 σ g1 (plR (σ.1 222))) := k
  simp (decide := true) only [bm_run_ite, Option.toList_some, Option.bind_some, Option.toList_some, Option.toList_none, List.cons_append, List.nil_append, List.append_nil, eq_self, not_true_eq_false, not_false_eq_true, ite_true, ite_false, ↓reduceIte, Nat.reduceLT, Nat.reduceEqDiff, Nat.reduceAdd, or_true, true_or, or_false, false_or, k]
theorem p_fairs (h : RS M L σ) (i : Int32) : PR S (d + 100) 110 191 [.int i] σ := by
  have h0 := h
  obtain ⟨⟨c1, c2', c3⟩, ⟨np, e, p1, p2, p3, p4, p5, p6⟩, im, tr, ⟨t, u1, u2, u3, u4⟩, x1, x2⟩ := h0
  have z0 : (0 : Int32).toInt64 = 0 := by decide
  have bw := inb_bW i 0 (nI t)
  rw [z0] at bw
  have bad : inb i 0 (nI t) = false → ∃ v, v = Value.int (Int32.ofInt (-3)) ∧ ∀ τ, Kp σ τ → ∃ σ2, bm_call S (d + 100) 191 [.ref 218, .int i] τ = some (some v, σ2) ∧ Kp τ σ2 := by
    intro hb
    rw [hb] at bw
    refine ⟨_, rfl, fun τ k => ?_⟩
    have e5 : (bm_wi τ 218 0 0).1 218 5 = nI t := by rw [wi_s, upd_n _ _ (by decide), k.2.1 5 (by omega)]; exact u3
    refine ⟨bm_wi τ 218 0 0, ?_, kp_t0 τ⟩
    simp (decide := true) only [e191, g191_0, bm_run_ite, Option.toList_some, Option.bind_some, Option.toList_some, Option.toList_none, List.cons_append, List.nil_append, List.append_nil, eq_self, not_true_eq_false, not_false_eq_true, ite_true, ite_false, ↓reduceIte, Nat.reduceLT, Nat.reduceEqDiff, Nat.reduceAdd, or_true, true_or, or_false, false_or, e5, c163, bw, bI_itn, Bool.false_eq_true, g191_16, g191_19, bI]
  by_cases hi0 : i < 0
  · have hb : inb i 0 (nI t) = false := by unfold inb; simp [hi0]
    obtain ⟨v, hv, hm⟩ := bad hb
    refine PR.ofk (v := v) h ⟨σ, ?_, Kp.rfl σ⟩ hm
    rw [hv]
    simp (decide := true) only [e110, g110_0, g110_12, bm_run_ite, Option.toList_some, Option.bind_some, Option.toList_some, Option.toList_none, List.cons_append, List.nil_append, List.append_nil, eq_self, not_true_eq_false, not_false_eq_true, ite_true, ite_false, ↓reduceIte, Nat.reduceLT, Nat.reduceEqDiff, Nat.reduceAdd, or_true, true_or, or_false, false_or, hi0]
  obtain ⟨n, hn31, rfl⟩ := nI_of hi0
  by_cases hnt : n ≤ t
  case neg =>
    have nl : ¬ nI n ≤ nI t := nI_ge (by omega) hn31
    have hb : inb (nI n) 0 (nI t) = false := by
      have : nI t < nI n := nI_lt (by omega) hn31
      unfold inb; simp [this]
    obtain ⟨v, hv, hm⟩ := bad hb
    refine PR.ofk (v := v) h ⟨σ, ?_, Kp.rfl σ⟩ hm
    rw [hv]
    simp (decide := true) only [e110, g110_0, g110_4, g110_12, bm_run_ite, Option.toList_some, Option.bind_some, Option.toList_some, Option.toList_none, List.cons_append, List.nil_append, List.append_nil, eq_self, not_true_eq_false, not_false_eq_true, ite_true, ite_false, ↓reduceIte, Nat.reduceLT, Nat.reduceEqDiff, Nat.reduceAdd, or_true, true_or, or_false, false_or, hi0, u2, nl]
  have le : nI n ≤ nI t := nI_le hnt (by omega)
  generalize hT : σ.1 221 = T at *
  have hux : ux T n σ := ⟨by omega, fun i hi => by
    obtain ⟨a, b⟩ := u4 i (by omega)
    obtain ⟨m, m1, m2, m3⟩ := by_ok b
    exact ⟨m, m1, a.symm.trans m2, m2, m3⟩⟩
  have hby : ∀ i, i < n → ∃ k, k < 256 ∧ T i = nI k := fun i hi => by
    obtain ⟨m, m1, m2, _⟩ := hux.2 i hi
    exact ⟨m, m1, m2⟩
  obtain ⟨K, σ1, hK, hKn, kp1, alt⟩ := c45 (S := S) (d := d + 27) hux hby
  generalize hσ2 : bm_wi (bm_wi (bm_wi σ1 0 1 0) 0 2 (σ1.1 25 2)) 0 3 (σ1.1 25 3) = σ2
  have s2n : ∀ a, a ≠ 0 → σ2.1 a = σ1.1 a := fun a ha => by rw [← hσ2, wi_n _ ha, wi_n _ ha, wi_n _ ha]
  have s2z : σ2.1 0 1 = 0 ∧ σ2.1 0 2 = σ1.1 25 2 ∧ σ2.1 0 3 = σ1.1 25 3 := by
    rw [← hσ2]
    refine ⟨?_, ?_, ?_⟩
    · rw [wi_s, upd_n _ _ (by decide), wi_s, upd_n _ _ (by decide), wi_s, upd_s]
    · rw [wi_s, upd_n _ _ (by decide), wi_s, upd_s]
    · rw [wi_s, upd_s]
  have s2x : σ2.2 = σ1.2 := by rw [← hσ2]; rfl
  have w1 : ∀ x, (bm_wi σ1 0 1 x).1 25 2 = σ1.1 25 2 := fun x => by rw [wi_n _ (by decide)]
  have w2 : ∀ x y, (bm_wi (bm_wi σ1 0 1 x) 0 2 y).1 25 3 = σ1.1 25 3 := fun x y => by rw [wi_n _ (by decide), wi_n _ (by decide)]
  have keep2 : ∀ a, ¬ Sc a → a ≠ 218 → a ≠ 0 → σ2.1 a = σ.1 a := fun a a1 a2 a3 => (s2n a a3).trans (kp1.1 a a1 a2)
  rcases alt with ⟨⟨w, j⟩, hz, k1, cf1, cf2⟩ | ⟨j, R, C, hz, k1, ⟨cf1, cf2⟩, cc, cw, gr, hC⟩
  · -- a fault
    replace cf1 : σ1.1 25 2 = w := cf1
    replace cf2 : σ1.1 25 3 = nI (sN T n j) := cf2
    have htx : tx T n σ2 := ⟨by omega, by rw [keep2 221 (by unfold Sc; omega) (by omega) (by omega)]; exact hT, hby⟩
    have h5 : σ2.1 218 5 = nI t := by rw [s2n 218 (by decide), kp1.2.1 5 (by omega)]; exact u3
    obtain ⟨g, r1, m0, g5⟩ := m191s (S := S) (d := d + 58) htx hnt h5 u1
    obtain ⟨g1, r2, r3, fh, lo⟩ := m191r (S := S) (d := d + 58) (r := σ2.1 222) htx hK hKn (o1 := some (.int (nI n))) m0
    rw [hz] at lo
    have r4 := m191e (S := S) (d := d + 58) (σ := σ2) (r := r2) (o1 := some (.int (nI n))) (show MF T n w j g1 from lo)
    generalize hσ3 : st2 σ2 (upd (upd g1 13 w) 14 (nI (sN T n j))) r2 = σ3 at r4
    have s16 : σ3.1 218 = upd (upd g1 13 w) 14 (nI (sN T n j)) := by rw [← hσ3, s2_16]
    have s3n : ∀ a, a ≠ 218 → a ≠ 222 → σ3.1 a = σ2.1 a := fun a a1 a2 => by rw [← hσ3]; unfold st2; rw [bm_row_1n _ _ a1, bm_row_1n _ _ a2]
    refine ⟨.int (Int32.ofInt (-30) - w), σ2, σ3, M, L, ?_, r1.trans (r3.trans r4), h.tp (fun a a1 a2 a3 => (s3n a a2 (by unfold Sc at a1; omega)).trans (keep2 a a1 a2 a3)) (fun a ha => ?_) ?_ ?_ ⟨?_, ?_⟩⟩
    · have q2 : σ2.1 0 2 = w := s2z.2.1.trans cf1
      simp (decide := true) only [e110, g110_0, g110_4, g110_15, bm_run_ite, Option.toList_some, Option.bind_some, Option.toList_some, Option.toList_none, List.cons_append, List.nil_append, List.append_nil, eq_self, not_true_eq_false, not_false_eq_true, ite_true, ite_false, ↓reduceIte, Nat.reduceLT, Nat.reduceEqDiff, Nat.reduceAdd, or_true, true_or, or_false, false_or, hi0, u2, le, k1, g110_27, w1, w2, hσ2, g110_59, q2]
    · rw [← hσ3]; show σ2.2 a = _; rw [s2x]; exact kp1.2.2 a ha
    · rw [s3n 0 (by decide) (by decide)]; exact s2z.1
    · rw [s16, upd_n _ _ (by decide), upd_n _ _ (by decide), fh 5 (by decide) (by decide) (by decide) (by decide) (by decide) (by decide) (by decide)]; exact g5
    · rw [s3n 0 (by decide) (by decide), s2z.2.1, cf1, s16, upd_n _ _ (by decide), upd_s]
    · rw [s3n 0 (by decide) (by decide), s2z.2.2, cf2, s16, upd_s]
  · -- a text
    obtain ⟨σ3, k3, ⟨f3, f3x⟩, w3, w3c⟩ := c2 (S := S) (d := d + 97) (σ := σ2) isB26 isB2 (by omega)
    obtain ⟨σ4, k4, f4, w4⟩ := c77 (S := S) (d := d + 97) (σ := σ3) t29 isW5 (by omega)
    generalize hσ5 : bm_wi σ4 42 2 0 = σ5
    have s5n : ∀ a, a ≠ 42 → σ5.1 a = σ4.1 a := fun a ha => by rw [← hσ5]; exact wi_n _ ha _ _
    have s5k : ∀ a, ¬ Sc a → a ≠ 218 → a ≠ 42 → 12 < a → σ5.1 a = σ.1 a := fun a a1 a2 a3 a4 => by rw [s5n a a3, f4.1 a (by omega), f3 a (by omega) (by omega), keep2 a a1 a2 (by omega)]
    have s5x : ∀ a, a = 211 ∨ a = 213 ∨ a = 215 ∨ a = 217 ∨ a = 237 → σ5.2 a = σ.2 a := fun a ha => by
      rw [← hσ5]
      show σ4.2 a = _
      rw [f4.2, f3x, s2x]
      exact kp1.2.2 a ha
    have s50 : σ5.1 0 = σ2.1 0 := by rw [s5n 0 (by decide), f4.1 0 (by omega), f3 0 (by omega) (by omega)]
    have htx : tx T n σ5 := ⟨by omega, by rw [s5k 221 (by unfold Sc; omega) (by omega) (by omega) (by omega)]; exact hT, hby⟩
    have h5 : σ5.1 218 5 = nI t := by rw [s5n 218 (by decide), f4.1 218 (by omega), f3 218 (by omega) (by omega), s2n 218 (by decide), kp1.2.1 5 (by omega)]; exact u3
    obtain ⟨g, r1, m0, g5⟩ := m191s (S := S) (d := d + 58) htx hnt h5 u1
    obtain ⟨g1, r2, r3, fh, lo⟩ := m191r (S := S) (d := d + 58) (r := σ5.1 222) htx hK hKn (o1 := some (.int (nI n))) m0
    rw [hz] at lo
    obtain ⟨mt, cd, rl⟩ := lo
    obtain ⟨M1, L1, ⟨q1, q2, q3, q4⟩, _⟩ := id gr.1
    have cL : cN (R 25) = L1 := by rw [q4]; exact cN_nI (by omega)
    obtain ⟨g2, r4, y13, y14, yo⟩ := m191f (S := S) (d := d + 58) (σ := σ5) (r := r2) (g := g1) (o1 := some (.int (nI n))) q2 (by rw [rl 25 (by omega)]; exact q4) mt.1
    generalize hp : (fun k => if 68 ≤ k ∧ k < 68 + L1 then r2 k + r2 22 else r2 k) = p at *
    have plo : ∀ k, k < 793 → p k = dsR R k := fun k hk => by
      rw [← hp]
      show (if 68 ≤ k ∧ k < 68 + L1 then r2 k + r2 22 else r2 k) = dsR R k
      unfold dsR
      rw [cL, rl k hk, rl 22 (by omega)]
    have phi : ∀ k, 793 ≤ k → p k = r2 k := fun k hk => by
      rw [← hp]
      show (if 68 ≤ k ∧ k < 68 + L1 then r2 k + r2 22 else r2 k) = r2 k
      rw [if_neg (by omega)]
    have e17 : σ5.1 219 = σ.1 219 := s5k 219 (by unfold Sc; omega) (by omega) (by omega) (by omega)
    generalize hB : taR (σ5.1 219) p = B at *
    have Blo : ∀ k, k < 793 → B k = dsR R k := fun k hk => by rw [← hB]; unfold taR; rw [if_pos (by omega)]; exact plo k hk
    have Bcd : ∀ m, m < C.length → B (794 + m) = C.getD m 0 := fun m hm => by rw [← hB]; unfold taR; rw [if_pos (by omega), phi _ (by omega)]; exact cd.2 m hm
    have Bbig : ∀ k, 1694 ≤ k → B k = σ.1 219 k := fun k hk => by rw [← hB]; unfold taR; rw [if_neg (by omega), e17]
    obtain ⟨M2, L2, ok, rw29, bk26⟩ := gr.okb (by omega) Blo Bcd (σ := σ1) cw cc
    have lwB : LW B := ok.1.1.1
    have rw2 : RW M2 L2 σ3 29 B := rw29.of (fun a a1 a2 => by rw [f3 a (by omega) (by omega), s2n a (by omega)])
    have rw5 : RW M2 L2 σ4 5 B := w4 rw2
    have bk26' : BK σ2 26 B := bk26.of (s2n 26 (by decide)) (s2n 27 (by decide))
    have bk2 : BK σ3 2 B := bk26'.copy lwB w3 w3c isB2
    have bk2' : BK σ4 2 B := bk2.of (f4.1 _ (by omega)) (f4.1 _ (by omega))
    generalize hσ6 : bm_row (st2 σ5 g2 p) 219 B = σ6 at r4
    have s6n : ∀ a, a ≠ 218 → a ≠ 219 → a ≠ 222 → σ6.1 a = σ5.1 a := fun a a1 a2 a3 => by rw [← hσ6, bm_row_1n _ _ a2]; unfold st2; rw [bm_row_1n _ _ a1, bm_row_1n _ _ a3]
    have s617 : σ6.1 219 = B := by rw [← hσ6, bm_row_1s]
    have s616 : σ6.1 218 = g2 := by rw [← hσ6, bm_row_1n _ _ (by decide), s2_16]
    have r20 : r2 0 = R 0 := rl 0 (by omega)
    have b20 : σ5.1 2 2 = R 0 := by
      rw [s5n 2 (by decide), bk2'.2.1.2.2, Blo 0 (by omega), ds_n (by omega) (by omega)]
    refine ⟨.int (r2 0), σ5, σ6, M2, L2, ?_, r1.trans (r3.trans r4), RS.new h (fun a a1 a2 a3 a4 a5 => (s6n a a2 a3 (by unfold Sc at a1; omega)).trans (s5k a a1 a2 a4 a5)) (fun a ha => ?_) (fun k hk => by rw [s617]; exact Bbig k hk) ⟨by rw [s617]; exact ok, ?_, ?_⟩ ?_ ?_ ?_ ?_ ?_ ⟨?_, ?_⟩⟩
    · have k40 : ∀ τ, bm_call S (d + 99) 40 [.ref 42] τ = some (none, bm_wi τ 42 2 0) := fun τ => by rw [e40, g40_0]
      simp (decide := true) only [e110, g110_0, g110_4, g110_15, bm_run_ite, Option.toList_some, Option.bind_some, Option.toList_some, Option.toList_none, List.cons_append, List.nil_append, List.append_nil, eq_self, not_true_eq_false, not_false_eq_true, ite_true, ite_false, ↓reduceIte, Nat.reduceLT, Nat.reduceEqDiff, Nat.reduceAdd, or_true, true_or, or_false, false_or, hi0, u2, le, k1, g110_27, w1, w2, hσ2, g110_67, k3, g110_81, k4, g110_95, k40, hσ5, g110_102, b20, r20]
    · rw [← hσ6]; show σ5.2 a = _; exact s5x a ha
    · rw [s617]; exact rw5.of (fun a a1 a2 => by rw [s6n a (by omega) (by omega) (by omega), s5n a (by omega)])
    · rw [s617]; exact bk2'.of (by rw [s6n 2 (by omega) (by omega) (by omega), s5n 2 (by omega)]) (by rw [s6n 3 (by omega) (by omega) (by omega), s5n 3 (by omega)])
    · rw [s617, Blo 92 (by omega), ds_n (by omega) (by omega)]; exact gr.2.1.1.2.2
    · rw [s6n 42 (by omega) (by omega) (by omega), ← hσ5, wi_s, upd_s]
    · rw [s6n 42 (by omega) (by omega) (by omega), ← hσ5, wi_s, upd_n _ _ (by decide), f4.1 42 (by omega), f3 42 (by omega) (by omega), keep2 42 (by unfold Sc; omega) (by omega) (by omega)]
    · rw [s6n 0 (by omega) (by omega) (by omega), s50]; exact s2z.1
    · rw [s616, yo 5 (by decide) (by decide), fh 5 (by decide) (by decide) (by decide) (by decide) (by decide) (by decide) (by decide)]; exact g5
    · rw [s6n 0 (by omega) (by omega) (by omega), s50, s616, s2z.2.1, y13]; exact cf1
    · rw [s6n 0 (by omega) (by omega) (by omega), s50, s616, s2z.2.2, y14]; exact cf2
end FAIRS
