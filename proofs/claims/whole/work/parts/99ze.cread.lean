/-! the class reads a whole text -/
/-- a row as it is before the first word -/
def R00 : Nat → Int32 := fun k => if k = 1 ∨ k = 2 then 1 else 0
/-- fairs, how many, moneys, how many -/
def hd4 (q : Nat → Nat) (v : Nat → Int32) : xzR := nmx q v 1 4 (tkx q 1 (nmx q v 1 6 (tkx q 0 (Sum.inl 0))))
def hdz (q : Nat → Nat) (v : Nat → Int32) : lnR :=
  match hd4 q v with
  | Sum.inl j => edz q (Sum.inl (j, upd (upd R00 1 (v 1)) 2 (v 3), []))
  | Sum.inr e => Sum.inr e
/-- a text: the row and its code, or a fault -/
def rdz (q : Nat → Nat) (v : Nat → Int32) (K : Nat) : lnR :=
  match hdz q v with
  | Sum.inl (j, R, C) => lsz q v K (K + 1) j R C
  | Sum.inr e => Sum.inr e
/-- the letters' fairs, counted from the first fair -/
def dsR (R : Nat → Int32) : Nat → Int32 := fun k => if 68 ≤ k ∧ k < 68 + cN (R 25) then R k + R 22 else R k
theorem ds_n {R : Nat → Int32} {k : Nat} (h : k < 68 ∨ 80 ≤ k) (hL : cN (R 25) ≤ 12) : dsR R k = R k := by
  unfold dsR
  rw [if_neg (by omega)]
theorem hd4_l {q : Nat → Nat} {v : Nat → Int32} {j : Nat} (h : hd4 q v = Sum.inl j) : j = 4 ∧ q 1 = 20 ∧ q 3 = 20 ∧ inb (v 1) 1 6 = true ∧ inb (v 3) 1 4 = true := by
  unfold hd4 at h
  obtain ⟨i3, e3, ej, q3, n3⟩ := nmx_l h
  obtain ⟨i2, e2, ej2, q2⟩ := tkx_l e3
  obtain ⟨i1, e1, ej1, q1, n1⟩ := nmx_l e2
  obtain ⟨i0, e0, ej0, q0⟩ := tkx_l e1
  have : 0 = i0 := Sum.inl.inj e0
  subst this
  subst ej0
  subst ej1
  subst ej2
  exact ⟨ej, q1, q3, n1, n3⟩
theorem GR_hd {q : Nat → Nat} {v : Nat → Int32} {j : Nat} {R : Nat → Int32} {C : List Int32} (h : hdz q v = Sum.inl (j, R, C)) : j = 5 ∧ C = [] ∧ GR R C := by
  unfold hdz at h
  cases hx : hd4 q v with
  | inr e => rw [hx] at h; cases h
  | inl i =>
    obtain ⟨e4, _, _, n1, n3⟩ := hd4_l hx
    rw [hx] at h
    change (if q i = 23 then Sum.inl (i + 1, upd (upd (upd R00 1 (v 1)) 2 (v 3)) 0 (upd (upd R00 1 (v 1)) 2 (v 3) 0 + 1), []) else Sum.inr (if q i = 22 then 1 else 2, i) : lnR) = Sum.inl (j, R, C) at h
    by_cases q23 : q i = 23
    · rw [if_pos q23] at h
      have e := Sum.inl.inj h
      have e1 : i + 1 = j := congrArg Prod.fst e
      have e2 := congrArg (fun z => z.2.1) e
      have e3 : [] = C := congrArg (fun z => z.2.2) e
      simp only at e2
      obtain ⟨f, f1, f2, f3⟩ := inb1 (m := 6) (by decide) n1
      obtain ⟨m, m1, m2, m3⟩ := inb1 (m := 4) (by decide) n3
      subst e1 e2 e3
      have n : ∀ k, k ≠ 0 → k ≠ 1 → k ≠ 2 → upd (upd (upd R00 1 (v 1)) 2 (v 3)) 0 (upd (upd R00 1 (v 1)) 2 (v 3) 0 + 1) k = 0 := fun k h0 h1 h2 => by
        rw [upd_n _ _ h0, upd_n _ _ h2, upd_n _ _ h1]
        unfold R00
        rw [if_neg (by omega)]
      refine ⟨by omega, rfl, ⟨0, 0, ⟨by omega, by omega, n 3 (by decide) (by decide) (by decide), n 25 (by decide) (by decide) (by decide)⟩, fun l hl => absurd hl (by omega), fun l hl => absurd hl (by omega), fun l hl => absurd hl (by omega), fun l hl => absurd hl (by omega), fun l _ _ => n _ (by omega) (by omega) (by omega)⟩, ⟨⟨n 23 (by decide) (by decide) (by decide), n 24 (by decide) (by decide) (by decide), n 92 (by decide) (by decide) (by decide)⟩, fun l _ => n _ (by omega) (by omega) (by omega)⟩, ⟨⟨f, f1, f2, ?_⟩, ⟨m, m1, m2, ?_⟩⟩, fun z => absurd (n 4 (by decide) (by decide) (by decide)) z, fun z => absurd (n 5 (by decide) (by decide) (by decide)) z⟩
      · rw [upd_n _ _ (by decide), upd_n _ _ (by decide), upd_s]; exact f3
      · rw [upd_n _ _ (by decide), upd_s]; exact m3
    · rw [if_neg q23] at h; cases h
theorem hd_K {q : Nat → Nat} {v : Nat → Int32} {K : Nat} (hK : tkK q K) {R : Nat → Int32} {C : List Int32} (hx : hdz q v = Sum.inl (5, R, C)) : 5 ≤ K := by
  unfold hdz at hx
  cases hy : hd4 q v with
  | inr e => rw [hy] at hx; cases hx
  | inl i =>
    obtain ⟨i4, _⟩ := hd4_l hy
    rw [hy] at hx
    subst i4
    change (if q 4 = 23 then Sum.inl (4 + 1, upd (upd (upd R00 1 (v 1)) 2 (v 3)) 0 (upd (upd R00 1 (v 1)) 2 (v 3) 0 + 1), []) else Sum.inr (if q 4 = 22 then 1 else 2, 4) : lnR) = Sum.inl (5, R, C) at hx
    by_cases q23 : q 4 = 23
    · unfold hd4 at hy
      obtain ⟨i3, e3, ej3, q3, _⟩ := nmx_l hy
      obtain ⟨i2, e2, ej2, q2⟩ := tkx_l e3
      obtain ⟨i1, e1, ej1, q1, _⟩ := nmx_l e2
      obtain ⟨i0, e0, ej0, q0⟩ := tkx_l e1
      have : 0 = i0 := Sum.inl.inj e0
      have w0 := lt_K hK (show i0 ≤ K by omega) (by rw [q0]; decide)
      have w1 := lt_K hK (show i1 ≤ K by omega) (by rw [q1]; decide)
      have w2 := lt_K hK (show i2 ≤ K by omega) (by rw [q2]; decide)
      have w3 := lt_K hK (show i3 ≤ K by omega) (by rw [q3]; decide)
      have w4 := lt_K hK (show 4 ≤ K by omega) (by rw [q23]; decide)
      omega
    · rw [if_neg q23] at hx; cases hx
/-- the book's first words change, no more -/
theorem CWR.bk {R Q : Nat → Int32} {σ τ : bm_S} (h : CWR R σ) (w : ∀ a, 29 ≤ a → a ≤ 36 → τ.1 a = σ.1 a) (e : ∀ k, k ≠ 0 → k ≠ 1 → k ≠ 2 → Q k = R k) (b : τ.1 26 0 = Q 1 ∧ τ.1 26 1 = Q 2 ∧ τ.1 26 2 = Q 0) (c : ∀ k, 5 ≤ k → τ.1 26 k = σ.1 26 k) : CWR Q τ := by
  obtain ⟨M, L, ⟨a1, a2, a3, a4⟩, ⟨b1, b2, b3, b4, b5⟩, g1, g2, g3, g4, g5, g6, g7⟩ := h
  refine ⟨M, L, ⟨a1, a2, by rw [e 3 (by omega) (by omega) (by omega)]; exact a3, by rw [e 25 (by omega) (by omega) (by omega)]; exact a4⟩, ⟨by rw [w 29 (by omega) (by omega)]; exact b1, by rw [w 29 (by omega) (by omega)]; exact b2, by rw [w 29 (by omega) (by omega)]; exact b3, by rw [w 29 (by omega) (by omega), e 22 (by omega) (by omega) (by omega)]; exact b4, by rw [w 29 (by omega) (by omega)]; exact b5⟩, fun m hm => by rw [w 30 (by omega) (by omega), e _ (by omega) (by omega) (by omega)]; exact g1 m hm, fun l hl => ?_, b, ?_, ?_, ?_, ?_⟩
  · rw [w 31 (by omega) (by omega), w 32 (by omega) (by omega), w 33 (by omega) (by omega), w 34 (by omega) (by omega), w 35 (by omega) (by omega), w 36 (by omega) (by omega), e _ (by omega) (by omega) (by omega), e _ (by omega) (by omega) (by omega), e _ (by omega) (by omega) (by omega), e _ (by omega) (by omega) (by omega), e _ (by omega) (by omega) (by omega), e _ (by omega) (by omega) (by omega)]
    exact g2 l hl
  · rw [c 5 (by omega), c 6 (by omega), e 4 (by omega) (by omega) (by omega)]; exact g4
  · rw [c 5 (by omega), c 6 (by omega), e 4 (by omega) (by omega) (by omega), e 6 (by omega) (by omega) (by omega), e 8 (by omega) (by omega) (by omega)]; exact g5
  · rw [c 7 (by omega), c 8 (by omega), e 5 (by omega) (by omega) (by omega)]; exact g6
  · rw [c 7 (by omega), c 8 (by omega), e 5 (by omega) (by omega) (by omega), e 7 (by omega) (by omega) (by omega), e 9 (by omega) (by omega) (by omega)]; exact g7
section CREAD
variable {S : am_S} {d : Nat} {σ : bm_S} {T : Nat → Int32} {n K : Nat} {R : Nat → Int32} {C : List Int32}
theorem ClT.w26 {i : Nat} (c : ClT T n K i σ) (k : Nat) (x : Int32) : ClT T n K i (bm_wi σ 26 k x) := ⟨TAx_w c.1 (fun b _ => by rw [wi_n _ (by decide)]) (fun a ha => wi_n _ (by omega) _ _), by rw [wi_n _ (by decide)]; exact c.2.1, by rw [wi_n _ (by decide)]; exact c.2.2⟩
theorem ClC.w26 (c : ClC C σ) {k : Nat} (hk : k ≠ 4) (x : Int32) : ClC C (bm_wi σ 26 k x) := ⟨by rw [wi_s, upd_n _ _ (fun z => hk z.symm)]; exact c.1, fun m hm => by rw [wi_n _ (by decide)]; exact c.2 m hm⟩
/-- fairs and moneys, in the class -/
theorem c55 (hK : tkK (qN T n) K) (hKn : K ≤ 900) (c : ClT T n K 0 σ) (cc : ClC [] σ) (w : CWR R00 σ) : ∃ b σ1, bm_call S (d + 3) 55 [.ref 25] σ = some (some (.int b), σ1) ∧ Fln σ σ1 ∧ LCO T n K (hdz (qN T n) (vN T n)) b σ1 := by
  have kv : kcT 0 = 201 ∧ kcT 1 = 202 ∧ kcT 23 = 59 := by decide +kernel
  obtain ⟨v0, v1, v23⟩ := kv
  obtain ⟨b1, σ1, k1, f1, x1, y1⟩ := c53x (S := S) (d := d + 1) hK hKn (Nat.zero_le _) (w := 0) (by decide) (by decide) c
  rw [v0] at k1
  have s0 : bm_call S (d + 3) 55 [.ref 25] σ = bm_run S (d + 3) 55 7 [some (.ref 25)] [.int b1] σ1 := by
    simp (decide := true) only [e55, g55_0, bm_run_ite, Option.toList_some, Option.bind_some, Option.toList_some, Option.toList_none, List.cons_append, List.nil_append, List.append_nil, eq_self, not_true_eq_false, not_false_eq_true, ite_true, ite_false, ↓reduceIte, Nat.reduceLT, Nat.reduceEqDiff, Nat.reduceAdd, or_true, true_or, or_false, false_or, k1]
  cases h1 : tkx (qN T n) 0 (Sum.inl 0) with
  | inr e =>
    rw [h1] at x1
    obtain ⟨rfl, x1f⟩ := (show b1 = 0 ∧ ClF T n e.1 e.2 σ1 from x1)
    refine ⟨0, σ1, s0.trans ?_, f1.ln, ?_⟩
    · rw [g55_7]; simp (decide := true) only [bm_run_ite, Option.toList_some, Option.bind_some, Option.toList_some, Option.toList_none, List.cons_append, List.nil_append, List.append_nil, eq_self, not_true_eq_false, not_false_eq_true, ite_true, ite_false, ↓reduceIte, Nat.reduceLT, Nat.reduceEqDiff, Nat.reduceAdd, or_true, true_or, or_false, false_or, g55_20]
    · unfold hdz hd4; rw [h1]; exact ⟨rfl, x1f⟩
  | inl j1 =>
  obtain ⟨c1, j1K⟩ := tkx_K hK (by decide) (Nat.zero_le _) h1
  subst c1
  rw [h1] at x1
  obtain ⟨rfl, x1⟩ := x1
  obtain ⟨y1, z1, _⟩ := y1 rfl
  obtain ⟨b2, σ2, k2, f2, x2, _, y2⟩ := c54 (S := S) (d := d + 1) hK hKn (lo := 1) (up := 6) j1K x1
  have s1 : bm_call S (d + 3) 55 [.ref 25] σ = bm_run S (d + 3) 55 17 [some (.ref 25)] [.int b2] σ2 := by
    rw [s0, g55_7]; simp (decide := true) only [bm_run_ite, Option.toList_some, Option.bind_some, Option.toList_some, Option.toList_none, List.cons_append, List.nil_append, List.append_nil, eq_self, not_true_eq_false, not_false_eq_true, ite_true, ite_false, ↓reduceIte, Nat.reduceLT, Nat.reduceEqDiff, Nat.reduceAdd, or_true, true_or, or_false, false_or, g55_10, k2]
  cases h2 : nmx (qN T n) (vN T n) 1 6 (Sum.inl (0 + 1)) with
  | inr e =>
    rw [h2] at x2
    obtain ⟨rfl, x2f⟩ := (show b2 = 0 ∧ ClF T n e.1 e.2 σ2 from x2)
    refine ⟨0, σ2, s1.trans ?_, (f1.tr f2).ln, ?_⟩
    · rw [g55_17]; simp (decide := true) only [bm_run_ite, Option.toList_some, Option.bind_some, Option.toList_some, Option.toList_none, List.cons_append, List.nil_append, List.append_nil, eq_self, not_true_eq_false, not_false_eq_true, ite_true, ite_false, ↓reduceIte, Nat.reduceLT, Nat.reduceEqDiff, Nat.reduceAdd, or_true, true_or, or_false, false_or, g55_20]
    · unfold hdz hd4; rw [h1, h2]; exact ⟨rfl, x2f⟩
  | inl j2 =>
  obtain ⟨c2, j2K⟩ := nmx_K hK j1K h2
  subst c2
  rw [h2] at x2
  obtain ⟨rfl, x2⟩ := x2
  obtain ⟨y2, z2, u2⟩ := y2 rfl
  have w2 : CWR (upd R00 1 (vN T n 1)) (bm_wi σ2 26 0 (vN T n 1)) := by
    have w' := (w.rd f1).rd f2
    refine w'.bk (fun a h1 _ => wi_n _ (by omega) _ _) (fun k _ h1 _ => upd_n _ _ h1) ⟨?_, ?_, ?_⟩ (fun k hk => by rw [wi_s, upd_n _ _ (by omega)])
    · rw [wi_s, upd_s, upd_s]
    · rw [wi_s, upd_n _ _ (by decide), upd_n _ _ (by decide)]
      obtain ⟨_, _, _, _, _, _, g, _⟩ := w'
      exact g.2.1
    · rw [wi_s, upd_n _ _ (by decide), upd_n _ _ (by decide)]
      obtain ⟨_, _, _, _, _, _, g, _⟩ := w'
      exact g.2.2
  have cc2 : ClC [] (bm_wi σ2 26 0 (vN T n 1)) := (((cc.rd f1 (by rw [y1]) z1).rd f2 (by rw [y2]) z2)).w26 (by decide) _
  obtain ⟨b3, σ3, k3, f3, x3, y3⟩ := c53x (S := S) (d := d + 1) hK hKn j2K (w := 1) (by decide) (by decide) (x2.w26 0 (vN T n 1))
  rw [v1] at k3
  have s2 : bm_call S (d + 3) 55 [.ref 25] σ = bm_run S (d + 3) 55 40 [some (.ref 25)] [.int b3] σ3 := by
    rw [s1, g55_17]; simp (decide := true) only [bm_run_ite, Option.toList_some, Option.bind_some, Option.toList_some, Option.toList_none, List.cons_append, List.nil_append, List.append_nil, eq_self, not_true_eq_false, not_false_eq_true, ite_true, ite_false, ↓reduceIte, Nat.reduceLT, Nat.reduceEqDiff, Nat.reduceAdd, or_true, true_or, or_false, false_or, g55_22, u2, k3]
  have fl2 : Fln σ (bm_wi σ2 26 0 (vN T n 1)) := (f1.tr f2).ln.wi (by omega) _ _
  cases h3 : tkx (qN T n) 1 (Sum.inl (0 + 1 + 1)) with
  | inr e =>
    rw [h3] at x3
    obtain ⟨rfl, x3f⟩ := (show b3 = 0 ∧ ClF T n e.1 e.2 σ3 from x3)
    refine ⟨0, σ3, s2.trans ?_, fl2.tr f3.ln, ?_⟩
    · rw [g55_40]; simp (decide := true) only [bm_run_ite, Option.toList_some, Option.bind_some, Option.toList_some, Option.toList_none, List.cons_append, List.nil_append, List.append_nil, eq_self, not_true_eq_false, not_false_eq_true, ite_true, ite_false, ↓reduceIte, Nat.reduceLT, Nat.reduceEqDiff, Nat.reduceAdd, or_true, true_or, or_false, false_or, g55_52]
    · unfold hdz hd4; rw [h1, h2, h3]; exact ⟨rfl, x3f⟩
  | inl j3 =>
  obtain ⟨c3, j3K⟩ := tkx_K hK (by decide) j2K h3
  subst c3
  rw [h3] at x3
  obtain ⟨rfl, x3⟩ := x3
  obtain ⟨y3, z3, _⟩ := y3 rfl
  obtain ⟨b4, σ4, k4, f4, x4, _, y4⟩ := c54 (S := S) (d := d + 1) hK hKn (lo := 1) (up := 4) j3K x3
  have s3 : bm_call S (d + 3) 55 [.ref 25] σ = bm_run S (d + 3) 55 49 [some (.ref 25)] [.int b4] σ4 := by
    rw [s2, g55_40]; simp (decide := true) only [bm_run_ite, Option.toList_some, Option.bind_some, Option.toList_some, Option.toList_none, List.cons_append, List.nil_append, List.append_nil, eq_self, not_true_eq_false, not_false_eq_true, ite_true, ite_false, ↓reduceIte, Nat.reduceLT, Nat.reduceEqDiff, Nat.reduceAdd, or_true, true_or, or_false, false_or, g55_43, k4]
  have fl4 := fl2.tr (f3.tr f4).ln
  cases h4 : nmx (qN T n) (vN T n) 1 4 (Sum.inl (0 + 1 + 1 + 1)) with
  | inr e =>
    rw [h4] at x4
    obtain ⟨rfl, x4f⟩ := (show b4 = 0 ∧ ClF T n e.1 e.2 σ4 from x4)
    refine ⟨0, σ4, s3.trans ?_, fl4, ?_⟩
    · rw [g55_49]; simp (decide := true) only [bm_run_ite, Option.toList_some, Option.bind_some, Option.toList_some, Option.toList_none, List.cons_append, List.nil_append, List.append_nil, eq_self, not_true_eq_false, not_false_eq_true, ite_true, ite_false, ↓reduceIte, Nat.reduceLT, Nat.reduceEqDiff, Nat.reduceAdd, or_true, true_or, or_false, false_or, g55_52]
    · unfold hdz hd4; rw [h1, h2, h3, h4]; exact ⟨rfl, x4f⟩
  | inl j4 =>
  obtain ⟨c4, j4K⟩ := nmx_K hK j3K h4
  subst c4
  rw [h4] at x4
  obtain ⟨rfl, x4⟩ := x4
  obtain ⟨y4, z4, u4⟩ := y4 rfl
  have eh : hd4 (qN T n) (vN T n) = Sum.inl 4 := by unfold hd4; rw [h1, h2, h3, h4]
  have w3 := (w2.rd f3).rd f4
  have cc4 := (((cc2.rd f3 (by rw [y3]) z3).rd f4 (by rw [y4]) z4).w26 (k := 1) (by decide) (vN T n 3)).w26 (k := 2) (by decide) 1
  obtain ⟨b5, σ5, k5, f5, x5, y5⟩ := c53x (S := S) (d := d + 1) hK hKn j4K (w := 23) (by decide) (by decide) ((x4.w26 1 (vN T n 3)).w26 2 1)
  rw [v23] at k5
  have s4 : bm_call S (d + 3) 55 [.ref 25] σ = bm_run S (d + 3) 55 79 [some (.ref 25)] [.int b5] σ5 := by
    rw [s3, g55_49]; simp (decide := true) only [bm_run_ite, Option.toList_some, Option.bind_some, Option.toList_some, Option.toList_none, List.cons_append, List.nil_append, List.append_nil, eq_self, not_true_eq_false, not_false_eq_true, ite_true, ite_false, ↓reduceIte, Nat.reduceLT, Nat.reduceEqDiff, Nat.reduceAdd, or_true, true_or, or_false, false_or, g55_54, u4, k5]
  have fl5 : Fln σ σ5 := ((fl4.wi (by omega) _ _).wi (by omega) _ _).tr f5.ln
  have r0 : upd (upd R00 1 (vN T n 1)) 2 (vN T n 3) 0 + 1 = 1 := by rw [upd_n _ _ (by decide), upd_n _ _ (by decide)]; decide
  have w4 : CWR (upd (upd (upd R00 1 (vN T n 1)) 2 (vN T n 3)) 0 1) (bm_wi (bm_wi σ4 26 1 (vN T n 3)) 26 2 1) := by
    refine w3.bk (fun a h1 _ => by rw [wi_n _ (by omega), wi_n _ (by omega)]) (fun k h0 h1 h2 => by rw [upd_n _ _ h0, upd_n _ _ h2]) ⟨?_, ?_, ?_⟩ (fun k hk => by rw [wi_s, upd_n _ _ (by omega), wi_s, upd_n _ _ (by omega)])
    · rw [wi_s, upd_n _ _ (by decide), wi_s, upd_n _ _ (by decide), upd_n _ _ (by decide), upd_n _ _ (by decide)]
      obtain ⟨_, _, _, _, _, _, g, _⟩ := w3
      exact g.1
    · rw [wi_s, upd_n _ _ (by decide), wi_s, upd_s, upd_n _ _ (by decide), upd_s]
    · rw [wi_s, upd_s, upd_s]
  have ez : hdz (qN T n) (vN T n) = if qN T n 4 = 23 then Sum.inl (5, upd (upd (upd R00 1 (vN T n 1)) 2 (vN T n 3)) 0 1, []) else Sum.inr (if qN T n 4 = 22 then 1 else 2, 4) := by
    unfold hdz
    rw [eh]
    show (if qN T n 4 = 23 then Sum.inl (4 + 1, upd (upd (upd R00 1 (vN T n 1)) 2 (vN T n 3)) 0 (upd (upd R00 1 (vN T n 1)) 2 (vN T n 3) 0 + 1), []) else Sum.inr (if qN T n 4 = 22 then 1 else 2, 4) : lnR) = _
    rw [r0]
  rw [ez]
  change CX T n K (if qN T n 4 = 23 then Sum.inl (4 + 1) else rfx (qN T n) 4 2) b5 σ5 at x5
  by_cases q23 : qN T n 4 = 23
  · rw [if_pos q23] at x5 ⊢
    obtain ⟨rfl, x5⟩ := x5
    obtain ⟨y5, z5, _⟩ := y5 rfl
    refine ⟨1, σ5, s4.trans ?_, fl5, rfl, x5, cc4.rd f5 (by rw [y5]) z5, w4.rd f5⟩
    rw [g55_79]; simp (decide := true) only [bm_run_ite, Option.toList_some, Option.bind_some, Option.toList_some, Option.toList_none, List.cons_append, List.nil_append, List.append_nil, eq_self, not_true_eq_false, not_false_eq_true, ite_true, ite_false, ↓reduceIte, Nat.reduceLT, Nat.reduceEqDiff, Nat.reduceAdd, or_true, true_or, or_false, false_or]
  · rw [if_neg q23] at x5 ⊢
    obtain ⟨rfl, x5⟩ := x5
    refine ⟨0, σ5, s4.trans ?_, fl5, rfl, x5⟩
    rw [g55_79]; simp (decide := true) only [bm_run_ite, Option.toList_some, Option.bind_some, Option.toList_some, Option.toList_none, List.cons_append, List.nil_append, List.append_nil, eq_self, not_true_eq_false, not_false_eq_true, ite_true, ite_false, ↓reduceIte, Nat.reduceLT, Nat.reduceEqDiff, Nat.reduceAdd, or_true, true_or, or_false, false_or]
/-- line by line, in the class -/
theorem c45l (hK : tkK (qN T n) K) (hKn : K ≤ 900) (hN : ∀ i, qN T n i = 20 → ∃ k, k < 1000 ∧ vN T n i = nI k) {o1 : Option Value} : ∀ f i R C σ cnt o2 o4, K + 1 ≤ i + f → cnt ≤ i → RK K i R C → GR R C → ClT T n K i σ → ClC C σ → CWR R σ → ∃ σ1, Fln σ σ1 ∧ ((∃ e, lsz (qN T n) (vN T n) K f i R C = Sum.inr e ∧ bm_run S (d + 72) 45 55 [some (.ref 25), o1, o2, some (.int (nI cnt)), o4] [] σ = some (some (.int 0), σ1) ∧ ClF T n e.1 e.2 σ1) ∨ ∃ j R2 C2 o2' o3 o4', lsz (qN T n) (vN T n) K f i R C = Sum.inl (j, R2, C2) ∧ bm_run S (d + 72) 45 55 [some (.ref 25), o1, o2, some (.int (nI cnt)), o4] [] σ = bm_run S (d + 72) 45 213 [some (.ref 25), o1, o2', o3, o4'] [] σ1 ∧ ClT T n K j σ1 ∧ ClC C2 σ1 ∧ CWR R2 σ1 ∧ GR R2 C2 ∧ C2.length ≤ K) := by
  have v21 : kcT 21 = 0 ∧ kcT 23 = 59 := by decide +kernel
  obtain ⟨v21, v23⟩ := v21
  have hv : ∀ i, i ≤ K → qN T n i = 20 → trI (vN T n i) = vN T n i := fun i _ hq => by
    obtain ⟨k, hk, ek⟩ := hN i hq
    rw [ek]; exact tr_n hk
  intro f
  induction f with
  | zero => intro i R C σ cnt o2 o4 hf _ k; have := k.2.2.2; omega
  | succ f ih =>
    intro i R C σ cnt o2 o4 hf hc k g c cc w
    have iK := k.2.2.2
    have e7 : σ.1 25 7 = nI (K + 1) := c.1.1.1
    have e9 := c.2.2
    have nle : ¬ nI (K + 1) ≤ nI cnt := nI_ge (by omega) (by omega)
    rw [lsz]
    by_cases q : qN T n i = 21
    · rw [q, v21] at e9
      rw [if_pos q]
      refine ⟨σ, Fln.rfl σ, Or.inr ⟨i, R, C, o2, some (.int (nI cnt)), o4, rfl, ?_, c, cc, w, g, by have := k.2.2.1; omega⟩⟩
      rw [g45_55]
      simp (decide := true) only [bm_run_ite, Option.toList_some, Option.bind_some, Option.toList_some, Option.toList_none, List.cons_append, List.nil_append, List.append_nil, eq_self, not_true_eq_false, not_false_eq_true, ite_true, ite_false, ↓reduceIte, Nat.reduceLT, Nat.reduceEqDiff, Nat.reduceAdd, or_true, true_or, or_false, false_or, e7, nle, g45_63, e9]
    · have n9 : ¬ σ.1 25 9 = 0 := by rw [e9, ← v21]; exact fun z => q ((kc_inj _ q_lt 21 (by decide)).mp z)
      rw [if_neg q]
      obtain ⟨b, σ1, k1, f1, ox⟩ := c45d (S := S) (d := d) hK hKn hv (o1 := o1) (o2 := o2) (o4 := o4) (i3 := nI cnt) k q c cc w g.2.1.2
      have st : bm_run S (d + 72) 45 55 [some (.ref 25), o1, o2, some (.int (nI cnt)), o4] [] σ = bm_run S (d + 72) 45 178 [some (.ref 25), o1, o2, some (.int (nI cnt)), some (.int b)] [] σ1 := by
        rw [← k1, g45_55]
        simp (decide := true) only [bm_run_ite, Option.toList_some, Option.bind_some, Option.toList_some, Option.toList_none, List.cons_append, List.nil_append, List.append_nil, eq_self, not_true_eq_false, not_false_eq_true, ite_true, ite_false, ↓reduceIte, Nat.reduceLT, Nat.reduceEqDiff, Nat.reduceAdd, or_true, true_or, or_false, false_or, e7, nle, g45_63, n9]
      cases hx : lnz (qN T n) (vN T n) K i R C with
      | inr e =>
        rw [hx] at ox
        obtain ⟨rfl, x1⟩ := (show b = 0 ∧ ClF T n e.1 e.2 σ1 from ox)
        refine ⟨σ1, f1, Or.inl ⟨e, rfl, st.trans ?_, x1⟩⟩
        rw [g45_178]
        simp (decide := true) only [bm_run_ite, Option.toList_some, Option.bind_some, Option.toList_some, Option.toList_none, List.cons_append, List.nil_append, List.append_nil, eq_self, not_true_eq_false, not_false_eq_true, ite_true, ite_false, ↓reduceIte, Nat.reduceLT, Nat.reduceEqDiff, Nat.reduceAdd, or_true, true_or, or_false, false_or, g45_192]
      | inl p =>
        obtain ⟨j, R2, C2⟩ := p
        rw [hx] at ox
        obtain ⟨rfl, x1, x2, x3⟩ := ox
        obtain ⟨kp1, kp2⟩ := lnz_keep hK k q hx
        have g2 := g.ln hN hx
        obtain ⟨b2, σ2, k2, f2, ox2, y2⟩ := c53x (S := S) (d := d + 70) hK hKn kp2.2.2.2 (w := 23) (by decide) (by decide) x1
        rw [v23] at k2
        have st2' : bm_run S (d + 72) 45 55 [some (.ref 25), o1, o2, some (.int (nI cnt)), o4] [] σ = bm_run S (d + 72) 45 189 [some (.ref 25), o1, o2, some (.int (nI cnt)), some (.int 1)] [.int b2] σ2 := by
          rw [st, g45_178]
          simp (decide := true) only [bm_run_ite, Option.toList_some, Option.bind_some, Option.toList_some, Option.toList_none, List.cons_append, List.nil_append, List.append_nil, eq_self, not_true_eq_false, not_false_eq_true, ite_true, ite_false, ↓reduceIte, Nat.reduceLT, Nat.reduceEqDiff, Nat.reduceAdd, or_true, true_or, or_false, false_or, g45_183, k2]
        change CX T n K (if qN T n j = 23 then Sum.inl (j + 1) else rfx (qN T n) j 2) b2 σ2 at ox2
        have ez : edz (qN T n) (Sum.inl (j, R2, C2)) = if qN T n j = 23 then Sum.inl (j + 1, upd R2 0 (R2 0 + 1), C2) else Sum.inr (if qN T n j = 22 then 1 else 2, j) := rfl
        rw [ez]
        by_cases q23 : qN T n j = 23
        · rw [if_pos q23] at ox2 ⊢
          obtain ⟨rfl, x4⟩ := ox2
          obtain ⟨y2, z2, _⟩ := y2 rfl
          have w2 := x3.rd f2
          have w3 : CWR (upd R2 0 (R2 0 + 1)) (bm_wi σ2 26 2 (R2 0 + 1)) := by
            obtain ⟨_, _, _, _, _, _, g3, _⟩ := id w2
            exact w2.bk (fun a h1 _ => wi_n _ (by omega) _ _) (fun k h0 _ _ => upd_n _ _ h0) ⟨by rw [wi_s, upd_n _ _ (by decide), upd_n _ _ (by decide)]; exact g3.1, by rw [wi_s, upd_n _ _ (by decide), upd_n _ _ (by decide)]; exact g3.2.1, by rw [wi_s, upd_s, upd_s]⟩ (fun k hk => by rw [wi_s, upd_n _ _ (by omega)])
          have e2 : σ2.1 26 2 = R2 0 := by
            obtain ⟨_, _, _, _, _, _, g3, _⟩ := w2
            exact g3.2.2
          have jK := lt_K hK kp2.2.2.2 (by rw [q23]; decide)
          obtain ⟨⟨M, y1, y3⟩, ⟨L, y4, y5⟩, y6, _⟩ := kp2
          obtain ⟨σ3, f3, alt⟩ := ih (j + 1) (upd R2 0 (R2 0 + 1)) C2 (bm_wi σ2 26 2 (R2 0 + 1)) (cnt + 1) (am_clr o2) (some (.int 1)) (by omega) (by omega) ⟨⟨M, y1, by rw [upd_n _ _ (by decide)]; exact y3⟩, ⟨L, y4, by rw [upd_n _ _ (by decide)]; exact y5⟩, by omega, by omega⟩ (g2.up _) (x4.w26 _ _) ((x2.rd f2 (by rw [y2]) z2).w26 (by decide) _) w3
          have st3 : bm_run S (d + 72) 45 55 [some (.ref 25), o1, o2, some (.int (nI cnt)), o4] [] σ = bm_run S (d + 72) 45 55 [some (.ref 25), o1, am_clr o2, some (.int (nI (cnt + 1))), some (.int 1)] [] (bm_wi σ2 26 2 (R2 0 + 1)) := by
            rw [st2', g45_189]
            simp (decide := true) only [bm_run_ite, Option.toList_some, Option.bind_some, Option.toList_some, Option.toList_none, List.cons_append, List.nil_append, List.append_nil, eq_self, not_true_eq_false, not_false_eq_true, ite_true, ite_false, ↓reduceIte, Nat.reduceLT, Nat.reduceEqDiff, Nat.reduceAdd, or_true, true_or, or_false, false_or, g45_194, e2, nI_1]
          refine ⟨σ3, (f1.tr (f2.ln.wi (by omega) _ _)).tr f3, ?_⟩
          rw [st3]
          exact alt
        · rw [if_neg q23] at ox2 ⊢
          obtain ⟨rfl, x4⟩ := ox2
          refine ⟨σ2, f1.tr f2.ln, Or.inl ⟨_, rfl, st2'.trans ?_, x4⟩⟩
          rw [g45_189]
          simp (decide := true) only [bm_run_ite, Option.toList_some, Option.bind_some, Option.toList_some, Option.toList_none, List.cons_append, List.nil_append, List.append_nil, eq_self, not_true_eq_false, not_false_eq_true, ite_true, ite_false, ↓reduceIte, Nat.reduceLT, Nat.reduceEqDiff, Nat.reduceAdd, or_true, true_or, or_false, false_or, g45_192]
end CREAD
