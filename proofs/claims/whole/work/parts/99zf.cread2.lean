section CREAD2
variable {S : am_S} {d : Nat} {σ : bm_S} {T : Nat → Int32} {n K : Nat} {R : Nat → Int32} {C : List Int32}
/-- the letters' fairs are counted from the first, in the class -/
theorem c92f (w : CWR R σ) : ∃ σ1, bm_call S (d + 1) 92 [.ref 29, .int (R 22)] σ = some (none, σ1) ∧ CWR (dsR R) σ1 ∧ (∀ a, a ≠ 34 → σ1.1 a = σ.1 a) ∧ σ1.2 = σ.2 := by
  obtain ⟨M, L, ⟨a1, a2, a3, a4⟩, ⟨b1, b2, b3, b4, b5⟩, g1, g2, g3, g4, g5, g6, g7⟩ := w
  have cL : cN (R 25) = L := by rw [a4]; exact cN_nI (by omega)
  have t110 := t29.t0
  have step := loop_eq (fun k => bm_run S (d + 1) 92 2 [some (.ref 29), some (.int (R 22)), some (.int (nI k))] [] (bm_row σ 34 (fun i => if i < k then σ.1 34 i + R 22 else σ.1 34 i))) L (by
    intro k hk
    have es : (fun i => if i < k + 1 then σ.1 34 i + R 22 else σ.1 34 i) = upd (fun i => if i < k then σ.1 34 i + R 22 else σ.1 34 i) k (σ.1 34 k + R 22) := by
      funext i
      unfold upd
      by_cases e : i = k
      · subst e; rw [if_pos rfl, if_pos (by omega)]
      · rw [if_neg e]
        dsimp only
        by_cases q : i < k
        · rw [if_pos q, if_pos (by omega)]
        · rw [if_neg q, if_neg (by omega)]
    have e29 : ∀ g, (bm_row σ 34 g).1 29 1 = nI L := fun g => by rw [bm_row_1n _ _ (by decide)]; exact b2
    have nl : ¬ nI L ≤ nI k := nI_ge hk (by omega)
    have rd : ∀ g, bm_call S d 158 [.ref 34, .int (nI k)] (bm_row σ 34 g) = some (some (.int (g k)), bm_row σ 34 g) := fun g => by rw [at_row t29.t5 t29.l5 (by omega) (by decide), bm_row_1s]
    have wt : ∀ g x, bm_call S d 159 [.ref 34, .int (nI k), .int x] (bm_row σ 34 g) = some (none, bm_row σ 34 (upd g k x)) := fun g x => by rw [set_row t29.t5 t29.l5 (by omega) (by decide), row_wi]
    have ek : (fun i => if i < k then σ.1 34 i + R 22 else σ.1 34 i) k = σ.1 34 k := by show (if k < k then _ else _) = _; rw [if_neg (by omega)]
    rw [es, g92_2]
    generalize (fun i => if i < k then σ.1 34 i + R 22 else σ.1 34 i) = g at *
    simp (decide := true) only [bm_run_ite, Option.toList_some, Option.bind_some, Option.toList_some, Option.toList_none, List.cons_append, List.nil_append, List.append_nil, eq_self, not_true_eq_false, not_false_eq_true, ite_true, ite_false, ↓reduceIte, Nat.reduceLT, Nat.reduceEqDiff, Nat.reduceAdd, or_true, true_or, or_false, false_or, t110, e29, nl, g92_10, rd, g92_23, wt, g92_28, nI_1, ek])
  have z : (fun i => if i < 0 then σ.1 34 i + R 22 else σ.1 34 i) = σ.1 34 := by funext i; rw [if_neg (by omega)]
  simp only [z, row_self] at step
  refine ⟨bm_row σ 34 (fun i => if i < L then σ.1 34 i + R 22 else σ.1 34 i), ?_, ?_, fun a ha => bm_row_1n _ _ ha, rfl⟩
  · rw [e92, g92_0]
    refine (show bm_run S (d + 1) 92 2 [some (.ref 29), some (.int (R 22)), some (.int (nI 0))] [] σ = _ from step).trans ?_
    have e29 : ∀ g, (bm_row σ 34 g).1 29 1 = nI L := fun g => by rw [bm_row_1n _ _ (by decide)]; exact b2
    have nl : nI L ≤ nI L := nI_le (Nat.le_refl _) (by omega)
    rw [g92_2]
    simp (decide := true) only [bm_run_ite, Option.toList_some, Option.bind_some, Option.toList_some, Option.toList_none, List.cons_append, List.nil_append, List.append_nil, eq_self, not_true_eq_false, not_false_eq_true, ite_true, ite_false, ↓reduceIte, Nat.reduceLT, Nat.reduceEqDiff, Nat.reduceAdd, or_true, true_or, or_false, false_or, t110, e29, nl, g92_34]
  · have n : ∀ k, (k < 68 ∨ 80 ≤ k) → dsR R k = R k := fun k hk => ds_n hk (by omega)
    have x : ∀ a, a ≠ 34 → (bm_row σ 34 (fun i => if i < L then σ.1 34 i + R 22 else σ.1 34 i)).1 a = σ.1 a := fun a ha => bm_row_1n _ _ ha
    refine ⟨M, L, ⟨a1, a2, by rw [n 3 (by omega)]; exact a3, by rw [n 25 (by omega)]; exact a4⟩, ?_, fun m hm => ?_, fun l hl => ?_, ?_, ?_, ?_, ?_, ?_⟩
    · rw [x 29 (by decide), n 22 (by omega)]; exact ⟨b1, b2, b3, b4, b5⟩
    · rw [x 30 (by decide), n _ (by omega)]; exact g1 m hm
    · obtain ⟨h1, h2, h3, h4, h5, h6⟩ := g2 l hl
      rw [x 31 (by decide), x 32 (by decide), x 33 (by decide), x 35 (by decide), x 36 (by decide), n (32 + l) (by omega), n (44 + l) (by omega), n (56 + l) (by omega), n (80 + l) (by omega), n (10 + l) (by omega)]
      refine ⟨h1, h2, h3, ?_, h5, h6⟩
      rw [bm_row_1s]
      unfold dsR
      rw [cL, if_pos hl, if_pos (by omega), h4]
    · rw [x 26 (by decide), n 1 (by omega), n 2 (by omega), n 0 (by omega)]; exact g3
    · rw [x 26 (by decide), n 4 (by omega)]; exact g4
    · rw [x 26 (by decide), n 4 (by omega), n 6 (by omega), n 8 (by omega)]; exact g5
    · rw [x 26 (by decide), n 5 (by omega)]; exact g6
    · rw [x 26 (by decide), n 5 (by omega), n 7 (by omega), n 9 (by omega)]; exact g7
theorem Fln.kp {σ τ : bm_S} (h : Fln σ τ) : Kp σ τ := ⟨fun a x _ => h.1 a (by unfold Sc at x; omega) (by unfold Sc at x; omega) (by unfold Sc at x; omega) (by unfold Sc at x; omega), fun b _ => by rw [h.1 218 (by decide) (by decide) (by decide) (by omega)], fun a _ => by rw [h.2]⟩
theorem F46.kp {σ τ : bm_S} (h : F46 σ τ) : Kp σ τ := ⟨fun a x _ => h.1 a (by unfold Sc at x; omega) (by unfold Sc at x; omega) (by unfold Sc at x; omega) (by unfold Sc at x; omega), fun b _ => by rw [h.1 218 (by decide) (by decide) (by decide) (by decide)], fun a _ => by rw [h.2.2]⟩
/-- the class reads a text -/
theorem c45 (u : ux T n σ) (hb : ∀ i, i < n → ∃ k, k < 256 ∧ T i = nI k) : ∃ K σ1, tkK (qN T n) K ∧ K ≤ n ∧ Kp σ σ1 ∧ ((∃ e, rdz (qN T n) (vN T n) K = Sum.inr e ∧ bm_call S (d + 72) 45 [.ref 25, .ref 1, .int (nI n)] σ = some (some (.int 0), σ1) ∧ ClF T n e.1 e.2 σ1) ∨ ∃ j R C, rdz (qN T n) (vN T n) K = Sum.inl (j, R, C) ∧ bm_call S (d + 72) 45 [.ref 25, .ref 1, .int (nI n)] σ = some (some (.int 1), σ1) ∧ (σ1.1 25 2 = 0 ∧ σ1.1 25 3 = Int32.ofInt (-1)) ∧ ClC C σ1 ∧ CWR (dsR R) σ1 ∧ GR R C ∧ C.length ≤ K) := by
  obtain ⟨ta, tb⟩ := t1
  have hn := u.1
  have n9 : ¬ (900 : Int32) < nI n := nI_nlt (a := 900) hn (by decide)
  have l9 : Int32.ofNat (bm_len 1) = 900 := by rw [tb]; rfl
  have ta7 : bm_tag 1 < 7 := by rw [ta]; decide
  obtain ⟨K, σ1, k1, f1, ta1, q21, hKn, hne⟩ := c46 (S := S) (d := d + 65) u
  have hK : tkK (qN T n) K := ⟨q21, hne⟩
  have t100 := t26.1
  have t110 := t29.t0
  -- the book and the world are cleared
  generalize hσ2 : bm_wi (bm_wi (bm_wi (bm_wi (bm_wi (bm_wi (bm_wi (bm_wi σ1 26 0 1) 26 1 1) 26 2 0) 26 4 0) 26 5 0) 26 6 0) 26 7 0) 26 8 0 = σ2
  have k2 : bm_call S (d + 71) 1 [.ref 26] σ1 = some (none, σ2) := by rw [e1, g1_0]; simp only [t100, if_true, hσ2]
  generalize hσ3 : bm_wi (bm_wi (bm_wi (bm_wi (bm_wi σ2 29 0 0) 29 1 0) 29 2 0) 29 3 0) 29 4 0 = σ3
  have k3 : bm_call S (d + 71) 76 [.ref 29] σ2 = some (none, σ3) := by rw [e76, g76_0]; simp only [t110, if_true, hσ3]
  generalize hσ4 : bm_wi (bm_wi (bm_wi σ3 25 2 0) 25 3 (Int32.ofInt (-1))) 25 8 (Int32.ofInt (-1)) = σ4
  have a2 : ∀ a, a ≠ 26 → σ2.1 a = σ1.1 a := fun a ha => by rw [← hσ2]; simp only [wi_n _ ha]
  have a3 : ∀ a, a ≠ 29 → σ3.1 a = σ2.1 a := fun a ha => by rw [← hσ3]; simp only [wi_n _ ha]
  have a4 : ∀ a, a ≠ 25 → σ4.1 a = σ3.1 a := fun a ha => by rw [← hσ4]; simp only [wi_n _ ha]
  have b26 : σ2.1 26 0 = 1 ∧ σ2.1 26 1 = 1 ∧ σ2.1 26 2 = 0 ∧ σ2.1 26 4 = 0 ∧ σ2.1 26 5 = 0 ∧ σ2.1 26 6 = 0 ∧ σ2.1 26 7 = 0 ∧ σ2.1 26 8 = 0 := by
    rw [← hσ2]
    simp (decide := true) only [wi_s, upd_n, upd_s, and_self]
  have b29 : σ3.1 29 0 = 0 ∧ σ3.1 29 1 = 0 ∧ σ3.1 29 2 = 0 ∧ σ3.1 29 3 = 0 ∧ σ3.1 29 4 = 0 := by
    rw [← hσ3]
    simp (decide := true) only [wi_s, upd_n, upd_s, and_self]
  have b25 : σ4.1 25 2 = 0 ∧ σ4.1 25 3 = Int32.ofInt (-1) ∧ σ4.1 25 8 = Int32.ofInt (-1) := by
    rw [← hσ4]
    simp (decide := true) only [wi_s, upd_n, upd_s, and_self]
  have b257 : σ4.1 25 7 = nI (K + 1) := by
    rw [← hσ4]
    simp (decide := true) only [wi_s, upd_n]
    rw [a3 25 (by decide), a2 25 (by decide)]
    exact ta1.1
  have m1 : Int32.ofInt (-1) + 1 = nI 0 := by decide
  generalize hσ5 : bm_wi (bm_wi σ4 25 8 (nI 0)) 25 9 (kcT (qN T n 0)) = σ5
  have e39 : σ4.1 39 0 = kcT (qN T n 0) := by rw [a4 39 (by decide), a3 39 (by decide), a2 39 (by decide)]; exact (ta1.2 0 (by omega)).1
  have k5 : bm_call S (d + 71) 51 [.ref 25] σ4 = some (none, σ5) := by
    have f8 : (bm_wi σ4 25 8 (nI 0)).1 25 8 = nI 0 := by rw [wi_s, upd_s]
    have f39 : (bm_wi σ4 25 8 (nI 0)).1 39 = σ4.1 39 := wi_n _ (by decide) _ _
    have c0 : (nI 0).toNatClampNeg = 0 := nI_clamp (by decide)
    have z0 : ¬ nI 0 < 0 := by decide
    have z9 : ¬ (901 : Int32) ≤ nI 0 := by decide
    simp (decide := true) only [e51, g51_0, g51_18, g51_30, g51_43, bm_run_ite, Option.toList_some, Option.bind_some, Option.toList_some, Option.toList_none, List.cons_append, List.nil_append, List.append_nil, eq_self, not_true_eq_false, not_false_eq_true, ite_true, ite_false, ↓reduceIte, Nat.reduceLT, Nat.reduceEqDiff, Nat.reduceAdd, or_true, true_or, or_false, false_or, b25.2.2, m1, f8, z0, z9, c0, f39, e39, hσ5]
  have a5 : ∀ a, a ≠ 25 → σ5.1 a = σ4.1 a := fun a ha => by rw [← hσ5]; simp only [wi_n _ ha]
  have a51 : ∀ a, a ≠ 25 → a ≠ 26 → a ≠ 29 → σ5.1 a = σ1.1 a := fun a h1 h2 h3 => by rw [a5 a h1, a4 a h1, a3 a h3, a2 a h2]
  have c5 : ClT T n K 0 σ5 := by
    refine ⟨⟨⟨?_, ?_, ?_⟩, fun i hi => ?_⟩, ?_, ?_⟩
    · rw [← hσ5]; simp (decide := true) only [wi_s, upd_n]; exact b257
    · rw [← hσ5]; simp (decide := true) only [wi_s, upd_n]; exact b25.1
    · rw [← hσ5]; simp (decide := true) only [wi_s, upd_n]; exact b25.2.1
    · rw [a51 39 (by decide) (by decide) (by decide), a51 40 (by decide) (by decide) (by decide), a51 41 (by decide) (by decide) (by decide)]; exact ta1.2 i hi
    · rw [← hσ5]; simp (decide := true) only [wi_s, upd_n, upd_s]
    · rw [← hσ5]; simp (decide := true) only [wi_s, upd_s]
  have e26 : σ5.1 26 = σ2.1 26 := by rw [a5 26 (by decide), a4 26 (by decide), a3 26 (by decide)]
  have e29 : σ5.1 29 = σ3.1 29 := by rw [a5 29 (by decide), a4 29 (by decide)]
  have cc5 : ClC [] σ5 := ⟨by rw [e26]; exact b26.2.2.2.1, fun m hm => absurd hm (by simp)⟩
  have w5 : CWR R00 σ5 := by
    obtain ⟨x0, x1, x2, x4, x5, x6, x7, x8⟩ := b26
    obtain ⟨y0, y1, y2, y3, y4⟩ := b29
    refine ⟨0, 0, ⟨by omega, by omega, rfl, rfl⟩, ?_, fun m hm => absurd hm (by omega), fun l hl => absurd hl (by omega), ?_, ?_, ?_, ?_, ?_⟩
    · rw [e29]; exact ⟨y0, y1, y2, y3, y4⟩
    · rw [e26]; exact ⟨x0, x1, x2⟩
    · rw [e26]; exact fun _ => x5.trans x6.symm
    · exact fun z => absurd rfl z
    · rw [e26]; exact fun _ => x7.trans x8.symm
    · exact fun z => absurd rfl z
  have kp5 : Kp σ σ5 := by
    refine f1.kp.tr ⟨fun a x _ => a51 a (by unfold Sc at x; omega) (by unfold Sc at x; omega) (by unfold Sc at x; omega), fun b _ => by rw [a51 218 (by decide) (by decide) (by decide)], fun a _ => ?_⟩
    rw [← hσ5, ← hσ4, ← hσ3, ← hσ2]
    rfl
  have st : bm_call S (d + 72) 45 [.ref 25, .ref 1, .int (nI n)] σ = bm_run S (d + 72) 45 44 [some (.ref 25), some (.ref 1), some (.int (nI n)), none, none] [] σ5 := by
    simp (decide := true) only [e45, g45_0, bm_run_ite, Option.toList_some, Option.bind_some, Option.toList_some, Option.toList_none, List.cons_append, List.nil_append, List.append_nil, eq_self, not_true_eq_false, not_false_eq_true, ite_true, ite_false, ↓reduceIte, Nat.reduceLT, Nat.reduceEqDiff, Nat.reduceAdd, or_true, true_or, or_false, false_or, ta7, l9, c291, n9, g45_8, k1, g45_11, k2, g45_18, k3, g45_25, hσ4, k5]
  obtain ⟨b, σ6, k6, f6, o6⟩ := c55 (S := S) (d := d + 68) hK (by omega) c5 cc5 w5
  have st6 : bm_call S (d + 72) 45 [.ref 25, .ref 1, .int (nI n)] σ = bm_run S (d + 72) 45 48 [some (.ref 25), some (.ref 1), some (.int (nI n)), none, none] [.int b] σ6 := by
    rw [st, g45_44]; simp (decide := true) only [bm_run_ite, Option.toList_some, Option.bind_some, Option.toList_some, Option.toList_none, List.cons_append, List.nil_append, List.append_nil, eq_self, not_true_eq_false, not_false_eq_true, ite_true, ite_false, ↓reduceIte, Nat.reduceLT, Nat.reduceEqDiff, Nat.reduceAdd, or_true, true_or, or_false, false_or, k6]
  refine ⟨K, ?_⟩
  cases hx : hdz (qN T n) (vN T n) with
  | inr e =>
    rw [hx] at o6
    obtain ⟨rfl, x6⟩ := (show b = 0 ∧ ClF T n e.1 e.2 σ6 from o6)
    refine ⟨σ6, hK, hKn, kp5.tr f6.kp, Or.inl ⟨e, ?_, st6.trans ?_, x6⟩⟩
    · unfold rdz; rw [hx]
    · rw [g45_48]; simp (decide := true) only [bm_run_ite, Option.toList_some, Option.bind_some, Option.toList_some, Option.toList_none, List.cons_append, List.nil_append, List.append_nil, eq_self, not_true_eq_false, not_false_eq_true, ite_true, ite_false, ↓reduceIte, Nat.reduceLT, Nat.reduceEqDiff, Nat.reduceAdd, or_true, true_or, or_false, false_or, g45_51]
  | inl p =>
    obtain ⟨j, R, C⟩ := p
    rw [hx] at o6
    obtain ⟨rfl, x1, x2, x3⟩ := o6
    obtain ⟨j5, hC, gr⟩ := GR_hd hx
    subst j5 hC
    have ez : rdz (qN T n) (vN T n) K = lsz (qN T n) (vN T n) K (K + 1) 5 R [] := by unfold rdz; rw [hx]
    have jK : 5 ≤ K := hd_K hK hx
    have rk : RK K 5 R [] := by
      obtain ⟨M, L, ⟨h1, h2, h3, h4⟩, _⟩ := gr.1
      exact ⟨⟨M, h1, h3⟩, ⟨L, h2, h4⟩, by simp, jK⟩
    have st7 : bm_call S (d + 72) 45 [.ref 25, .ref 1, .int (nI n)] σ = bm_run S (d + 72) 45 55 [some (.ref 25), some (.ref 1), am_clr (some (.int (nI n))), some (.int (nI 1)), none] [] σ6 := by
      rw [st6, g45_48]; simp (decide := true) only [bm_run_ite, Option.toList_some, Option.bind_some, Option.toList_some, Option.toList_none, List.cons_append, List.nil_append, List.append_nil, eq_self, not_true_eq_false, not_false_eq_true, ite_true, ite_false, ↓reduceIte, Nat.reduceLT, Nat.reduceEqDiff, Nat.reduceAdd, or_true, true_or, or_false, false_or, g45_53]; rfl
    obtain ⟨σ7, f7, alt⟩ := c45l (S := S) (d := d) hK (by omega) (fun i hq => vN_n hb hq) (o1 := some (.ref 1)) (K + 1) 5 R [] σ6 1 (am_clr (some (.int (nI n)))) none (by omega) (by omega) rk gr x1 x2 x3
    rcases alt with ⟨e, h1, h2, h3⟩ | ⟨j, R2, C2, o2, o3, o4, h1, h2, h3, h4, h5, h6, h7⟩
    · exact ⟨σ7, hK, hKn, (kp5.tr f6.kp).tr f7.kp, Or.inl ⟨e, ez.trans h1, st7.trans h2, h3⟩⟩
    · have w3 : σ7.1 29 3 = R2 22 := by
        obtain ⟨_, _, _, g, _⟩ := id h5
        exact g.2.2.2.1
      obtain ⟨σ8, k8, w8, f8, f8x⟩ := c92f (S := S) (d := d + 70) h5
      refine ⟨σ8, hK, hKn, ((kp5.tr f6.kp).tr f7.kp).tr ⟨fun a x _ => f8 a (by unfold Sc at x; omega), fun b _ => by rw [f8 218 (by decide)], fun a _ => by rw [f8x]⟩, Or.inr ⟨j, R2, C2, ez.trans h1, st7.trans (h2.trans ?_), ?_, ?_, w8, h6, h7⟩⟩
      · rw [g45_213]
        simp (decide := true) only [bm_run_ite, Option.toList_some, Option.bind_some, Option.toList_some, Option.toList_none, List.cons_append, List.nil_append, List.append_nil, eq_self, not_true_eq_false, not_false_eq_true, ite_true, ite_false, ↓reduceIte, Nat.reduceLT, Nat.reduceEqDiff, Nat.reduceAdd, or_true, true_or, or_false, false_or, w3, k8, g45_227]
      · rw [f8 25 (by decide)]; exact ⟨h3.1.1.2.1, h3.1.1.2.2⟩
      · exact ⟨by rw [f8 26 (by decide)]; exact h4.1, fun m hm => by rw [f8 27 (by decide)]; exact h4.2 m hm⟩
end CREAD2
