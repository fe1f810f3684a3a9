section CLIN2
variable {S : am_S} {d : Nat} {σ : bm_S} {T : Nat → Int32} {n K : Nat} {R : Nat → Int32} {C : List Int32}
/-- what a line comes to, in the class -/
def LCO (T : Nat → Int32) (n K : Nat) (x : lnR) (b : Int32) (σ : bm_S) : Prop :=
  match x with
  | Sum.inl (j, R, C) => b = 1 ∧ ClT T n K j σ ∧ ClC C σ ∧ CWR R σ
  | Sum.inr (w, j) => b = 0 ∧ ClF T n w j σ
theorem t29 : isW 29 := by unfold isW; decide
theorem CWR.M {R : Nat → Int32} {σ : bm_S} {M : Nat} (h : CWR R σ) (e : R 3 = nI M) (hM : M ≤ 6) : σ.1 29 0 = nI M := by
  obtain ⟨M2, L, ⟨a1, a2, a3, a4⟩, ⟨b1, _⟩, _⟩ := h
  rw [b1, ← a3, e]
theorem CWR.L {R : Nat → Int32} {σ : bm_S} {L : Nat} (h : CWR R σ) (e : R 25 = nI L) : σ.1 29 1 = nI L := by
  obtain ⟨M2, L2, ⟨a1, a2, a3, a4⟩, ⟨_, b1, _⟩, _⟩ := h
  rw [b1, ← a4, e]
theorem c56 (hK : tkK (qN T n) K) (hKn : K ≤ 900) {i M : Nat} (hM : M ≤ 6) (hi : i < K) (hq : ¬ qN T n i = 22) (c : ClT T n K i σ) (cc : ClC C σ) (w : CWR R σ) (e3 : R 3 = nI M) : ∃ b σ1, bm_call S (d + 2) 56 [.ref 25] σ = some (some (.int b), σ1) ∧ Fln σ σ1 ∧ LCO T n K (mrz (qN T n) (vN T n) M i R C) b σ1 := by
  have w0 := w.M e3 hM
  unfold mrz
  by_cases q : M = 6
  · subst q
    have n6 : ¬ nI 6 < 6 := by decide
    obtain ⟨σ1, k1, x1, f1⟩ := c52 (S := S) (d := d + 1) (w := 4) hKn (by omega) c
    rw [if_neg hq] at x1
    rw [if_pos rfl]
    refine ⟨0, σ1, ?_, f1.ln, rfl, x1⟩
    simp (decide := true) only [e56, g56_0, g56_12, g56_17, bm_run_ite, Option.toList_some, Option.bind_some, Option.toList_some, Option.toList_none, List.cons_append, List.nil_append, List.append_nil, eq_self, not_true_eq_false, not_false_eq_true, ite_true, ite_false, ↓reduceIte, Nat.reduceLT, Nat.reduceEqDiff, Nat.reduceAdd, or_true, true_or, or_false, false_or, w0, n6, k1, if_true]
  rw [if_neg q]
  have n6 : nI M < 6 := nI_lt (b := 6) (by omega) (by decide)
  obtain ⟨σ1, k1, x1, f1, y1, y2, _⟩ := c51c (S := S) (d := d + 1) hKn hi c
  obtain ⟨b, σ2, k2, f2, x2, hb, hv⟩ := c54 (S := S) (d := d) hK hKn (lo := 0) (up := 999) (show i + 1 ≤ K by omega) x1
  cases hx : nmx (qN T n) (vN T n) 0 999 (Sum.inl (i + 1)) with
  | inr e =>
    obtain ⟨w2, j⟩ := e
    rw [hx] at x2
    obtain ⟨rfl, x3⟩ := x2
    refine ⟨0, σ2, ?_, (f1.tr f2).ln, rfl, x3⟩
    simp (decide := true) only [e56, g56_0, g56_18, g56_22, g56_30, g56_33, bm_run_ite, Option.toList_some, Option.bind_some, Option.toList_some, Option.toList_none, List.cons_append, List.nil_append, List.append_nil, eq_self, not_true_eq_false, not_false_eq_true, ite_true, ite_false, ↓reduceIte, Nat.reduceLT, Nat.reduceEqDiff, Nat.reduceAdd, or_true, true_or, or_false, false_or, w0, n6, k1, k2]
  | inl j =>
    rw [hx] at x2
    obtain ⟨rfl, x3⟩ := x2
    obtain ⟨z1, z2, z3⟩ := hv rfl
    have w2 := (w.rd f1).rd f2
    have cc2 : ClC C σ2 := (cc.rd f1 (by rw [y1]) y2).rd f2 (by rw [z1]) z2
    have w20 := w2.M e3 hM
    obtain ⟨M2, L, ⟨a1, a2, a3, a4⟩, ⟨b1, b2, b3, b4, b5⟩, g1, g2, g3, g4, g5, g6, g7⟩ := w2
    have eM : M2 = M := (nI_eq (by omega) (by omega)).mp (a3.symm.trans e3)
    subst eM
    have sv : bm_call S d 159 [.ref 30, .int (nI M2), .int (vN T n (i + 1))] σ2 = some (none, bm_wi σ2 30 M2 (vN T n (i + 1))) := set_row t29.t1 t29.l1 (by omega) (by decide) _
    have k90 : bm_call S (d + 1) 90 [.ref 29, .int (vN T n (i + 1))] σ2 = some (none, bm_wi (bm_wi σ2 30 M2 (vN T n (i + 1))) 29 0 (nI (M2 + 1))) := by
      have u0 : (bm_wi σ2 30 M2 (vN T n (i + 1))).1 29 0 = nI M2 := by rw [wi_n _ (by decide)]; exact b1
      simp (decide := true) only [e90, g90_0, g90_12, bm_run_ite, Option.toList_some, Option.bind_some, Option.toList_some, Option.toList_none, List.cons_append, List.nil_append, List.append_nil, eq_self, not_true_eq_false, not_false_eq_true, ite_true, ite_false, ↓reduceIte, Nat.reduceLT, Nat.reduceEqDiff, Nat.reduceAdd, or_true, true_or, or_false, false_or, t29.t0, b1, sv, u0, nI_1]
    have rn : ∀ k, k ≠ 3 → k ≠ 26 + M2 → upd (upd R (26 + M2) (vN T n (i + 1))) 3 (nI (M2 + 1)) k = R k := fun k h1 h2 => by rw [upd_n _ _ h1, upd_n _ _ h2]
    have sn : ∀ a, a ≠ 29 → a ≠ 30 → (bm_wi (bm_wi σ2 30 M2 (vN T n (i + 1))) 29 0 (nI (M2 + 1))).1 a = σ2.1 a := fun a h1 h2 => by rw [wi_n _ h1, wi_n _ h2]
    have s9 : ∀ k, k ≠ 0 → (bm_wi (bm_wi σ2 30 M2 (vN T n (i + 1))) 29 0 (nI (M2 + 1))).1 29 k = σ2.1 29 k := fun k hk => by rw [wi_s, upd_n _ _ hk, wi_n _ (by decide)]
    refine ⟨1, bm_wi (bm_wi σ2 30 M2 (vN T n (i + 1))) 29 0 (nI (M2 + 1)), ?_, ((f1.tr f2).ln.wi (by omega) _ _).wi (by omega) _ _, rfl, ?_, ?_, M2 + 1, L, ⟨by omega, a2, by rw [upd_s], by rw [rn 25 (by decide) (by omega)]; exact a4⟩, ⟨by rw [wi_s, upd_s], by rw [s9 1 (by decide)]; exact b2, by rw [s9 2 (by decide)]; exact b3, by rw [s9 3 (by decide), rn 22 (by decide) (by omega)]; exact b4, by rw [s9 4 (by decide)]; exact b5⟩, fun m hm => ?_, fun l hl => ?_, ?_, ?_, ?_, ?_, ?_⟩
    · simp (decide := true) only [e56, g56_0, g56_18, g56_22, g56_30, g56_35, g56_46, bm_run_ite, Option.toList_some, Option.bind_some, Option.toList_some, Option.toList_none, List.cons_append, List.nil_append, List.append_nil, eq_self, not_true_eq_false, not_false_eq_true, ite_true, ite_false, ↓reduceIte, Nat.reduceLT, Nat.reduceEqDiff, Nat.reduceAdd, or_true, true_or, or_false, false_or, w0, n6, k1, k2, z3, k90]
    · exact ⟨TAx_w x3.1 (fun b _ => by rw [sn 25 (by decide) (by decide)]) (fun a ha => sn a (by omega) (by omega)), by rw [sn 25 (by decide) (by decide)]; exact x3.2.1, by rw [sn 25 (by decide) (by decide)]; exact x3.2.2⟩
    · exact ⟨by rw [sn 26 (by decide) (by decide)]; exact cc2.1, fun m hm => by rw [sn 27 (by decide) (by decide)]; exact cc2.2 m hm⟩
    · rw [wi_n _ (by decide), wi_s]
      by_cases e : m = M2
      · subst e; rw [upd_s, upd_n _ _ (by omega), upd_s]
      · rw [upd_n _ _ e, rn _ (by omega) (by omega)]; exact g1 m (by omega)
    · rw [sn 31 (by decide) (by decide), sn 32 (by decide) (by decide), sn 33 (by decide) (by decide), sn 34 (by decide) (by decide), sn 35 (by decide) (by decide), sn 36 (by decide) (by decide), rn _ (by omega) (by omega), rn _ (by omega) (by omega), rn _ (by omega) (by omega), rn _ (by omega) (by omega), rn _ (by omega) (by omega), rn _ (by omega) (by omega)]
      exact g2 l hl
    · rw [sn 26 (by decide) (by decide), rn 1 (by decide) (by omega), rn 2 (by decide) (by omega), rn 0 (by decide) (by omega)]; exact g3
    · rw [sn 26 (by decide) (by decide), rn 4 (by decide) (by omega)]; exact g4
    · rw [sn 26 (by decide) (by decide), rn 4 (by decide) (by omega), rn 6 (by decide) (by omega), rn 8 (by decide) (by omega)]; exact g5
    · rw [sn 26 (by decide) (by decide), rn 5 (by decide) (by omega)]; exact g6
    · rw [sn 26 (by decide) (by decide), rn 5 (by decide) (by omega), rn 7 (by decide) (by omega), rn 9 (by decide) (by omega)]; exact g7
end CLIN2
