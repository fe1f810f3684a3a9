/-- what a line's reading may touch in the class -/
def Fln (σ τ : bm_S) : Prop := (∀ a, a ≠ 25 → a ≠ 26 → a ≠ 27 → (a < 29 ∨ 36 < a) → τ.1 a = σ.1 a) ∧ τ.2 = σ.2
theorem Fln.rfl (σ : bm_S) : Fln σ σ := ⟨fun _ _ _ _ _ => Eq.refl _, Eq.refl _⟩
theorem Fln.tr {σ τ ρ : bm_S} (h : Fln σ τ) (k : Fln τ ρ) : Fln σ ρ := ⟨fun a x y z w => (k.1 a x y z w).trans (h.1 a x y z w), k.2.trans h.2⟩
theorem Frd.ln {σ τ : bm_S} (h : Frd σ τ) : Fln σ τ := ⟨fun a x y z _ => h.1 a x y z, h.2.2.2⟩
theorem Fln.wi {σ τ : bm_S} (h : Fln σ τ) {a : Nat} (ha : a = 25 ∨ a = 26 ∨ a = 27 ∨ (29 ≤ a ∧ a ≤ 36)) (k : Nat) (x : Int32) : Fln σ (bm_wi τ a k x) := h.tr ⟨fun b x1 x2 x3 x4 => wi_n _ (by omega) _ _, Eq.refl _⟩
/-- the class's book and world beside the row -/
def CWR (R : Nat → Int32) (σ : bm_S) : Prop := ∃ M L, (M ≤ 6 ∧ L ≤ 12 ∧ R 3 = nI M ∧ R 25 = nI L) ∧ (σ.1 29 0 = nI M ∧ σ.1 29 1 = nI L ∧ σ.1 29 2 = 0 ∧ σ.1 29 3 = R 22 ∧ σ.1 29 4 = 0) ∧ (∀ m, m < M → σ.1 30 m = R (26 + m)) ∧ (∀ l, l < L → σ.1 31 l = R (32 + l) ∧ σ.1 32 l = R (44 + l) ∧ σ.1 33 l = R (56 + l) ∧ σ.1 34 l = R (68 + l) ∧ σ.1 35 l = R (80 + l) ∧ σ.1 36 l = R (10 + l)) ∧ (σ.1 26 0 = R 1 ∧ σ.1 26 1 = R 2 ∧ σ.1 26 2 = R 0) ∧ (R 4 = 0 → σ.1 26 5 = σ.1 26 6) ∧ (¬ R 4 = 0 → σ.1 26 5 = R 6 ∧ σ.1 26 6 = R 6 + R 8) ∧ (R 5 = 0 → σ.1 26 7 = σ.1 26 8) ∧ (¬ R 5 = 0 → σ.1 26 7 = R 7 ∧ σ.1 26 8 = R 7 + R 9)
/-- what reading touches leaves it so -/
theorem CWR.rd {R : Nat → Int32} {σ τ : bm_S} (h : CWR R σ) (f : Frd σ τ) : CWR R τ := by
  obtain ⟨M, L, a, b, c, e, k, l1, l2, l3, l4⟩ := h
  have x : ∀ a, 29 ≤ a → τ.1 a = σ.1 a := fun a ha => f.1 a (by omega) (by omega) (by omega)
  have y : ∀ b, b ≠ 4 → τ.1 26 b = σ.1 26 b := f.2.2.1
  refine ⟨M, L, a, ?_, ?_, ?_, ?_, ?_, ?_, ?_, ?_⟩
  · rw [x 29 (by omega)]; exact b
  · rw [x 30 (by omega)]; exact c
  · rw [x 31 (by omega), x 32 (by omega), x 33 (by omega), x 34 (by omega), x 35 (by omega), x 36 (by omega)]; exact e
  · rw [y 0 (by decide), y 1 (by decide), y 2 (by decide)]; exact k
  · rw [y 5 (by decide), y 6 (by decide)]; exact l1
  · rw [y 5 (by decide), y 6 (by decide)]; exact l2
  · rw [y 7 (by decide), y 8 (by decide)]; exact l3
  · rw [y 7 (by decide), y 8 (by decide)]; exact l4
section CLINE
variable {S : am_S} {d : Nat} {σ : bm_S} {T : Nat → Int32} {n K : Nat} {R : Nat → Int32} {C : List Int32}
/-- a place that the class has come to, or its fault -/
def CX (T : Nat → Int32) (n K : Nat) (x : xzR) (b : Int32) (σ : bm_S) : Prop :=
  match x with
  | Sum.inl i => b = 1 ∧ ClT T n K i σ
  | Sum.inr (w, i) => b = 0 ∧ ClF T n w i σ
theorem ClC.rd {σ τ : bm_S} (h : ClC C σ) (f : Frd σ τ) (f4 : τ.1 26 4 = σ.1 26 4) (f27 : τ.1 27 = σ.1 27) : ClC C τ := ⟨f4.trans h.1, fun m hm => by rw [f27]; exact h.2 m hm⟩
theorem c51c {i : Nat} (hK : K ≤ 900) (hi : i < K) (c : ClT T n K i σ) : ∃ σ1, bm_call S d 51 [.ref 25] σ = some (none, σ1) ∧ ClT T n K (i + 1) σ1 ∧ Frd σ σ1 ∧ σ1.1 26 = σ.1 26 ∧ σ1.1 27 = σ.1 27 ∧ σ1.1 25 10 = σ.1 25 10 := by
  obtain ⟨t, c8, c9⟩ := c
  have f8 : (bm_wi σ 25 8 (nI (i + 1))).1 25 8 = nI (i + 1) := by rw [wi_s, upd_s]
  have f39 : (bm_wi σ 25 8 (nI (i + 1))).1 39 = σ.1 39 := wi_n _ (by decide) _ _
  have n0 : ¬ nI (i + 1) < 0 := nI_pos (by omega)
  have n9 : ¬ (901 : Int32) ≤ nI (i + 1) := nI_ge (b := 901) (by omega) (by decide)
  have b9 : ¬ 901 ≤ i + 1 := by omega
  have ek : σ.1 39 (i + 1) = kcT (qN T n (i + 1)) := (t.2 (i + 1) (by omega)).1
  refine ⟨bm_wi (bm_wi σ 25 8 (nI (i + 1))) 25 9 (kcT (qN T n (i + 1))), ?_, ⟨TAx_w t (fun b hb => by rw [wi_s, upd_n _ _ (by omega), wi_s, upd_n _ _ (by omega)]) (fun a ha => by rw [wi_n _ (by omega), wi_n _ (by omega)]), by rw [wi_s, upd_n _ _ (by decide)]; exact f8, by rw [wi_s, upd_s]⟩, ((Frd.rfl σ).w25 (by omega) _).w25 (by omega) _, by rw [wi_n _ (by decide), wi_n _ (by decide)], by rw [wi_n _ (by decide), wi_n _ (by decide)], by rw [wi_s, upd_n _ _ (by decide), wi_s, upd_n _ _ (by decide)]⟩
  simp (decide := true) only [e51, g51_0, g51_18, g51_30, g51_43, bm_run_ite, Option.toList_some, Option.bind_some, Option.toList_some, Option.toList_none, List.cons_append, List.nil_append, List.append_nil, eq_self, not_true_eq_false, not_false_eq_true, ite_true, ite_false, ↓reduceIte, Nat.reduceLT, Nat.reduceEqDiff, Nat.reduceAdd, or_true, true_or, or_false, false_or, c8, nI_1, f8, n0, n9, nI_clamp2 (show i + 1 < 2147483648 by omega), b9, f39, ek]
/-- a number, in the class -/
theorem c54 (hK : tkK (qN T n) K) (hKn : K ≤ 900) {i : Nat} {lo up : Int32} (hi : i ≤ K) (c : ClT T n K i σ) : ∃ b σ1, bm_call S (d + 1) 54 [.ref 25, .int lo, .int up] σ = some (some (.int b), σ1) ∧ Frd σ σ1 ∧ CX T n K (nmx (qN T n) (vN T n) lo up (Sum.inl i)) b σ1 ∧ (b = 0 ∨ b = 1) ∧ (b = 1 → σ1.1 26 = σ.1 26 ∧ σ1.1 27 = σ.1 27 ∧ σ1.1 25 10 = vN T n i) := by
  have v20 : kcT 20 = 2 := by decide +kernel
  obtain ⟨_, ⟨b1, b2⟩, _⟩ := t39
  have e9 := c.2.2
  have e8 := c.2.1
  show ∃ b σ1, _ ∧ _ ∧ CX T n K (if qN T n i = 20 then (if inb (vN T n i) lo up = true then Sum.inl (i + 1) else rfx (qN T n) i 3) else rfx (qN T n) i 2) b σ1 ∧ _ ∧ _
  by_cases q : qN T n i = 20
  · rw [q, v20] at e9
    have e40 : bm_call S d 158 [.ref 40, .int (nI i)] σ = some (some (.int (vN T n i)), σ) := by rw [at_row b1 b2 (by omega) (by decide), (c.1.2 i (by omega)).2.1]; rfl
    have c2 : ClT T n K i (bm_wi σ 25 10 (vN T n i)) := ⟨TAx_w c.1 (fun b hb => by rw [wi_s, upd_n _ _ (by omega)]) (fun a ha => wi_n _ (by omega) _ _), by rw [wi_s, upd_n _ _ (by decide)]; exact e8, by rw [wi_s, upd_n _ _ (by decide)]; exact c.2.2⟩
    have f0 : Frd σ (bm_wi σ 25 10 (vN T n i)) := (Frd.rfl σ).w25 (by omega) _
    have e10 : (bm_wi σ 25 10 (vN T n i)).1 25 10 = vN T n i := by rw [wi_s, upd_s]
    rw [if_pos q]
    have bad : inb (vN T n i) lo up = false → ∃ σ1, bm_call S d 52 [.ref 25, .int 3] (bm_wi σ 25 10 (vN T n i)) = some (some (.int 0), σ1) ∧ ClF T n (if qN T n i = 22 then 1 else 3) i σ1 ∧ Frd (bm_wi σ 25 10 (vN T n i)) σ1 := fun _ => c52 (w := 3) hKn hi c2
    by_cases a1 : vN T n i < lo
    · have ib : inb (vN T n i) lo up = false := by unfold inb; simp [a1]
      obtain ⟨σ1, k1, x1, f1⟩ := bad ib
      rw [ib, if_neg (by decide)]
      refine ⟨0, σ1, ?_, f0.tr f1, ⟨Eq.refl _, x1⟩, Or.inl (Eq.refl _), fun z => absurd z (by decide)⟩
      simp (decide := true) only [e54, g54_0, g54_14, g54_26, g54_45, g54_50, bm_run_ite, Option.toList_some, Option.bind_some, Option.toList_some, Option.toList_none, List.cons_append, List.nil_append, List.append_nil, eq_self, not_true_eq_false, not_false_eq_true, ite_true, ite_false, ↓reduceIte, Nat.reduceLT, Nat.reduceEqDiff, Nat.reduceAdd, or_true, true_or, or_false, false_or, e9, e8, e40, e10, a1, k1, if_true]
    · by_cases a2 : vN T n i ≤ up
      · have ib : inb (vN T n i) lo up = true := by
          have : ¬ up < vN T n i := Int32.not_lt.mpr a2
          unfold inb; simp [a1, this]
        obtain ⟨σ1, k1, x1, f1, y1, y2, y3⟩ := c51c (S := S) (d := d) hKn (lt_K hK hi (by rw [q]; decide)) c2
        rw [ib, if_pos (Eq.refl _)]
        refine ⟨1, σ1, ?_, f0.tr f1, ⟨Eq.refl _, x1⟩, Or.inr (Eq.refl _), fun _ => ⟨by rw [y1, wi_n _ (by decide)], by rw [y2, wi_n _ (by decide)], by rw [y3, e10]⟩⟩
        simp (decide := true) only [e54, g54_0, g54_14, g54_26, g54_37, g54_51, g54_55, bm_run_ite, Option.toList_some, Option.bind_some, Option.toList_some, Option.toList_none, List.cons_append, List.nil_append, List.append_nil, eq_self, not_true_eq_false, not_false_eq_true, ite_true, ite_false, ↓reduceIte, Nat.reduceLT, Nat.reduceEqDiff, Nat.reduceAdd, or_true, true_or, or_false, false_or, e9, e8, e40, e10, a1, a2, k1]
      · have ib : inb (vN T n i) lo up = false := by
          have : up < vN T n i := Int32.not_le.mp a2
          unfold inb; simp [this]
        obtain ⟨σ1, k1, x1, f1⟩ := bad ib
        rw [ib, if_neg (by decide)]
        refine ⟨0, σ1, ?_, f0.tr f1, ⟨Eq.refl _, x1⟩, Or.inl (Eq.refl _), fun z => absurd z (by decide)⟩
        simp (decide := true) only [e54, g54_0, g54_14, g54_26, g54_37, g54_45, g54_50, bm_run_ite, Option.toList_some, Option.bind_some, Option.toList_some, Option.toList_none, List.cons_append, List.nil_append, List.append_nil, eq_self, not_true_eq_false, not_false_eq_true, ite_true, ite_false, ↓reduceIte, Nat.reduceLT, Nat.reduceEqDiff, Nat.reduceAdd, or_true, true_or, or_false, false_or, e9, e8, e40, e10, a1, a2, k1, if_true]
  · have ne : ¬ kcT (qN T n i) = 2 := by rw [← v20]; exact fun z => q ((kc_inj _ q_lt 20 (by decide)).mp z)
    obtain ⟨σ1, k1, x1, f1⟩ := c52 (S := S) (d := d) (w := 2) hKn hi c
    rw [if_neg q]
    refine ⟨0, σ1, ?_, f1, ⟨Eq.refl _, x1⟩, Or.inl (Eq.refl _), fun z => absurd z (by decide)⟩
    simp (decide := true) only [e54, g54_0, g54_8, g54_13, bm_run_ite, Option.toList_some, Option.bind_some, Option.toList_some, Option.toList_none, List.cons_append, List.nil_append, List.append_nil, eq_self, not_true_eq_false, not_false_eq_true, ite_true, ite_false, ↓reduceIte, Nat.reduceLT, Nat.reduceEqDiff, Nat.reduceAdd, or_true, true_or, or_false, false_or, e9, ne, k1, if_true]
end CLINE
