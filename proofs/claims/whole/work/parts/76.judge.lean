/-- deeds told, till one can't be: why, how many, what is then -/
def tlF (M L : Nat) (X : Nat → Int64) : Nat → Nat → (Nat → Int32) → Int32 × Nat × (Nat → Int32)
  | 0, k, B => (0, k, B)
  | r + 1, k, B => if wnB M L B (X k) = 0 then tlF M L X r (k + 1) (doB M L B (X k)) else (wnB M L B (X k), k, B)
theorem tlF_ok {M L : Nat} {X : Nat → Int64} : ∀ (r k : Nat) (B : Nat → Int32), OKB M L B → OKB M L (tlF M L X r k B).2.2 ∧ (∀ i, (i < 22 ∨ i = 25 ∨ 92 ≤ i) → (tlF M L X r k B).2.2 i = B i) ∧ k ≤ (tlF M L X r k B).2.1 ∧ (tlF M L X r k B).2.1 ≤ k + r ∧ ((tlF M L X r k B).2.1 = k → (tlF M L X r k B).2.2 = B) := by
  intro r
  induction r with
  | zero => intro k B h; exact ⟨h, fun _ _ => rfl, Nat.le_refl _, Nat.le_refl _, fun _ => rfl⟩
  | succ r ih =>
    intro k B h
    rw [tlF]
    split
    · next q =>
      obtain ⟨a1, a2, a3, a4, a5⟩ := ih (k + 1) _ (h.dn q)
      exact ⟨a1, fun i hi => (a2 i hi).trans (doB_out h q hi), by omega, by omega, fun z => by omega⟩
    · exact ⟨h, fun _ _ => rfl, Nat.le_refl _, Nat.le_add_right _ _, fun _ => rfl⟩
theorem tlF_cg {M L : Nat} {X Y : Nat → Int64} : ∀ (r k : Nat) (B : Nat → Int32), (∀ i, k ≤ i → i < k + r → X i = Y i) → tlF M L X r k B = tlF M L Y r k B := by
  intro r
  induction r with
  | zero => intro k B _; rfl
  | succ r ih =>
    intro k B h
    rw [tlF, tlF, h k (Nat.le_refl k) (by omega)]
    split
    · exact ih (k + 1) _ (fun i h1 h2 => h i (by omega) (by omega))
    · rfl
def Fye (w : Nat) (σ τ : bm_S) : Prop := (∀ a, (a < w ∨ w + 9 < a) → a ≠ 4 → a ≠ 147 → a ≠ 146 → τ.1 a = σ.1 a) ∧ τ.2 = σ.2
theorem Fye.tr {w : Nat} {σ τ ρ : bm_S} (h : Fye w σ τ) (h1 : Fye w τ ρ) : Fye w σ ρ := ⟨fun a ha hb hc hd => (h1.1 a ha hb hc hd).trans (h.1 a ha hb hc hd), h1.2.trans h.2⟩
theorem Fyd.e {w : Nat} {σ τ : bm_S} (h : Fyd w σ τ) : Fye w σ τ := ⟨fun a h1 h2 h3 _ => h.1 a h1 h2 h3, h.2⟩
theorem Fye.wi {w : Nat} {σ τ : bm_S} (h : Fye w σ τ) (k : Nat) (x : Int32) : Fye w σ (bm_wi τ 146 k x) := h.tr ⟨fun a _ _ _ hd => wi_n _ hd _ _, rfl⟩
section TRAYS
variable {S : am_S} {d : Nat} {σ : bm_S} {M L w : Nat} {B : Nat → Int32}
theorem c13l (hw : w + 9 < 146) (h5 : w = 15) (o : ob 2 w) {t n : Nat} (ht : t < 4) (h40 : n ≤ 40) {X : Nat → Int64} : ∀ (r k : Nat) (s : bm_S) (B : Nat → Int32), k + r = n → RW M L s w B → OKB M L B → BK s 2 B → s.1 (210 + 2 * t) 1 = nI n → s.2 (211 + 2 * t) = X → s.1 146 1 = 0 → ∃ s1, bm_run S (d + 7) 13 11 [some (.ref 146), some (.ref w), some (.ref 2), some (.ref (210 + 2 * t)), some (.int (nI k)), some (.int (nI k))] [] s = some (some (.int (nI (tlF M L X r k B).2.1)), s1) ∧ RW M L s1 w (tlF M L X r k B).2.2 ∧ s1.1 146 1 = (tlF M L X r k B).1 ∧ Fye w s s1 := by
  obtain ⟨t1, t2, t3⟩ := isT4 t ht
  intro r
  induction r with
  | zero =>
    intro k s B hk hr hok hb h8 h9 h6
    have e : k = n := by omega
    subst e
    refine ⟨s, ?_, hr, h6, ⟨fun _ _ _ _ _ => rfl, rfl⟩⟩
    rw [g13_11]
    simp (disch := omega) only [bm_run_ite, Option.toList_some, Option.bind_some, Option.toList_some, Option.toList_none, List.cons_append, List.nil_append, List.append_nil, eq_self, not_true_eq_false, not_false_eq_true, ite_true, ite_false, ↓reduceIte, Nat.reduceLT, Nat.reduceEqDiff, Nat.reduceAdd, or_true, true_or, or_false, false_or, nI_clamp2, nI_lt0F, nI_leT, nI_leF, nI_ltT, nI_ltF, n_leF, n_leT, nI_1, kA6, kA8, kA10, kA22, kA26, kA32, kA44, kA56, kA68, kA80, kA93, kA163, kA794, not_or, or_self, and_self, and_true, true_and, g13_55, t1, h8, tlF]
  | succ r ih =>
    intro k s B hk hr hok hb h8 h9 h6
    have c1 := c73 (S := S) (d := d + 6) (σ := s) ht (show k < 40 by omega)
    rw [h9] at c1
    obtain ⟨s1, k1, r1, f1⟩ := c14 (S := S) (d := d) hr hw o hb hok.1.1 (X k)
    have g8 : (bm_wi s1 146 1 (wnB M L B (X k))).1 (210 + 2 * t) 1 = nI n := by rw [wi_n _ (by omega), f1.1 _ (by omega) (by omega) (by omega)]; exact h8
    have fe : Fye w s (bm_wi s1 146 1 (wnB M L B (X k))) := f1.e.wi _ _
    rw [tlF]
    by_cases q : wnB M L B (X k) = 0
    · rw [if_pos q] at r1 ⊢
      have hb1 : BK (bm_wi s1 146 1 (wnB M L B (X k))) 2 (doB M L B (X k)) := by
        refine BK.cgK (hb.of ?_ ?_) (fun i hi => doB_out hok q (by omega))
        · exact fe.1 2 (by omega) (by omega) (by omega) (by omega)
        · exact fe.1 3 (by omega) (by omega) (by omega) (by omega)
      obtain ⟨s2, e2, r2, w2, f2⟩ := ih (k + 1) (bm_wi s1 146 1 (wnB M L B (X k))) (doB M L B (X k)) (by omega) (r1.of (fun a _ _ => wi_n _ (by omega) _ _)) (hok.dn q) hb1 g8 (by show s1.2 _ = X; rw [f1.2]; exact h9) (by rw [wi_s, upd_s, q])
      refine ⟨s2, ?_, r2, w2, fe.tr f2⟩
      rw [← e2, g13_11]
      simp (disch := omega) only [bm_run_ite, Option.toList_some, Option.bind_some, Option.toList_some, Option.toList_none, List.cons_append, List.nil_append, List.append_nil, eq_self, not_true_eq_false, not_false_eq_true, ite_true, ite_false, ↓reduceIte, Nat.reduceLT, Nat.reduceEqDiff, Nat.reduceAdd, or_true, true_or, or_false, false_or, nI_clamp2, nI_lt0F, nI_leT, nI_leF, nI_ltT, nI_ltF, n_leF, n_leT, nI_1, kA6, kA8, kA10, kA22, kA26, kA32, kA44, kA56, kA68, kA80, kA93, kA163, kA794, not_or, or_self, and_self, and_true, true_and, g13_20, g13_30, g13_33, g13_46, t1, h8, c1, k1, q, wi_s, upd_s]
    · rw [if_neg q] at r1 ⊢
      refine ⟨bm_wi s1 146 1 (wnB M L B (X k)), ?_, r1.of (fun a _ _ => wi_n _ (by omega) _ _), by rw [wi_s, upd_s], fe⟩
      rw [g13_11]
      simp (disch := omega) only [bm_run_ite, Option.toList_some, Option.bind_some, Option.toList_some, Option.toList_none, List.cons_append, List.nil_append, List.append_nil, eq_self, not_true_eq_false, not_false_eq_true, ite_true, ite_false, ↓reduceIte, Nat.reduceLT, Nat.reduceEqDiff, Nat.reduceAdd, or_true, true_or, or_false, false_or, nI_clamp2, nI_lt0F, nI_leT, nI_leF, nI_ltT, nI_ltF, n_leF, n_leT, nI_1, kA6, kA8, kA10, kA22, kA26, kA32, kA44, kA56, kA68, kA80, kA93, kA163, kA794, not_or, or_self, and_self, and_true, true_and, g13_20, g13_30, g13_33, g13_43, g13_55, t1, h8, c1, k1, q, wi_s, upd_s]
theorem m236l {t n : Nat} (ht : t < 4) (h40 : n ≤ 40) {X : Nat → Int64} (hM : M ≤ 6) (hL : L ≤ 12) : ∀ (r k : Nat) (s : bm_S) (B : Nat → Int32), k + r = n → s.1 219 = B → OKB M L B → s.1 236 t = nI n → (∀ i, i < n → s.2 237 (40 * t + i) = X i) → s.1 218 25 = 0 → ∃ s1, bm_run S (d + 9) 236 7 [some (.ref 218), some (.int (nI t)), some (.int (nI k))] [] s = some (some (.int (nI (tlF M L X r k B).2.1)), s1) ∧ s1.1 219 = (tlF M L X r k B).2.2 ∧ s1.1 218 25 = (tlF M L X r k B).1 ∧ (∀ a, ¬ Sc a → a ≠ 218 → a ≠ 219 → s1.1 a = s.1 a) ∧ s1.1 228 = s.1 228 ∧ (∀ b, b = 5 ∨ b = 13 ∨ b = 14 → s1.1 218 b = s.1 218 b) ∧ s1.2 = s.2 := by
  intro r
  induction r with
  | zero =>
    intro k s B hk hb hok h34 hx h25
    have e : k = n := by omega
    subst e
    refine ⟨s, ?_, hb, h25, fun _ _ _ _ => rfl, rfl, fun _ _ => rfl, rfl⟩
    rw [g236_7]
    simp (disch := omega) only [bm_run_ite, Option.toList_some, Option.bind_some, Option.toList_some, Option.toList_none, List.cons_append, List.nil_append, List.append_nil, eq_self, not_true_eq_false, not_false_eq_true, ite_true, ite_false, ↓reduceIte, Nat.reduceLT, Nat.reduceEqDiff, Nat.reduceAdd, or_true, true_or, or_false, false_or, nI_clamp2, nI_lt0F, nI_leT, nI_leF, nI_ltT, nI_ltF, n_leF, n_leT, nI_1, kA6, kA8, kA10, kA22, kA26, kA32, kA44, kA56, kA68, kA80, kA93, kA163, kA794, not_or, or_self, and_self, and_true, true_and, g236_67, h34, tlF]
  | succ r ih =>
    intro k s B hk hb hok h34 hx h25
    have hxk := hx k (by omega)
    have mr : ∀ τ : bm_S, τ.1 219 = B → MR M L τ := fun τ ht => ⟨⟨hM, hL⟩, by rw [ht]; exact hok.2.2.2.1.2.2.1, by rw [ht]; exact hok.2.2.2.1.2.2.2⟩
    obtain ⟨s1, k1, f1, b1⟩ := m234 (S := S) (d := d + 5) (mr s hb) (by rw [hb]; exact hok.1.1.2.1) (X k)
    rw [hb] at k1 b1
    have b2 : (bm_wi s1 218 25 (wnB M L B (X k))).1 219 = B := by rw [wi_n _ (by decide)]; exact b1
    rw [tlF]
    by_cases q : wnB M L B (X k) = 0
    · rw [if_pos q]
      obtain ⟨s2, k2, b3, f2⟩ := m235 (S := S) (d := d + 1) (σ := bm_wi s1 218 25 (wnB M L B (X k))) (mr _ b2) (by rw [b2]; exact hok) (v := X k) (by rw [b2]; exact q)
      rw [b2] at b3
      have s2x : s2.2 = s.2 := by rw [f2.2.2.2]; exact f1.2.2.2
      have u25 : s2.1 218 25 = 0 := by rw [f2.2.2.1 25 (by omega), wi_s, upd_s, q]
      obtain ⟨s3, e3, c1, c2, c3, c4, c5, c6⟩ := ih (k + 1) s2 (doB M L B (X k)) (by omega) b3 (hok.dn q) (by rw [f2.1 236 (by unfold Sc; omega) (by decide) (by decide), wi_n _ (by decide), f1.1 236 (by unfold Sc; omega) (by decide) (by decide)]; exact h34) (fun i hi => by rw [s2x]; exact hx i hi) u25
      refine ⟨s3, ?_, c1, c2, ?_, ?_, ?_, ?_⟩
      · rw [← e3, g236_7]
        have x1 : (bm_wi s1 218 25 (wnB M L B (X k))).2 = s.2 := f1.2.2.2
        rw [q] at k1 k2 x1
        simp (disch := omega) only [bm_run_ite, Option.toList_some, Option.bind_some, Option.toList_some, Option.toList_none, List.cons_append, List.nil_append, List.append_nil, eq_self, not_true_eq_false, not_false_eq_true, ite_true, ite_false, ↓reduceIte, Nat.reduceLT, Nat.reduceEqDiff, Nat.reduceAdd, or_true, true_or, or_false, false_or, nI_clamp2, nI_lt0F, nI_leT, nI_leF, nI_ltT, nI_ltF, n_leF, n_leT, nI_1, kA6, kA8, kA10, kA22, kA26, kA32, kA44, kA56, kA68, kA80, kA93, kA163, kA794, not_or, or_self, and_self, and_true, true_and, g236_17, g236_33, g236_45, g236_61, h34, mul40 t ht, nI_add, hxk, k1, q, wi_s, upd_s, x1, k2]
      · intro a h1 h2 h3
        rw [c3 a h1 h2 h3, f2.1 a h1 h2 h3, wi_n _ h2, f1.1 a h1 h2 h3]
      · rw [c4, f2.2.1, wi_n _ (by decide), f1.2.1]
      · intro b hb2
        rw [c5 b hb2, f2.2.2.1 b (by omega), wi_s, upd_n _ _ (by omega), f1.2.2.1 b (by omega)]
      · rw [c6, s2x]
    · rw [if_neg q]
      refine ⟨bm_wi s1 218 25 (wnB M L B (X k)), ?_, b2, by rw [wi_s, upd_s], ?_, ?_, ?_, f1.2.2.2⟩
      · rw [g236_7]
        simp (disch := omega) only [bm_run_ite, Option.toList_some, Option.bind_some, Option.toList_some, Option.toList_none, List.cons_append, List.nil_append, List.append_nil, eq_self, not_true_eq_false, not_false_eq_true, ite_true, ite_false, ↓reduceIte, Nat.reduceLT, Nat.reduceEqDiff, Nat.reduceAdd, or_true, true_or, or_false, false_or, nI_clamp2, nI_lt0F, nI_leT, nI_leF, nI_ltT, nI_ltF, n_leF, n_leT, nI_1, kA6, kA8, kA10, kA22, kA26, kA32, kA44, kA56, kA68, kA80, kA93, kA163, kA794, not_or, or_self, and_self, and_true, true_and, g236_17, g236_33, g236_43, h34, mul40 t ht, nI_add, hxk, k1, q, wi_s, upd_s]
      · intro a h1 h2 h3
        rw [wi_n _ h2, f1.1 a h1 h2 h3]
      · rw [wi_n _ (by decide), f1.2.1]
      · intro b hb2
        rw [wi_s, upd_n _ _ (by omega), f1.2.2.1 b (by omega)]
theorem isW15 : isW 15 := by unfold isW; decide
/-- the class: a row's deeds in its second world -/
theorem c13 (h : RS M L σ) {t n : Nat} (ht : t < 4) (h40 : n ≤ 40) (hn : σ.1 (210 + 2 * t) 1 = nI n) : ∃ σ0 σ1, bm_call S (d + 9) 77 [.ref 15, .ref 5] σ = some (none, σ0) ∧ bm_call S (d + 9) 13 [.ref 146, .ref 15, .ref 2, .ref (210 + 2 * t)] σ0 = some (some (.int (nI (tlF M L (σ.2 (211 + 2 * t)) n 0 (σ.1 219)).2.1)), σ1) ∧ RW M L σ1 15 (tlF M L (σ.2 (211 + 2 * t)) n 0 (σ.1 219)).2.2 ∧ σ1.1 146 1 = (tlF M L (σ.2 (211 + 2 * t)) n 0 (σ.1 219)).1 ∧ Kp σ σ1 := by
  obtain ⟨σ0, k0, f0, w0⟩ := c77 (S := S) (d := d + 7) (σ := σ) isW5 isW15 (by decide)
  have fe0 : Fye 15 σ0 (bm_wi σ0 146 1 0) := (show Fye 15 σ0 σ0 from ⟨fun _ _ _ _ _ => rfl, rfl⟩).wi _ _
  have fa : Fye 15 σ (bm_wi σ0 146 1 0) := ((f0.b (b := 2)).d.e).tr fe0
  obtain ⟨σ1, k1, r1, w1, f1⟩ := c13l (S := S) (d := d + 2) (M := M) (L := L) (w := 15) (by decide) rfl (by unfold ob; omega) ht h40 (X := σ.2 (211 + 2 * t)) n 0 (bm_wi σ0 146 1 0) (σ.1 219) (by omega) ((w0 h.rw).of (fun a _ _ => wi_n _ (by omega) _ _)) h.1.1 (h.bk.of (fa.1 2 (by omega) (by omega) (by omega) (by omega)) (fa.1 3 (by omega) (by omega) (by omega) (by omega))) (by rw [fa.1 _ (by omega) (by omega) (by omega) (by omega)]; exact hn) (by rw [fa.2]) (by rw [wi_s, upd_s])
  refine ⟨σ0, σ1, k0, ?_, r1, w1, ?_⟩
  · rw [e13, g13_0]
    exact k1
  · have fz := fa.tr f1
    exact ⟨fun a x y => fz.1 a (by unfold Sc at x; omega) (by unfold Sc at x; omega) (by unfold Sc at x; omega) (by unfold Sc at x; omega), fun b _ => by rw [fz.1 218 (by omega) (by omega) (by omega) (by omega)], fun a _ => by rw [fz.2]⟩
end TRAYS
section JUDGE
variable {S : am_S} {d : Nat} {σ : bm_S} {M L : Nat}
theorem p_judge (h : RS M L σ) (i w : Int32) : PR S (d + 10) 122 237 [.int i, .int w] σ := by
  have hM := h.rw.M6
  have hL := h.rw.L12
  have s3 : ¬ Sc 235 := by unfold Sc; omega
  have s4 : ¬ Sc 236 := by unfold Sc; omega
  have s7 : ¬ Sc 219 := by unfold Sc; omega
  rcases bW_01 w.toInt64 0 3 with qw | qw
  · refine PR.ofk (v := .int (Int32.ofInt (-2))) h ⟨σ, ?_, Kp.rfl σ⟩ ?_
    · cases hi : hasI i 4
      · simp (decide := true) only [e122, g122_0, g122_5n, g122_22, bm_run_ite, Option.toList_some, Option.bind_some, Option.toList_some, Option.toList_none, List.cons_append, List.nil_append, List.append_nil, eq_self, not_true_eq_false, not_false_eq_true, ite_true, ite_false, ↓reduceIte, Nat.reduceLT, Nat.reduceEqDiff, Nat.reduceAdd, or_true, true_or, or_false, false_or, c154n hi]
      · obtain ⟨t, ht, rfl⟩ := hasI_of hi (by decide)
        simp (decide := true) only [e122, g122_0, g122_5r, g122_10r, g122_19r, g122_22, bm_run_ite, Option.toList_some, Option.bind_some, Option.toList_some, Option.toList_none, List.cons_append, List.nil_append, List.append_nil, eq_self, not_true_eq_false, not_false_eq_true, ite_true, ite_false, ↓reduceIte, Nat.reduceLT, Nat.reduceEqDiff, Nat.reduceAdd, or_true, true_or, or_false, false_or, c154 ht, c157, qw]
    · intro τ k
      exact ⟨_, by simp (decide := true) only [e237, g237_0, g237_14, g237_17, bm_run_ite, Option.toList_some, Option.bind_some, Option.toList_some, Option.toList_none, List.cons_append, List.nil_append, List.append_nil, eq_self, not_true_eq_false, not_false_eq_true, ite_true, ite_false, ↓reduceIte, Nat.reduceLT, Nat.reduceEqDiff, Nat.reduceAdd, or_true, true_or, or_false, false_or, c163, qw], kp_t0 τ⟩
  cases hi : hasI i 4
  · refine PR.ofk (v := .int (Int32.ofInt (-2))) h ⟨σ, by simp (decide := true) only [e122, g122_0, g122_5n, g122_22, bm_run_ite, Option.toList_some, Option.bind_some, Option.toList_some, Option.toList_none, List.cons_append, List.nil_append, List.append_nil, eq_self, not_true_eq_false, not_false_eq_true, ite_true, ite_false, ↓reduceIte, Nat.reduceLT, Nat.reduceEqDiff, Nat.reduceAdd, or_true, true_or, or_false, false_or, c154n hi], Kp.rfl σ⟩ ?_
    intro τ k
    exact ⟨_, by simp (decide := true) only [e237, g237_0, g237_14, g237_20, g237_25, g237_30, bm_run_ite, Option.toList_some, Option.bind_some, Option.toList_some, Option.toList_none, List.cons_append, List.nil_append, List.append_nil, eq_self, not_true_eq_false, not_false_eq_true, ite_true, ite_false, ↓reduceIte, Nat.reduceLT, Nat.reduceEqDiff, Nat.reduceAdd, or_true, true_or, or_false, false_or, c163, qw, m229a hi], kp_t0 τ⟩
  obtain ⟨t, ht, rfl⟩ := hasI_of hi (by decide)
  obtain ⟨t1, t2, t3⟩ := isT4 t ht
  rcases h.2.2.2.1 t ht with ⟨i1, i2⟩ | ⟨s, n, hs, hn, i1, i2, i3, i4, i5⟩
  · refine PR.ofk (v := .int (Int32.ofInt (-6))) h ⟨σ, by simp (decide := true) only [e122, g122_0, g122_5r, g122_10r, g122_19r, g122_25r, g122_29r, g122_32, bm_run_ite, Option.toList_some, Option.bind_some, Option.toList_some, Option.toList_none, List.cons_append, List.nil_append, List.append_nil, eq_self, not_true_eq_false, not_false_eq_true, ite_true, ite_false, ↓reduceIte, Nat.reduceLT, Nat.reduceEqDiff, Nat.reduceAdd, or_true, true_or, or_false, false_or, c154 ht, c157, qw, t1, c71 ht, i1, bI_ite, decide_true, decide_false, Bool.false_eq_true], Kp.rfl σ⟩ ?_
    intro τ k
    have j1 : (bm_wi τ 218 0 0).1 235 t = Int32.ofInt (-1) := by rw [wi_n _ (by decide), k.at s3 (by omega)]; exact i2
    exact ⟨_, by simp (decide := true) only [e237, g237_0, g237_14, g237_20, g237_25, g237_30, bm_run_ite, Option.toList_some, Option.bind_some, Option.toList_some, Option.toList_none, List.cons_append, List.nil_append, List.append_nil, eq_self, not_true_eq_false, not_false_eq_true, ite_true, ite_false, ↓reduceIte, Nat.reduceLT, Nat.reduceEqDiff, Nat.reduceAdd, or_true, true_or, or_false, false_or, c163, qw, m229b ht j1], kp_t0 τ⟩
  have nmm : ¬ nI n = Int32.ofInt (-1) := nm1 (by omega)
  obtain ⟨σ0, σ1, k0, k1, r1, w1, kp1⟩ := c13 (S := S) (d := d) h ht hn i1
  have hok := h.1.1
  generalize hB : σ.1 219 = B at *
  generalize hX : σ.2 (211 + 2 * t) = X at *
  obtain ⟨tok, tout, _, _, _⟩ := tlF_ok (X := X) n 0 B hok
  generalize hT : tlF M L X n 0 B = T at *
  refine PR.ofk (v := .int (if w = 0 then (if T.1 = 0 then Int32.ofInt (-1) else nI T.2.1) else if w = 1 then T.1 else if w = 2 then T.2.2 24 else T.2.2 22)) h ⟨σ1, ?_, kp1⟩ ?_
  · simp (decide := true) only [e122, g122_0, g122_5r, g122_10r, g122_19r, g122_25r, g122_29r, g122_35r, g122_46r, g122_62, bm_run_ite, Option.toList_some, Option.bind_some, Option.toList_some, Option.toList_none, List.cons_append, List.nil_append, List.append_nil, eq_self, not_true_eq_false, not_false_eq_true, ite_true, ite_false, ↓reduceIte, Nat.reduceLT, Nat.reduceEqDiff, Nat.reduceAdd, or_true, true_or, or_false, false_or, c154 ht, c157, qw, t1, c71 ht, i1, nmm, bI_ite, decide_true, decide_false, Bool.false_eq_true, k0, k1]
    by_cases w0 : w = 0
    · subst w0
      by_cases q : T.1 = 0
      · simp (decide := true) only [if_true, if_false, g122_92, g122_102, g122_108, bm_run_ite, Option.toList_some, Option.bind_some, Option.toList_some, Option.toList_none, List.cons_append, List.nil_append, List.append_nil, eq_self, not_true_eq_false, not_false_eq_true, ite_true, ite_false, ↓reduceIte, Nat.reduceLT, Nat.reduceEqDiff, Nat.reduceAdd, or_true, true_or, or_false, false_or, w1, q]
      · simp (decide := true) only [if_true, if_false, g122_92, g122_106, g122_108, bm_run_ite, Option.toList_some, Option.bind_some, Option.toList_some, Option.toList_none, List.cons_append, List.nil_append, List.append_nil, eq_self, not_true_eq_false, not_false_eq_true, ite_true, ite_false, ↓reduceIte, Nat.reduceLT, Nat.reduceEqDiff, Nat.reduceAdd, or_true, true_or, or_false, false_or, w1, q]
    · by_cases w1' : w = 1
      · subst w1'; simp (decide := true) only [if_true, if_false, g122_109, w1]
      · by_cases w2 : w = 2
        · subst w2; simp (decide := true) only [if_true, if_false, g122_117, r1.f2]
        · simp (decide := true) only [if_true, if_false, w0, w1', w2, g122_125, r1.f3]
  · intro τ k
    generalize hρ : bm_wi τ 218 0 0 = ρ
    have kρ : Kp σ ρ := by rw [← hρ]; exact k.tr (kp_t0 τ)
    have kτ : Kp τ ρ := by rw [← hρ]; exact kp_t0 τ
    have j1 : ρ.1 235 t = nI s := by rw [kρ.at s3 (by omega)]; exact i3
    have b0 : ρ.1 219 = B := by rw [kρ.at s7 (by omega)]; exact hB
    obtain ⟨g1, k2, kg⟩ := m215 (S := S) (d := d + 9) (σ := ρ)
    rw [b0] at kg
    have b1 : (bm_row ρ 228 g1).1 219 = B := (bm_row_1n _ _ (by decide)).trans b0
    obtain ⟨σ3, k3, c1, c2, c3, c4, c5, c6⟩ := m236l (S := S) (d := d) (X := X) ht hn hM hL n 0 (bm_wi (bm_row ρ 228 g1) 218 25 0) B (by omega) (by rw [wi_n _ (by decide)]; exact b1) hok (by rw [wi_n _ (by decide), bm_row_1n _ _ (by decide), kρ.at s4 (by omega)]; exact i4) (fun j hj => by
      show ρ.2 237 (40 * t + j) = X j
      rw [kρ.2.2 237 (by omega), ← i5 j hj]) (by rw [wi_s, upd_s])
    rw [hT] at k3 c1 c2
    have e26 : σ3.1 228 = g1 := by rw [c4, wi_n _ (by decide), row_row1]
    have ea := again (σ := ρ) (τ := σ3) (by rw [b0]; exact kg) e26 (fun j hj => by rw [c1, b0]; exact tout j (by omega))
    have kf : Kp τ (bm_row σ3 219 (ρ.1 219)) := by
      refine kτ.tr ⟨fun a x y => ?_, fun b hb => ?_, fun a _ => ?_⟩
      · by_cases e : a = 219
        · subst e; rw [row_row1]
        · rw [bm_row_1n _ _ e, c3 a x y e, wi_n _ y, bm_row_1n _ _ (by unfold Sc at x; omega)]
      · rw [bm_row_1n _ _ (by decide), c5 b hb, wi_s, upd_n _ _ (by omega), bm_row_1n _ _ (by decide)]
      · show σ3.2 a = ρ.2 a
        rw [c6]; rfl
    refine ⟨bm_row σ3 219 (ρ.1 219), ?_, kf⟩
    rw [c1] at ea
    have k4 : bm_call S (d + 9) 236 [.ref 218, .int (nI t)] (bm_row ρ 228 g1) = some (some (.int (nI T.2.1)), σ3) := by rw [e236, g236_0]; exact k3
    have u25 : (bm_row σ3 219 (ρ.1 219)).1 218 25 = T.1 := by rw [bm_row_1n _ _ (by decide)]; exact c2
    simp (decide := true) only [e237, g237_0, hρ, g237_14, g237_20, g237_25, g237_32, g237_36, g237_41, g237_65, bm_run_ite, Option.toList_some, Option.bind_some, Option.toList_some, Option.toList_none, List.cons_append, List.nil_append, List.append_nil, eq_self, not_true_eq_false, not_false_eq_true, ite_true, ite_false, ↓reduceIte, Nat.reduceLT, Nat.reduceEqDiff, Nat.reduceAdd, or_true, true_or, or_false, false_or, c163, qw, m229c ht hs j1, k2, k4, m216, ea, c1]
    by_cases w0 : w = 0
    · subst w0
      by_cases q : T.1 = 0
      · simp (decide := true) only [if_true, if_false, g237_69, g237_76, g237_109, bm_run_ite, Option.toList_some, Option.bind_some, Option.toList_some, Option.toList_none, List.cons_append, List.nil_append, List.append_nil, eq_self, not_true_eq_false, not_false_eq_true, ite_true, ite_false, ↓reduceIte, Nat.reduceLT, Nat.reduceEqDiff, Nat.reduceAdd, or_true, true_or, or_false, false_or, u25, q]
      · simp (decide := true) only [if_true, if_false, g237_69, g237_80, g237_109, bm_run_ite, Option.toList_some, Option.bind_some, Option.toList_some, Option.toList_none, List.cons_append, List.nil_append, List.append_nil, eq_self, not_true_eq_false, not_false_eq_true, ite_true, ite_false, ↓reduceIte, Nat.reduceLT, Nat.reduceEqDiff, Nat.reduceAdd, or_true, true_or, or_false, false_or, u25, q]
    · by_cases w1' : w = 1
      · subst w1'; simp (decide := true) only [if_true, if_false, g237_85, g237_90, g237_109, bm_run_ite, Option.toList_some, Option.bind_some, Option.toList_some, Option.toList_none, List.cons_append, List.nil_append, List.append_nil, eq_self, not_true_eq_false, not_false_eq_true, ite_true, ite_false, ↓reduceIte, Nat.reduceLT, Nat.reduceEqDiff, Nat.reduceAdd, or_true, true_or, or_false, false_or, u25]
      · by_cases w2 : w = 2
        · subst w2; simp (decide := true) only [if_true, if_false, g237_85, g237_97, g237_102, g237_109, bm_run_ite, Option.toList_some, Option.bind_some, Option.toList_some, Option.toList_none, List.cons_append, List.nil_append, List.append_nil, eq_self, not_true_eq_false, not_false_eq_true, ite_true, ite_false, ↓reduceIte, Nat.reduceLT, Nat.reduceEqDiff, Nat.reduceAdd, or_true, true_or, or_false, false_or]
        · simp (decide := true) only [if_true, if_false, w0, w1', w2, g237_85, g237_97, g237_107, g237_109, bm_run_ite, Option.toList_some, Option.bind_some, Option.toList_some, Option.toList_none, List.cons_append, List.nil_append, List.append_nil, eq_self, not_true_eq_false, not_false_eq_true, ite_true, ite_false, ↓reduceIte, Nat.reduceLT, Nat.reduceEqDiff, Nat.reduceAdd, or_true, true_or, or_false, false_or]
/-- what was done in the second world stands now -/
theorem goOn {σ1 : bm_S} {T : Nat → Int32} (h1 : RS M L σ1) (r1 : RW M L σ1 15 T) : ∃ σ2 σ3 n e n1 e1, bm_call S (d + 5) 156 [.ref 0, .ref 15] σ1 = some (none, σ3) ∧ AF M L σ1 σ2 n e n1 e1 ∧ Fx 5 σ2 σ3 ∧ RW M L σ3 5 T := by
  obtain ⟨σ2, n, e, n1, e1, k1, af⟩ := rem_RS (S := S) (d := d + 1) h1
  have r2 : RW M L σ2 15 T := r1.of (fun a _ _ => af.at (by omega))
  obtain ⟨σ3, k2, f2, w2⟩ := c77 (S := S) (d := d + 2) (σ := σ2) isW15 isW5 (by decide)
  refine ⟨σ2, σ3, n, e, n1, e1, ?_, af, f2, w2 r2⟩
  simp only [e156, g156_0, g156_11, g156_19, bm_run_ite, Option.toList_some, Option.bind_some, Option.toList_some, Option.toList_none, List.cons_append, List.nil_append, List.append_nil, eq_self, not_true_eq_false, not_false_eq_true, ite_true, ite_false, ↓reduceIte, Nat.reduceLT, Nat.reduceEqDiff, Nat.reduceAdd, or_true, true_or, or_false, false_or, k1, k2]
theorem p_perform (h : RS M L σ) (i : Int32) : PR S (d + 10) 123 238 [.int i] σ := by
  have hM := h.rw.M6
  have hL := h.rw.L12
  have s3 : ¬ Sc 235 := by unfold Sc; omega
  have s4 : ¬ Sc 236 := by unfold Sc; omega
  have s7 : ¬ Sc 219 := by unfold Sc; omega
  cases hi : hasI i 4
  · refine PR.ofk (v := .int (Int32.ofInt (-2))) h ⟨σ, by simp (decide := true) only [e123, g123_0, g123_5n, g123_10, bm_run_ite, Option.toList_some, Option.bind_some, Option.toList_some, Option.toList_none, List.cons_append, List.nil_append, List.append_nil, eq_self, not_true_eq_false, not_false_eq_true, ite_true, ite_false, ↓reduceIte, Nat.reduceLT, Nat.reduceEqDiff, Nat.reduceAdd, or_true, true_or, or_false, false_or, c154n hi], Kp.rfl σ⟩ ?_
    intro τ k
    exact ⟨_, by simp (decide := true) only [e238, g238_0, g238_10, g238_15, bm_run_ite, Option.toList_some, Option.bind_some, Option.toList_some, Option.toList_none, List.cons_append, List.nil_append, List.append_nil, eq_self, not_true_eq_false, not_false_eq_true, ite_true, ite_false, ↓reduceIte, Nat.reduceLT, Nat.reduceEqDiff, Nat.reduceAdd, or_true, true_or, or_false, false_or, m229a hi], kp_t0 τ⟩
  obtain ⟨t, ht, rfl⟩ := hasI_of hi (by decide)
  obtain ⟨t1, t2, t3⟩ := isT4 t ht
  rcases h.2.2.2.1 t ht with ⟨i1, i2⟩ | ⟨s, n, hs, hn, i1, i2, i3, i4, i5⟩
  · refine PR.ofk (v := .int (Int32.ofInt (-6))) h ⟨σ, by simp (decide := true) only [e123, g123_0, g123_5r, g123_13r, g123_17r, g123_20, bm_run_ite, Option.toList_some, Option.bind_some, Option.toList_some, Option.toList_none, List.cons_append, List.nil_append, List.append_nil, eq_self, not_true_eq_false, not_false_eq_true, ite_true, ite_false, ↓reduceIte, Nat.reduceLT, Nat.reduceEqDiff, Nat.reduceAdd, or_true, true_or, or_false, false_or, c154 ht, t1, c71 ht, i1, bI_ite, decide_true, decide_false, Bool.false_eq_true], Kp.rfl σ⟩ ?_
    intro τ k
    have j1 : (bm_wi τ 218 0 0).1 235 t = Int32.ofInt (-1) := by rw [wi_n _ (by decide), k.at s3 (by omega)]; exact i2
    exact ⟨_, by simp (decide := true) only [e238, g238_0, g238_10, g238_15, bm_run_ite, Option.toList_some, Option.bind_some, Option.toList_some, Option.toList_none, List.cons_append, List.nil_append, List.append_nil, eq_self, not_true_eq_false, not_false_eq_true, ite_true, ite_false, ↓reduceIte, Nat.reduceLT, Nat.reduceEqDiff, Nat.reduceAdd, or_true, true_or, or_false, false_or, m229b ht j1], kp_t0 τ⟩
  have nmm : ¬ nI n = Int32.ofInt (-1) := nm1 (by omega)
  obtain ⟨σ0, σ1, k0, k1, r1, w1, kp1⟩ := c13 (S := S) (d := d) h ht hn i1
  have hok := h.1.1
  have h1 := h.kp kp1
  -- the reference, from any state that holds the same
  have ref : ∀ ρ : bm_S, ρ.1 219 = σ.1 219 → ρ.1 235 t = nI s → ρ.1 236 t = nI n → ρ.2 237 = σ.2 237 → ∃ g1 σ3, bm_run S (d + 10) 238 0 [some (.ref 218), some (.int (nI t)), none, none] [] ρ = bm_run S (d + 10) 238 26 [some (.ref 218), some (.int (nI t)), some (.int 0), none] [.int (nI (tlF M L (σ.2 (211 + 2 * t)) n 0 (σ.1 219)).2.1)] σ3 ∧ σ3.1 219 = (tlF M L (σ.2 (211 + 2 * t)) n 0 (σ.1 219)).2.2 ∧ σ3.1 228 = g1 ∧ (∀ j, j < 70 → g1 j = σ.1 219 (22 + j)) ∧ (∀ a, ¬ Sc a → a ≠ 218 → a ≠ 219 → σ3.1 a = ρ.1 a) ∧ (∀ b, b = 5 ∨ b = 13 ∨ b = 14 → σ3.1 218 b = ρ.1 218 b) ∧ σ3.2 = ρ.2 := by
    intro ρ b0 j3 j4 j5
    have b0' : (bm_wi ρ 218 0 0).1 219 = σ.1 219 := by rw [wi_n _ (by decide)]; exact b0
    obtain ⟨g1, k2, kg⟩ := m215 (S := S) (d := d + 9) (σ := bm_wi ρ 218 0 0)
    rw [b0'] at kg
    have b1 : (bm_row (bm_wi ρ 218 0 0) 228 g1).1 219 = σ.1 219 := (bm_row_1n _ _ (by decide)).trans b0'
    obtain ⟨σ3, k3, c1, c2, c3, c4, c5, c6⟩ := m236l (S := S) (d := d) (X := σ.2 (211 + 2 * t)) ht hn hM hL n 0 (bm_wi (bm_row (bm_wi ρ 218 0 0) 228 g1) 218 25 0) (σ.1 219) (by omega) (by rw [wi_n _ (by decide)]; exact b1) hok (by rw [wi_n _ (by decide), bm_row_1n _ _ (by decide), wi_n _ (by decide)]; exact j4) (fun j hj => by
      show ρ.2 237 (40 * t + j) = _
      rw [j5, ← i5 j hj]) (by rw [wi_s, upd_s])
    have k4 : bm_call S (d + 9) 236 [.ref 218, .int (nI t)] (bm_row (bm_wi ρ 218 0 0) 228 g1) = some (some (.int (nI (tlF M L (σ.2 (211 + 2 * t)) n 0 (σ.1 219)).2.1)), σ3) := by rw [e236, g236_0]; exact k3
    have j1 : (bm_wi ρ 218 0 0).1 235 t = nI s := by rw [wi_n _ (by decide)]; exact j3
    refine ⟨g1, σ3, ?_, c1, by rw [c4, wi_n _ (by decide), row_row1], kg, ?_, ?_, by rw [c6]; rfl⟩
    · simp (decide := true) only [g238_0, g238_10, g238_17, g238_21, bm_run_ite, Option.toList_some, Option.bind_some, Option.toList_some, Option.toList_none, List.cons_append, List.nil_append, List.append_nil, eq_self, not_true_eq_false, not_false_eq_true, ite_true, ite_false, ↓reduceIte, Nat.reduceLT, Nat.reduceEqDiff, Nat.reduceAdd, or_true, true_or, or_false, false_or, m229c ht hs j1, k2, k4]
    · intro a x y z
      rw [c3 a x y z, wi_n _ y, bm_row_1n _ _ (by unfold Sc at x; omega), wi_n _ y]
    · intro b hb
      rw [c5 b hb, wi_s, upd_n _ _ (by omega), bm_row_1n _ _ (by decide), wi_s, upd_n _ _ (by omega)]
  obtain ⟨tok, tout, t0, tn, tsame⟩ := tlF_ok (X := σ.2 (211 + 2 * t)) n 0 (σ.1 219) hok
  generalize hT : tlF M L (σ.2 (211 + 2 * t)) n 0 (σ.1 219) = T at *
  rcases Nat.eq_zero_or_pos T.2.1 with q | q
  · have l0 : nI T.2.1 ≤ 0 := by rw [q]; decide
    refine PR.ofk (v := .int (nI T.2.1)) h ⟨σ1, ?_, kp1⟩ ?_
    · simp (decide := true) only [e123, g123_0, g123_5r, g123_13r, g123_17r, g123_23r, g123_34r, g123_50, g123_63, bm_run_ite, Option.toList_some, Option.bind_some, Option.toList_some, Option.toList_none, List.cons_append, List.nil_append, List.append_nil, eq_self, not_true_eq_false, not_false_eq_true, ite_true, ite_false, ↓reduceIte, Nat.reduceLT, Nat.reduceEqDiff, Nat.reduceAdd, or_true, true_or, or_false, false_or, c154 ht, t1, c71 ht, i1, nmm, bI_ite, decide_true, decide_false, Bool.false_eq_true, k0, k1, l0]
    · intro τ k
      obtain ⟨g1, σ3, k3, c1, c4, _, c3, c5, c6⟩ := ref τ (k.at s7 (by omega)) (by rw [k.at s3 (by omega)]; exact i3) (by rw [k.at s4 (by omega)]; exact i4) (k.2.2 237 (by omega))
      refine ⟨σ3, ?_, ?_⟩
      · rw [e238, k3, g238_26]
        simp (decide := true) only [bm_run_ite, Option.toList_some, Option.bind_some, Option.toList_some, Option.toList_none, List.cons_append, List.nil_append, List.append_nil, eq_self, not_true_eq_false, not_false_eq_true, ite_true, ite_false, ↓reduceIte, Nat.reduceLT, Nat.reduceEqDiff, Nat.reduceAdd, or_true, true_or, or_false, false_or, l0, g238_35]
      · refine ⟨fun a x y => ?_, c5, fun a _ => by rw [c6]⟩
        by_cases e : a = 219
        · subst e; rw [c1, tsame q, k.at s7 (by omega)]
        · exact c3 a x y e
  · have l0 : ¬ nI T.2.1 ≤ 0 := nI_nle q (by omega)
    obtain ⟨σ2, σ4, m, e, n1, e1, k5, af, f5, r5⟩ := goOn (S := S) (d := d + 4) h1 r1
    have sm : ∀ a, 141 < a → σ4.1 a = σ1.1 a := fun a ha => by rw [f5.1 a (by omega), af.at (by omega)]
    have sx : σ4.2 = σ1.2 := by
      obtain ⟨_, _, _, _, _, _, _, _, _, _, a11⟩ := af
      rw [f5.2, a11]
    obtain ⟨g1, σ3, k3, c1, c4, kg, c3, c5, c6⟩ := ref σ4 (by rw [sm 219 (by omega)]; exact kp1.at s7 (by omega)) (by rw [sm 235 (by omega), kp1.at s3 (by omega)]; exact i3) (by rw [sm 236 (by omega), kp1.at s4 (by omega)]; exact i4) (by rw [sx]; exact kp1.2.2 237 (by omega))
    have e17 : σ1.1 219 = σ.1 219 := kp1.at s7 (by omega)
    obtain ⟨k7, rs⟩ := mut_fin2 (S := S) (d := d + 9) (ρ2 := σ3) h1 af f5.b (fun j hj => by rw [c4, kg j hj, e17]) c3 c5 (fun a _ => by rw [c6]) c1 (fun j hj => by rw [tout j (by omega), e17]) tok r5
    refine ⟨.int (nI T.2.1), σ4, _, M, L, ?_, ?_, rs⟩
    · simp (decide := true) only [e123, g123_0, g123_5r, g123_13r, g123_17r, g123_23r, g123_34r, g123_50, g123_55, g123_63, bm_run_ite, Option.toList_some, Option.bind_some, Option.toList_some, Option.toList_none, List.cons_append, List.nil_append, List.append_nil, eq_self, not_true_eq_false, not_false_eq_true, ite_true, ite_false, ↓reduceIte, Nat.reduceLT, Nat.reduceEqDiff, Nat.reduceAdd, or_true, true_or, or_false, false_or, c154 ht, t1, c71 ht, i1, nmm, bI_ite, decide_true, decide_false, Bool.false_eq_true, k0, k1, l0, k5]
    · rw [e238, k3, g238_26]
      simp (decide := true) only [bm_run_ite, Option.toList_some, Option.bind_some, Option.toList_some, Option.toList_none, List.cons_append, List.nil_append, List.append_nil, eq_self, not_true_eq_false, not_false_eq_true, ite_true, ite_false, ↓reduceIte, Nat.reduceLT, Nat.reduceEqDiff, Nat.reduceAdd, or_true, true_or, or_false, false_or, l0, g238_31, g238_35, k7]
end JUDGE
