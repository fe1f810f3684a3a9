/-! trays made and filled -/
theorem wl_def (σ : bm_S) (a k : Nat) (g : Nat → Int64) (x : Int64) : bm_wl (bm_rowL σ a g) a k x = bm_rowL σ a (vp_updL g k x) := by
  rw [bm_wl_def, bm_rowL_2s]
  unfold bm_rowL
  refine Prod.ext rfl ?_
  funext b
  simp only
  split <;> rfl
theorem rowL_self (σ : bm_S) (a : Nat) : bm_rowL σ a (σ.2 a) = σ := by
  unfold bm_rowL
  refine Prod.ext rfl ?_
  funext b
  simp only
  split
  · next h => rw [h]
  · rfl
theorem uL_s (f : Nat → Int64) (k : Nat) (x : Int64) : vp_updL f k x k = x := by simp [vp_updL]
theorem uL_n (f : Nat → Int64) {k j : Nat} (x : Int64) (h : j ≠ k) : vp_updL f k x j = f j := by simp [vp_updL, h]
theorem wl_1 (σ : bm_S) (a k : Nat) (x : Int64) : (bm_wl σ a k x).1 = σ.1 := rfl
theorem wl_s (σ : bm_S) (a k : Nat) (x : Int64) : (bm_wl σ a k x).2 a = vp_updL (σ.2 a) k x := by rw [bm_wl_def, bm_rowL_2s]
theorem wl_n (σ : bm_S) {a b : Nat} (h : b ≠ a) (k : Nat) (x : Int64) : (bm_wl σ a k x).2 b = σ.2 b := by rw [bm_wl_def, bm_rowL_2n _ _ h]
/-- all stays but trays -/
theorem RS.trays {M L : Nat} {σ τ : bm_S} (h : RS M L σ) (e : ∀ a, ¬ Sc a → a ≠ 218 → a ≠ 235 → a ≠ 236 → (a < 210 ∨ 217 < a) → τ.1 a = σ.1 a) (e16 : ∀ b, b = 5 ∨ b = 13 ∨ b = 14 → τ.1 218 b = σ.1 218 b) (tr : ∀ k, k < 4 → TR τ k) : RS M L τ := by
  obtain ⟨⟨c1, c2, c3⟩, ⟨n, e0, p1, p2, p3, p4, p5, p6⟩, im, _, ⟨t, t1, t2, t3, t4⟩, f1, f2⟩ := h
  have k : ∀ a, ¬ Sc a → a ≠ 218 → a < 210 → τ.1 a = σ.1 a := fun a h1 h2 h3 => e a h1 h2 (by omega) (by omega) (by omega)
  have e17 : τ.1 219 = σ.1 219 := e 219 (by unfold Sc; omega) (by omega) (by omega) (by omega) (by omega)
  have e18 : τ.1 220 = σ.1 220 := e 220 (by unfold Sc; omega) (by omega) (by omega) (by omega) (by omega)
  have e19 : τ.1 221 = σ.1 221 := e 221 (by unfold Sc; omega) (by omega) (by omega) (by omega) (by omega)
  refine ⟨⟨by rw [e17]; exact c1, ?_, ?_⟩, ⟨n, e0, p1, p2, ?_, ?_, ?_, ?_⟩, ?_, tr, ⟨t, t1, ?_, ?_, ?_⟩, ?_, ?_⟩
  · rw [e17]; exact c2.of (fun a h1 h2 => k a (by unfold Sc; omega) (by omega) (by omega))
  · rw [e17]; exact c3.of (k 2 (by unfold Sc; omega) (by omega) (by omega)) (k 3 (by unfold Sc; omega) (by omega) (by omega))
  · rw [e17]; exact p3
  · rw [k 42 (by unfold Sc; omega) (by omega) (by omega)]; exact p4
  · rw [k 42 (by unfold Sc; omega) (by omega) (by omega)]; exact p5
  · intro i hi
    obtain ⟨L1, q1, q2⟩ := p6 i hi
    rw [e17]
    have hm : (e0 + i) % 10 < 10 := Nat.mod_lt _ (by decide)
    refine ⟨L1, q1, q2.of (fun a h1 h2 => k a ?_ ?_ ?_)⟩
    · unfold Sc; omega
    · omega
    · omega
  · intro j hj
    rcases im j hj with ⟨i1, i2⟩ | ⟨i1, i2, M1, L1, q1, q2, q3⟩
    · left
      rw [k (182 + 14 * j) (by unfold Sc; omega) (by omega) (by omega), e18]
      exact ⟨i1, i2⟩
    · right
      rw [k (182 + 14 * j) (by unfold Sc; omega) (by omega) (by omega), e18, e17]
      refine ⟨i1, i2, M1, L1, q1, q2.of (fun a h1 h2 => k a ?_ ?_ ?_), q3.of (k _ ?_ ?_ ?_) (k _ ?_ ?_ ?_)⟩
      all_goals first | (unfold Sc; omega) | omega
  · rw [k 0 (by unfold Sc; omega) (by omega) (by omega)]; exact t2
  · rw [e16 5 (by omega)]; exact t3
  · intro i hi
    rw [k 1 (by unfold Sc; omega) (by omega) (by omega), e19]
    exact t4 i hi
  · rw [k 0 (by unfold Sc; omega) (by omega) (by omega), e16 13 (by omega)]; exact f1
  · rw [k 0 (by unfold Sc; omega) (by omega) (by omega), e16 14 (by omega)]; exact f2
/-- another tray is as it was -/
theorem TR.of {σ τ : bm_S} {k : Nat} (h : TR σ k) (e0 : τ.1 (210 + 2 * k) = σ.1 (210 + 2 * k)) (e1 : τ.1 235 k = σ.1 235 k) (e2 : τ.1 236 k = σ.1 236 k) (e3 : ∀ i, i < 40 → τ.2 (211 + 2 * k) i = σ.2 (211 + 2 * k) i) (e4 : ∀ i, i < 40 → τ.2 237 (40 * k + i) = σ.2 237 (40 * k + i)) : TR τ k := by
  rcases h with ⟨a, b⟩ | ⟨s, n, h1, h2, h3, h4, h5, h6, h7⟩
  · exact Or.inl ⟨by rw [e0]; exact a, by rw [e1]; exact b⟩
  · exact Or.inr ⟨s, n, h1, h2, by rw [e0]; exact h3, by rw [e0]; exact h4, by rw [e1]; exact h5, by rw [e2]; exact h6, fun i hi => by rw [e3 i (by omega), e4 i (by omega)]; exact h7 i hi⟩
def ctF (s : Nat) (v : Int64) : Int64 := if s = 0 then v.toInt32.toInt8.toInt32.toInt64 else if s = 1 then v.toInt32.toInt16.toInt32.toInt64 else if s = 2 then v.toInt32.toInt64 else v
theorem s03 {s : Nat} (h : s ≤ 3) : s = 0 ∨ s = 1 ∨ s = 2 ∨ s = 3 := by omega
section TRAYS2
variable {S : am_S} {d : Nat} {σ : bm_S} {M L : Nat}
theorem c72 {t : Nat} (ht : t < 4) (s n : Int32) : ∃ g, bm_call S d 72 [.ref (210 + 2 * t), .int s, .int n] σ = some (none, bm_rowL (bm_wi (bm_wi σ (210 + 2 * t) 2 s) (210 + 2 * t) 1 n) (211 + 2 * t) g) ∧ ∀ i, i < 40 → g i = 0 := by
  obtain ⟨t1, t2, t3⟩ := isT4 t ht
  have e : 210 + 2 * t + 1 = 211 + 2 * t := by omega
  generalize hρ : bm_wi (bm_wi σ (210 + 2 * t) 2 s) (210 + 2 * t) 1 n = ρ
  obtain ⟨⟨o2, g⟩, e1, p1⟩ := loop_ex (fun k (q : Option Value × (Nat → Int64)) => bm_run S d 72 12 [some (.ref (210 + 2 * t)), some (.int s), q.1, some (.int (nI k))] [] (bm_rowL ρ (211 + 2 * t) q.2)) (fun k q => ∀ i, i < k → q.2 i = 0) 40 (some (.int n), ρ.2 (211 + 2 * t)) (fun i hi => absurd hi (by omega)) (by
    intro k q hk hp
    have l : (Int32.ofNat 40 ≤ nI k) = False := eq_false (nI_ge (b := 40) hk (by decide))
    refine ⟨(am_clr q.1, vp_updL q.2 k 0), ?_, ?_⟩
    · rw [g72_12]
      simp (disch := omega) only [bm_run_ite, Option.toList_some, Option.bind_some, Option.toList_some, Option.toList_none, List.cons_append, List.nil_append, List.append_nil, eq_self, not_true_eq_false, not_false_eq_true, ite_true, ite_false, ↓reduceIte, Nat.reduceLT, Nat.reduceEqDiff, Nat.reduceAdd, or_true, true_or, or_false, false_or, nI_clamp2, nI_lt0F, nI_leT, nI_leF, nI_ltT, nI_ltF, n_leF, n_leT, nI_1, kA6, kA8, kA10, kA22, kA26, kA32, kA44, kA56, kA68, kA80, kA93, kA163, kA794, not_or, or_self, and_self, and_true, true_and, g72_21, e, t1, t2, t3, l, wl_def]
    · intro i hi
      by_cases z : i = k
      · rw [z]; exact uL_s _ _ _
      · show vp_updL q.2 k 0 i = 0
        rw [uL_n _ _ z]; exact hp i (by omega))
  refine ⟨g, ?_, p1⟩
  rw [rowL_self] at e1
  have l : (Int32.ofNat 40 ≤ nI 40) = True := eq_true (by decide)
  have st : bm_run S d 72 0 [some (.ref (210 + 2 * t)), some (.int s), some (.int n), none] [] σ = bm_run S d 72 12 [some (.ref (210 + 2 * t)), some (.int s), some (.int n), some (.int (nI 0))] [] ρ := by
    rw [g72_0]
    simp (disch := omega) only [bm_run_ite, Option.toList_some, Option.bind_some, Option.toList_some, Option.toList_none, List.cons_append, List.nil_append, List.append_nil, eq_self, not_true_eq_false, not_false_eq_true, ite_true, ite_false, ↓reduceIte, Nat.reduceLT, Nat.reduceEqDiff, Nat.reduceAdd, or_true, true_or, or_false, false_or, nI_clamp2, nI_lt0F, nI_leT, nI_leF, nI_ltT, nI_ltF, n_leF, n_leT, nI_1, kA6, kA8, kA10, kA22, kA26, kA32, kA44, kA56, kA68, kA80, kA93, kA163, kA794, not_or, or_self, and_self, and_true, true_and, t1, hρ]
    rfl
  rw [e72, st]
  refine e1.trans ?_
  rw [g72_12]
  simp (disch := omega) only [bm_run_ite, Option.toList_some, Option.bind_some, Option.toList_some, Option.toList_none, List.cons_append, List.nil_append, List.append_nil, eq_self, not_true_eq_false, not_false_eq_true, ite_true, ite_false, ↓reduceIte, Nat.reduceLT, Nat.reduceEqDiff, Nat.reduceAdd, or_true, true_or, or_false, false_or, nI_clamp2, nI_lt0F, nI_leT, nI_leF, nI_ltT, nI_ltF, n_leF, n_leT, nI_1, kA6, kA8, kA10, kA22, kA26, kA32, kA44, kA56, kA68, kA80, kA93, kA163, kA794, not_or, or_self, and_self, and_true, true_and, g72_34, e, t1, t2, t3, l]
theorem p_numbers (h : RS M L σ) (i x y : Int32) : PR S (d + 10) 147 280 [.int i, .int x, .int y] σ := by
  have bwi : bW i.toInt64 0 3 = bI (hasI i 4) := bW_hasI (n := 4) (by decide) i
  cases hi : hasI i 4
  · rw [hi] at bwi
    refine PR.ofk (v := .int (Int32.ofInt (-2))) h ⟨σ, by simp (decide := true) only [e147, g147_0, g147_5n, g147_24, bm_run_ite, Option.toList_some, Option.bind_some, Option.toList_some, Option.toList_none, List.cons_append, List.nil_append, List.append_nil, eq_self, not_true_eq_false, not_false_eq_true, ite_true, ite_false, ↓reduceIte, Nat.reduceLT, Nat.reduceEqDiff, Nat.reduceAdd, or_true, true_or, or_false, false_or, c154n hi], Kp.rfl σ⟩ ?_
    intro τ k
    exact ⟨_, by simp (decide := true) only [e280, g280_0, g280_14, g280_29, bm_run_ite, Option.toList_some, Option.bind_some, Option.toList_some, Option.toList_none, List.cons_append, List.nil_append, List.append_nil, eq_self, not_true_eq_false, not_false_eq_true, ite_true, ite_false, ↓reduceIte, Nat.reduceLT, Nat.reduceEqDiff, Nat.reduceAdd, or_true, true_or, or_false, false_or, c163, bwi, bI_ite, Bool.false_eq_true], kp_t0 τ⟩
  rw [hi] at bwi
  obtain ⟨t, ht, rfl⟩ := hasI_of hi (by decide)
  rcases bW_01 x.toInt64 0 3 with q | q
  · refine PR.ofk (v := .int (Int32.ofInt (-2))) h ⟨σ, by simp (decide := true) only [e147, g147_0, g147_5r, g147_12r, g147_21r, g147_24, bm_run_ite, Option.toList_some, Option.bind_some, Option.toList_some, Option.toList_none, List.cons_append, List.nil_append, List.append_nil, eq_self, not_true_eq_false, not_false_eq_true, ite_true, ite_false, ↓reduceIte, Nat.reduceLT, Nat.reduceEqDiff, Nat.reduceAdd, or_true, true_or, or_false, false_or, c154 ht, c157, q], Kp.rfl σ⟩ ?_
    intro τ k
    exact ⟨_, by simp (decide := true) only [e280, g280_0, g280_14, g280_17, g280_26, g280_29, bm_run_ite, Option.toList_some, Option.bind_some, Option.toList_some, Option.toList_none, List.cons_append, List.nil_append, List.append_nil, eq_self, not_true_eq_false, not_false_eq_true, ite_true, ite_false, ↓reduceIte, Nat.reduceLT, Nat.reduceEqDiff, Nat.reduceAdd, or_true, true_or, or_false, false_or, c163, bwi, bI_ite, q], kp_t0 τ⟩
  rcases bW_01 y.toInt64 0 40 with q1 | q1
  · refine PR.ofk (v := .int (Int32.ofInt (-3))) h ⟨σ, by simp (decide := true) only [e147, g147_0, g147_5r, g147_12r, g147_21r, g147_27r, g147_36r, g147_39, bm_run_ite, Option.toList_some, Option.bind_some, Option.toList_some, Option.toList_none, List.cons_append, List.nil_append, List.append_nil, eq_self, not_true_eq_false, not_false_eq_true, ite_true, ite_false, ↓reduceIte, Nat.reduceLT, Nat.reduceEqDiff, Nat.reduceAdd, or_true, true_or, or_false, false_or, c154 ht, c157, q, q1], Kp.rfl σ⟩ ?_
    intro τ k
    exact ⟨_, by simp (decide := true) only [e280, g280_0, g280_14, g280_17, g280_26, g280_32, g280_41, g280_44, bm_run_ite, Option.toList_some, Option.bind_some, Option.toList_some, Option.toList_none, List.cons_append, List.nil_append, List.append_nil, eq_self, not_true_eq_false, not_false_eq_true, ite_true, ite_false, ↓reduceIte, Nat.reduceLT, Nat.reduceEqDiff, Nat.reduceAdd, or_true, true_or, or_false, false_or, c163, bwi, bI_ite, q, q1], kp_t0 τ⟩
  obtain ⟨s, _, hs, rfl⟩ := bW_of (a := 0) (b := 3) (by decide +kernel) (by decide +kernel) (by decide) q
  obtain ⟨n, _, hn, rfl⟩ := bW_of (a := 0) (b := 40) (by decide +kernel) (by decide +kernel) (by decide) q1
  obtain ⟨t1, t2, t3⟩ := isT4 t ht
  obtain ⟨g, k1, g0⟩ := c72 (S := S) (d := d + 9) (σ := σ) ht (nI s) (nI n)
  generalize hσ1 : bm_rowL (bm_wi (bm_wi σ (210 + 2 * t) 2 (nI s)) (210 + 2 * t) 1 (nI n)) (211 + 2 * t) g = σ1 at k1
  have s1n : ∀ a, a ≠ 210 + 2 * t → σ1.1 a = σ.1 a := fun a ha => by rw [← hσ1, bm_rowL_1, wi_n _ ha, wi_n _ ha]
  have s2n : ∀ a, a ≠ 211 + 2 * t → σ1.2 a = σ.2 a := fun a ha => by rw [← hσ1, bm_rowL_2n _ _ ha]; rfl
  have s11 : σ1.1 (210 + 2 * t) 1 = nI n := by rw [← hσ1, bm_rowL_1, wi_s, upd_s]
  have s12 : σ1.1 (210 + 2 * t) 2 = nI s := by rw [← hσ1, bm_rowL_1, wi_s, upd_n _ _ (by decide), wi_s, upd_s]
  have s13 : σ1.2 (211 + 2 * t) = g := by rw [← hσ1, bm_rowL_2s]
  generalize hρ : bm_wi (bm_wi (bm_wi σ1 218 0 0) 235 t (nI s)) 236 t (nI n) = ρ
  have r2 : ρ.2 = σ1.2 := by rw [← hρ]; rfl
  have r33 : ρ.1 235 = upd (σ.1 235) t (nI s) := by rw [← hρ, wi_n _ (by decide), wi_s, wi_n _ (by decide), s1n _ (by omega)]
  have r34 : ρ.1 236 = upd (σ.1 236) t (nI n) := by rw [← hρ, wi_s, wi_n _ (by decide), wi_n _ (by decide), s1n _ (by omega)]
  have rn : ∀ a, a ≠ 218 → a ≠ 235 → a ≠ 236 → ρ.1 a = σ1.1 a := fun a h1 h2 h3 => by rw [← hρ, wi_n _ h3, wi_n _ h2, wi_n _ h1]
  have r16 : ∀ b, b ≠ 0 → ρ.1 218 b = σ1.1 218 b := fun b hb => by rw [← hρ, wi_n _ (by decide), wi_n _ (by decide), wi_s, upd_n _ _ hb]
  obtain ⟨g5, e5, p5, q5⟩ := loop_ex (fun k (z : Nat → Int64) => bm_run S (d + 10) 280 64 [some (.ref 218), some (.int (nI t)), some (.int (nI s)), some (.int (nI n)), some (.int (nI k))] [] (bm_rowL ρ 237 z)) (fun k z => (∀ i, i < k → z (40 * t + i) = 0) ∧ ∀ i, (i < 40 * t ∨ 40 * t + 40 ≤ i) → z i = ρ.2 237 i) n (ρ.2 237) ⟨fun i hi => absurd hi (by omega), fun _ _ => rfl⟩ (by
    intro k z hk hp
    obtain ⟨p1, p2⟩ := hp
    refine ⟨vp_updL z (40 * t + k) 0, ?_, fun i hi => ?_, fun i hi => ?_⟩
    · rw [g280_64]
      simp (disch := omega) only [bm_run_ite, Option.toList_some, Option.bind_some, Option.toList_some, Option.toList_none, List.cons_append, List.nil_append, List.append_nil, eq_self, not_true_eq_false, not_false_eq_true, ite_true, ite_false, ↓reduceIte, Nat.reduceLT, Nat.reduceEqDiff, Nat.reduceAdd, or_true, true_or, or_false, false_or, nI_clamp2, nI_lt0F, nI_leT, nI_leF, nI_ltT, nI_ltF, n_leF, n_leT, nI_1, kA6, kA8, kA10, kA22, kA26, kA32, kA44, kA56, kA68, kA80, kA93, kA163, kA794, not_or, or_self, and_self, and_true, true_and, g280_70, mul40 t ht, nI_add, wl_def]
    · by_cases e : i = k
      · rw [e]; exact uL_s _ _ _
      · rw [uL_n _ _ (by omega)]; exact p1 i (by omega)
    · rw [uL_n _ _ (by omega)]; exact p2 i hi)
  rw [rowL_self] at e5
  refine ⟨.int 0, σ1, bm_rowL ρ 237 g5, M, L, ?_, ?_, h.trays ?_ ?_ ?_⟩
  · simp (decide := true) only [e147, g147_0, g147_5r, g147_12r, g147_21r, g147_27r, g147_36r, g147_42r, g147_49, bm_run_ite, Option.toList_some, Option.bind_some, Option.toList_some, Option.toList_none, List.cons_append, List.nil_append, List.append_nil, eq_self, not_true_eq_false, not_false_eq_true, ite_true, ite_false, ↓reduceIte, Nat.reduceLT, Nat.reduceEqDiff, Nat.reduceAdd, or_true, true_or, or_false, false_or, c154 ht, c157, q, q1, t1, k1]
  · simp (decide := true) only [e280, g280_0, g280_14, g280_17, g280_26, g280_32, g280_41, bm_run_ite, Option.toList_some, Option.bind_some, Option.toList_some, Option.toList_none, List.cons_append, List.nil_append, List.append_nil, eq_self, not_true_eq_false, not_false_eq_true, ite_true, ite_false, ↓reduceIte, Nat.reduceLT, Nat.reduceEqDiff, Nat.reduceAdd, or_true, true_or, or_false, false_or, c163, bwi, bI_ite, q, q1]
    rw [g280_47]
    simp (disch := omega) only [bm_run_ite, Option.toList_some, Option.bind_some, Option.toList_some, Option.toList_none, List.cons_append, List.nil_append, List.append_nil, eq_self, not_true_eq_false, not_false_eq_true, ite_true, ite_false, ↓reduceIte, Nat.reduceLT, Nat.reduceEqDiff, Nat.reduceAdd, or_true, true_or, or_false, false_or, nI_clamp2, nI_lt0F, nI_leT, nI_leF, nI_ltT, nI_ltF, n_leF, n_leT, nI_1, kA6, kA8, kA10, kA22, kA26, kA32, kA44, kA56, kA68, kA80, kA93, kA163, kA794, not_or, or_self, and_self, and_true, true_and, hρ]
    refine (show bm_run S (d + 10) 280 64 [some (.ref 218), some (.int (nI t)), some (.int (nI s)), some (.int (nI n)), some (.int (nI 0))] [] ρ = _ from e5).trans ?_
    rw [g280_64]
    simp (disch := omega) only [bm_run_ite, Option.toList_some, Option.bind_some, Option.toList_some, Option.toList_none, List.cons_append, List.nil_append, List.append_nil, eq_self, not_true_eq_false, not_false_eq_true, ite_true, ite_false, ↓reduceIte, Nat.reduceLT, Nat.reduceEqDiff, Nat.reduceAdd, or_true, true_or, or_false, false_or, nI_clamp2, nI_lt0F, nI_leT, nI_leF, nI_ltT, nI_ltF, n_leF, n_leT, nI_1, kA6, kA8, kA10, kA22, kA26, kA32, kA44, kA56, kA68, kA80, kA93, kA163, kA794, not_or, or_self, and_self, and_true, true_and, g280_89]
  · intro a h1 h2 h3 h4 h5
    rw [bm_rowL_1, rn a h2 h3 h4, s1n a (by omega)]
  · intro b hb
    rw [bm_rowL_1, r16 b (by omega), s1n 218 (by omega)]
  · intro k hk
    by_cases e : k = t
    · subst e
      refine Or.inr ⟨s, n, hs, hn, ?_, ?_, ?_, ?_, fun i hi => ?_⟩
      · rw [bm_rowL_1, rn _ (by omega) (by omega) (by omega)]; exact s11
      · rw [bm_rowL_1, rn _ (by omega) (by omega) (by omega)]; exact s12
      · rw [bm_rowL_1, r33, upd_s]
      · rw [bm_rowL_1, r34, upd_s]
      · rw [bm_rowL_2s, bm_rowL_2n _ _ (by omega), r2, s13, p5 i hi, g0 i (by omega)]
    · refine (h.2.2.2.1 k hk).of ?_ ?_ ?_ (fun i hi => ?_) (fun i hi => ?_)
      · rw [bm_rowL_1, rn _ (by omega) (by omega) (by omega), s1n _ (by omega)]
      · rw [bm_rowL_1, r33, upd_n _ _ e]
      · rw [bm_rowL_1, r34, upd_n _ _ e]
      · rw [bm_rowL_2n _ _ (by omega), r2, s2n _ (by omega)]
      · rw [bm_rowL_2s, q5 _ (by omega), r2, s2n _ (by omega)]
theorem c74 {t k s : Nat} (ht : t < 4) (hk : k < 40) (hs : s ≤ 3) (h2 : σ.1 (210 + 2 * t) 2 = nI s) (v : Int64) : bm_call S d 74 [.ref (210 + 2 * t), .int (nI k), .long v] σ = some (some (.long (ctF s v)), bm_wl σ (211 + 2 * t) k (ctF s v)) := by
  obtain ⟨t1, t2, t3⟩ := isT4 t ht
  have e : 210 + 2 * t + 1 = 211 + 2 * t := by omega
  have l : (Int32.ofNat 40 ≤ nI k) = False := eq_false (nI_ge (b := 40) hk (by decide))
  have z0 : nI 0 = (0 : Int32) := rfl
  have z1 : ¬ nI 1 = (0 : Int32) := by decide
  have z2 : ¬ nI 2 = (0 : Int32) := by decide
  have z3 : ¬ nI 3 = (0 : Int32) := by decide
  have w1 : nI 1 = (1 : Int32) := rfl
  have w2 : ¬ nI 2 = (1 : Int32) := by decide
  have w3 : ¬ nI 3 = (1 : Int32) := by decide
  have x2 : nI 2 = (2 : Int32) := rfl
  have x3 : ¬ nI 3 = (2 : Int32) := by decide
  have fin : ∀ (o : Option Value) (u : Int64), bm_run S d 74 44 [some (.ref (210 + 2 * t)), some (.int (nI k)), o, none, none, none] [.long u] σ = some (some (.long u), bm_wl σ (211 + 2 * t) k u) := by
    intro o u
    rw [g74_44]
    simp (disch := omega) only [bm_run_ite, Option.toList_some, Option.bind_some, Option.toList_some, Option.toList_none, List.cons_append, List.nil_append, List.append_nil, eq_self, not_true_eq_false, not_false_eq_true, ite_true, ite_false, ↓reduceIte, Nat.reduceLT, Nat.reduceEqDiff, Nat.reduceAdd, or_true, true_or, or_false, false_or, nI_clamp2, nI_lt0F, nI_leT, nI_leF, nI_ltT, nI_ltF, n_leF, n_leT, nI_1, kA6, kA8, kA10, kA22, kA26, kA32, kA44, kA56, kA68, kA80, kA93, kA163, kA794, not_or, or_self, and_self, and_true, true_and, g74_50, g74_59, g74_67, e, t1, t2, t3, l]
  rw [e74, g74_0]
  rcases s03 hs with rfl | rfl | rfl | rfl
  · simp only [bm_run_ite, Option.toList_some, Option.bind_some, Option.toList_some, Option.toList_none, List.cons_append, List.nil_append, List.append_nil, eq_self, not_true_eq_false, not_false_eq_true, ite_true, ite_false, ↓reduceIte, Nat.reduceLT, Nat.reduceEqDiff, Nat.reduceAdd, or_true, true_or, or_false, false_or, t1, h2, z0, g74_7, fin]; rfl
  · simp only [bm_run_ite, Option.toList_some, Option.bind_some, Option.toList_some, Option.toList_none, List.cons_append, List.nil_append, List.append_nil, eq_self, not_true_eq_false, not_false_eq_true, ite_true, ite_false, ↓reduceIte, Nat.reduceLT, Nat.reduceEqDiff, Nat.reduceAdd, or_true, true_or, or_false, false_or, t1, h2, z1, g74_14, w1, g74_22, fin]; rfl
  · simp only [bm_run_ite, Option.toList_some, Option.bind_some, Option.toList_some, Option.toList_none, List.cons_append, List.nil_append, List.append_nil, eq_self, not_true_eq_false, not_false_eq_true, ite_true, ite_false, ↓reduceIte, Nat.reduceLT, Nat.reduceEqDiff, Nat.reduceAdd, or_true, true_or, or_false, false_or, t1, h2, z2, g74_14, w2, g74_29, x2, g74_37, fin]; rfl
  · simp only [bm_run_ite, Option.toList_some, Option.bind_some, Option.toList_some, Option.toList_none, List.cons_append, List.nil_append, List.append_nil, eq_self, not_true_eq_false, not_false_eq_true, ite_true, ite_false, ↓reduceIte, Nat.reduceLT, Nat.reduceEqDiff, Nat.reduceAdd, or_true, true_or, or_false, false_or, t1, h2, z3, g74_14, w3, g74_29, x3, g74_43, fin]; rfl
theorem m279 {s : Nat} (hs : s ≤ 3) (v : Int64) : bm_call S d 279 [.long v, .int (nI s)] σ = some (some (.long (ctF s v)), σ) := by
  have z0 : nI 0 = (0 : Int32) := rfl
  have z1 : ¬ nI 1 = (0 : Int32) := by decide
  have z2 : ¬ nI 2 = (0 : Int32) := by decide
  have z3 : ¬ nI 3 = (0 : Int32) := by decide
  have w1 : nI 1 = (1 : Int32) := rfl
  have w2 : ¬ nI 2 = (1 : Int32) := by decide
  have w3 : ¬ nI 3 = (1 : Int32) := by decide
  have x2 : nI 2 = (2 : Int32) := rfl
  have x3 : ¬ nI 3 = (2 : Int32) := by decide
  rw [e279, g279_0]
  rcases s03 hs with rfl | rfl | rfl | rfl
  · simp only [bm_run_ite, Option.toList_some, Option.bind_some, Option.toList_some, Option.toList_none, List.cons_append, List.nil_append, List.append_nil, eq_self, not_true_eq_false, not_false_eq_true, ite_true, ite_false, ↓reduceIte, Nat.reduceLT, Nat.reduceEqDiff, Nat.reduceAdd, or_true, true_or, or_false, false_or, z0, g279_4, g279_35]; rfl
  · simp only [bm_run_ite, Option.toList_some, Option.bind_some, Option.toList_some, Option.toList_none, List.cons_append, List.nil_append, List.append_nil, eq_self, not_true_eq_false, not_false_eq_true, ite_true, ite_false, ↓reduceIte, Nat.reduceLT, Nat.reduceEqDiff, Nat.reduceAdd, or_true, true_or, or_false, false_or, z1, g279_11, w1, g279_16, g279_35]; rfl
  · simp only [bm_run_ite, Option.toList_some, Option.bind_some, Option.toList_some, Option.toList_none, List.cons_append, List.nil_append, List.append_nil, eq_self, not_true_eq_false, not_false_eq_true, ite_true, ite_false, ↓reduceIte, Nat.reduceLT, Nat.reduceEqDiff, Nat.reduceAdd, or_true, true_or, or_false, false_or, z2, g279_11, w2, g279_23, x2, g279_28, g279_35]; rfl
  · simp only [bm_run_ite, Option.toList_some, Option.bind_some, Option.toList_some, Option.toList_none, List.cons_append, List.nil_append, List.append_nil, eq_self, not_true_eq_false, not_false_eq_true, ite_true, ite_false, ↓reduceIte, Nat.reduceLT, Nat.reduceEqDiff, Nat.reduceAdd, or_true, true_or, or_false, false_or, z3, g279_11, w3, g279_23, x3, g279_34, g279_35]; rfl
theorem p_put (h : RS M L σ) (i x : Int32) (v : Int64) : PR S (d + 10) 148 281 [.int i, .int x, .long v] σ := by
  have s3 : ¬ Sc 235 := by unfold Sc; omega
  have s4 : ¬ Sc 236 := by unfold Sc; omega
  cases hi : hasI i 4
  · have e2 : (Int32.ofInt (-2)).toInt64 = Int64.ofInt (-2) := by decide
    refine PR.ofk (v := .long (Int64.ofInt (-2))) h ⟨σ, by simp (decide := true) only [e148, g148_0, g148_5n, g148_12, bm_run_ite, Option.toList_some, Option.bind_some, Option.toList_some, Option.toList_none, List.cons_append, List.nil_append, List.append_nil, eq_self, not_true_eq_false, not_false_eq_true, ite_true, ite_false, ↓reduceIte, Nat.reduceLT, Nat.reduceEqDiff, Nat.reduceAdd, or_true, true_or, or_false, false_or, c154n hi], Kp.rfl σ⟩ ?_
    intro τ k
    exact ⟨_, by simp (decide := true) only [e281, g281_0, g281_10, g281_17, bm_run_ite, Option.toList_some, Option.bind_some, Option.toList_some, Option.toList_none, List.cons_append, List.nil_append, List.append_nil, eq_self, not_true_eq_false, not_false_eq_true, ite_true, ite_false, ↓reduceIte, Nat.reduceLT, Nat.reduceEqDiff, Nat.reduceAdd, or_true, true_or, or_false, false_or, m229a hi, e2], kp_t0 τ⟩
  obtain ⟨t, ht, rfl⟩ := hasI_of hi (by decide)
  obtain ⟨t1, t2, t3⟩ := isT4 t ht
  rcases h.2.2.2.1 t ht with ⟨i1, i2⟩ | ⟨s, n, hs, hn, i1, i2, i3, i4, i5⟩
  · have e2 : (Int32.ofInt (-6)).toInt64 = Int64.ofInt (-6) := by decide
    refine PR.ofk (v := .long (Int64.ofInt (-6))) h ⟨σ, by simp (decide := true) only [e148, g148_0, g148_5r, g148_16r, g148_21r, g148_24, bm_run_ite, Option.toList_some, Option.bind_some, Option.toList_some, Option.toList_none, List.cons_append, List.nil_append, List.append_nil, eq_self, not_true_eq_false, not_false_eq_true, ite_true, ite_false, ↓reduceIte, Nat.reduceLT, Nat.reduceEqDiff, Nat.reduceAdd, or_true, true_or, or_false, false_or, c154 ht, t1, c71 ht, i1, bI_ite, decide_true, decide_false, Bool.false_eq_true], Kp.rfl σ⟩ ?_
    intro τ k
    have j1 : (bm_wi τ 218 0 0).1 235 t = Int32.ofInt (-1) := by rw [wi_n _ (by decide), k.at s3 (by omega)]; exact i2
    exact ⟨_, by simp (decide := true) only [e281, g281_0, g281_10, g281_17, bm_run_ite, Option.toList_some, Option.bind_some, Option.toList_some, Option.toList_none, List.cons_append, List.nil_append, List.append_nil, eq_self, not_true_eq_false, not_false_eq_true, ite_true, ite_false, ↓reduceIte, Nat.reduceLT, Nat.reduceEqDiff, Nat.reduceAdd, or_true, true_or, or_false, false_or, m229b ht j1, e2], kp_t0 τ⟩
  have nmm : ¬ nI n = Int32.ofInt (-1) := nm1 (by omega)
  have bwx : bW x.toInt64 0 (nI n - 1).toInt64 = bI (hasI x n) := bW_hasI (by omega) x
  cases hx : hasI x n
  · rw [hx] at bwx
    refine PR.ofk (v := .long (Int64.ofInt (-7))) h ⟨σ, ?_, Kp.rfl σ⟩ ?_
    · by_cases x0 : x < 0
      · simp (decide := true) only [e148, g148_0, g148_5r, g148_16r, g148_21r, g148_28r, g148_41, bm_run_ite, Option.toList_some, Option.bind_some, Option.toList_some, Option.toList_none, List.cons_append, List.nil_append, List.append_nil, eq_self, not_true_eq_false, not_false_eq_true, ite_true, ite_false, ↓reduceIte, Nat.reduceLT, Nat.reduceEqDiff, Nat.reduceAdd, or_true, true_or, or_false, false_or, c154 ht, t1, c71 ht, i1, nmm, bI_ite, decide_true, decide_false, Bool.false_eq_true, x0]
      · have x1 : ¬ x < nI n := by
          intro z
          have : hasI x n = true := by
            unfold hasI
            simp [x0, Int32.not_le.mpr z]
          rw [this] at hx; cases hx
        simp (decide := true) only [e148, g148_0, g148_5r, g148_16r, g148_21r, g148_28r, g148_32r, g148_41, bm_run_ite, Option.toList_some, Option.bind_some, Option.toList_some, Option.toList_none, List.cons_append, List.nil_append, List.append_nil, eq_self, not_true_eq_false, not_false_eq_true, ite_true, ite_false, ↓reduceIte, Nat.reduceLT, Nat.reduceEqDiff, Nat.reduceAdd, or_true, true_or, or_false, false_or, c154 ht, t1, c71 ht, i1, nmm, bI_ite, decide_true, decide_false, Bool.false_eq_true, x0, x1]
    · intro τ k
      have j1 : (bm_wi τ 218 0 0).1 235 t = nI s := by rw [wi_n _ (by decide), k.at s3 (by omega)]; exact i3
      have j2 : (bm_wi τ 218 0 0).1 236 t = nI n := by rw [wi_n _ (by decide), k.at s4 (by omega)]; exact i4
      refine ⟨_, ?_, kp_t0 τ⟩
      simp (decide := true) only [e281, g281_0, g281_10, bm_run_ite, Option.toList_some, Option.bind_some, Option.toList_some, Option.toList_none, List.cons_append, List.nil_append, List.append_nil, eq_self, not_true_eq_false, not_false_eq_true, ite_true, ite_false, ↓reduceIte, Nat.reduceLT, Nat.reduceEqDiff, Nat.reduceAdd, or_true, true_or, or_false, false_or, m229c ht hs j1]
      rw [g281_21]
      simp (disch := omega) only [bm_run_ite, Option.toList_some, Option.bind_some, Option.toList_some, Option.toList_none, List.cons_append, List.nil_append, List.append_nil, eq_self, not_true_eq_false, not_false_eq_true, ite_true, ite_false, ↓reduceIte, Nat.reduceLT, Nat.reduceEqDiff, Nat.reduceAdd, or_true, true_or, or_false, false_or, nI_clamp2, nI_lt0F, nI_leT, nI_leF, nI_ltT, nI_ltF, n_leF, n_leT, nI_1, kA6, kA8, kA10, kA22, kA26, kA32, kA44, kA56, kA68, kA80, kA93, kA163, kA794, not_or, or_self, and_self, and_true, true_and, g281_36, g281_39, j2, c163, bwx, bI_itn, Bool.false_eq_true]
  rw [hx] at bwx
  obtain ⟨j, hj, rfl⟩ := hasI_of hx (by omega)
  have k4 := c74 (S := S) (d := d + 9) (σ := σ) ht (show j < 40 by omega) hs i2 v
  generalize hσ1 : bm_wl σ (211 + 2 * t) j (ctF s v) = σ1 at k4
  have s1 : σ1.1 = σ.1 := by rw [← hσ1]; rfl
  have s2 : σ1.2 (211 + 2 * t) = vp_updL (σ.2 (211 + 2 * t)) j (ctF s v) := by rw [← hσ1, wl_s]
  have s2n : ∀ a, a ≠ 211 + 2 * t → σ1.2 a = σ.2 a := fun a ha => by rw [← hσ1, wl_n _ ha]
  have j1 : (bm_wi σ1 218 0 0).1 235 t = nI s := by rw [wi_n _ (by decide), s1]; exact i3
  have j2 : (bm_wi σ1 218 0 0).1 236 t = nI n := by rw [wi_n _ (by decide), s1]; exact i4
  have x0 : ¬ nI j < 0 := nI_pos (by omega)
  have x1 : nI j < nI n := nI_lt hj (by omega)
  refine ⟨.long (ctF s v), σ1, bm_wl (bm_wi σ1 218 0 0) 237 (40 * t + j) (ctF s v), M, L, ?_, ?_, h.trays ?_ ?_ ?_⟩
  · simp (decide := true) only [e148, g148_0, g148_5r, g148_16r, g148_21r, g148_28r, g148_32r, g148_45r, g148_52, bm_run_ite, Option.toList_some, Option.bind_some, Option.toList_some, Option.toList_none, List.cons_append, List.nil_append, List.append_nil, eq_self, not_true_eq_false, not_false_eq_true, ite_true, ite_false, ↓reduceIte, Nat.reduceLT, Nat.reduceEqDiff, Nat.reduceAdd, or_true, true_or, or_false, false_or, c154 ht, t1, c71 ht, i1, nmm, bI_ite, decide_true, decide_false, Bool.false_eq_true, x0, x1, k4]
  · simp (decide := true) only [e281, g281_0, g281_10, bm_run_ite, Option.toList_some, Option.bind_some, Option.toList_some, Option.toList_none, List.cons_append, List.nil_append, List.append_nil, eq_self, not_true_eq_false, not_false_eq_true, ite_true, ite_false, ↓reduceIte, Nat.reduceLT, Nat.reduceEqDiff, Nat.reduceAdd, or_true, true_or, or_false, false_or, m229c ht hs j1]
    rw [g281_21]
    simp (disch := omega) only [bm_run_ite, Option.toList_some, Option.bind_some, Option.toList_some, Option.toList_none, List.cons_append, List.nil_append, List.append_nil, eq_self, not_true_eq_false, not_false_eq_true, ite_true, ite_false, ↓reduceIte, Nat.reduceLT, Nat.reduceEqDiff, Nat.reduceAdd, or_true, true_or, or_false, false_or, nI_clamp2, nI_lt0F, nI_leT, nI_leF, nI_ltT, nI_ltF, n_leF, n_leT, nI_1, kA6, kA8, kA10, kA22, kA26, kA32, kA44, kA56, kA68, kA80, kA93, kA163, kA794, not_or, or_self, and_self, and_true, true_and, g281_36, g281_43, j2, c163, bwx, bI_itn, j1, m279 hs, g281_63, mul40 t ht, nI_add, wl_s, uL_s]
  · intro a h1 h2 h3 h4 h5
    rw [wl_1, wi_n _ h2, s1]
  · intro b hb
    rw [wl_1, wi_s, upd_n _ _ (by omega), s1]
  · intro k hk
    by_cases e : k = t
    · subst e
      refine Or.inr ⟨s, n, hs, hn, ?_, ?_, ?_, ?_, fun y hy => ?_⟩
      · rw [wl_1, wi_n _ (by omega), s1]; exact i1
      · rw [wl_1, wi_n _ (by omega), s1]; exact i2
      · rw [wl_1, wi_n _ (by omega), s1]; exact i3
      · rw [wl_1, wi_n _ (by omega), s1]; exact i4
      · rw [wl_n _ (by omega), wl_s]
        show σ1.2 (211 + 2 * k) y = vp_updL (σ1.2 237) _ _ _
        rw [s2, s2n 237 (by omega)]
        by_cases e2 : y = j
        · rw [e2, uL_s, uL_s]
        · rw [uL_n _ _ e2, uL_n _ _ (by omega)]; exact i5 y hy
    · refine (h.2.2.2.1 k hk).of ?_ ?_ ?_ (fun y hy => ?_) (fun y hy => ?_)
      · rw [wl_1, wi_n _ (by omega), s1]
      · rw [wl_1, wi_n _ (by omega), s1]
      · rw [wl_1, wi_n _ (by omega), s1]
      · rw [wl_n _ (by omega)]
        show σ1.2 _ y = _
        rw [s2n _ (by omega)]
      · rw [wl_s]
        show vp_updL (σ1.2 237) _ _ _ = _
        rw [uL_n _ _ (by omega), s2n _ (by omega)]
theorem p_lists (h : RS M L σ) (i : Int32) : PR S (d + 10) 149 282 [.int i] σ := by
  have hM := h.rw.M6
  have hL := h.rw.L12
  have s3 : ¬ Sc 235 := by unfold Sc; omega
  have s4 : ¬ Sc 236 := by unfold Sc; omega
  have s7 : ¬ Sc 219 := by unfold Sc; omega
  cases hi : hasI i 4
  · refine PR.ofk (v := .int (Int32.ofInt (-2))) h ⟨σ, by simp (decide := true) only [e149, g149_0, g149_5n, g149_10, bm_run_ite, Option.toList_some, Option.bind_some, Option.toList_some, Option.toList_none, List.cons_append, List.nil_append, List.append_nil, eq_self, not_true_eq_false, not_false_eq_true, ite_true, ite_false, ↓reduceIte, Nat.reduceLT, Nat.reduceEqDiff, Nat.reduceAdd, or_true, true_or, or_false, false_or, c154n hi], Kp.rfl σ⟩ ?_
    intro τ k
    exact ⟨_, by simp (decide := true) only [e282, g282_0, g282_10, g282_15, bm_run_ite, Option.toList_some, Option.bind_some, Option.toList_some, Option.toList_none, List.cons_append, List.nil_append, List.append_nil, eq_self, not_true_eq_false, not_false_eq_true, ite_true, ite_false, ↓reduceIte, Nat.reduceLT, Nat.reduceEqDiff, Nat.reduceAdd, or_true, true_or, or_false, false_or, m229a hi], kp_t0 τ⟩
  obtain ⟨t, ht, rfl⟩ := hasI_of hi (by decide)
  obtain ⟨t1, t2, t3⟩ := isT4 t ht
  rcases h.2.2.2.1 t ht with ⟨i1, i2⟩ | ⟨s, n, hs, hn, i1, i2, i3, i4, i5⟩
  · refine PR.ofk (v := .int (Int32.ofInt (-6))) h ⟨σ, by simp (decide := true) only [e149, g149_0, g149_5r, g149_13r, g149_17r, g149_20, bm_run_ite, Option.toList_some, Option.bind_some, Option.toList_some, Option.toList_none, List.cons_append, List.nil_append, List.append_nil, eq_self, not_true_eq_false, not_false_eq_true, ite_true, ite_false, ↓reduceIte, Nat.reduceLT, Nat.reduceEqDiff, Nat.reduceAdd, or_true, true_or, or_false, false_or, c154 ht, t1, c71 ht, i1, bI_ite, decide_true, decide_false, Bool.false_eq_true], Kp.rfl σ⟩ ?_
    intro τ k
    have j1 : (bm_wi τ 218 0 0).1 235 t = Int32.ofInt (-1) := by rw [wi_n _ (by decide), k.at s3 (by omega)]; exact i2
    exact ⟨_, by simp (decide := true) only [e282, g282_0, g282_10, g282_15, bm_run_ite, Option.toList_some, Option.bind_some, Option.toList_some, Option.toList_none, List.cons_append, List.nil_append, List.append_nil, eq_self, not_true_eq_false, not_false_eq_true, ite_true, ite_false, ↓reduceIte, Nat.reduceLT, Nat.reduceEqDiff, Nat.reduceAdd, or_true, true_or, or_false, false_or, m229b ht j1], kp_t0 τ⟩
  have nmm : ¬ nI n = Int32.ofInt (-1) := nm1 (by omega)
  have hr := h.rw
  have hb := h.bk
  have hg := h.ga
  have hm3 := h.mr.m
  have hm25 := h.mr.l
  generalize hB : σ.1 219 = B at *
  obtain ⟨N, hN, hNn, hNM⟩ : ∃ N, N = min n M ∧ N ≤ n ∧ N ≤ M := ⟨min n M, rfl, Nat.min_le_left _ _, Nat.min_le_right _ _⟩
  -- the class
  obtain ⟨σ1, k1, f1, w1⟩ := c77 (S := S) (d := d + 6) (σ := σ) hr.iw w149 (by omega)
  obtain ⟨σ2, k2, r2, f2⟩ := c35 (S := S) (d := d + 4) (b := 2) (w1 hr) (f1.b.BK (by unfold ob; omega) hb) (by unfold ob; omega) hg 1 (by decide)
  replace k2 : bm_call S (d + 9) 35 [.ref 148, .ref 2, .int 1] σ1 = some (none, σ2) := k2
  have f12 := (f1.b (b := 2)).tr f2
  have q8 : σ2.1 (210 + 2 * t) = σ.1 (210 + 2 * t) := f12.1 _ (by omega) (by omega)
  have q5 : σ2.1 5 = σ.1 5 := f12.1 _ (by omega) (by omega)
  generalize hV : (fun m => B (26 + m)) = V0
  obtain ⟨g, e3, p3, p4⟩ := loop_ex (fun k (z : Nat → Int64) => bm_run S (d + 10) 149 64 [some (.ref 0), am_clr (some (.int (nI t))), some (.ref (210 + 2 * t)), some (.int (nI N)), some (.int (nI k))] [] (bm_rowL σ2 (211 + 2 * t) z)) (fun k z => (∀ j, j < k → z j = ctF s (goB M L B 1 (26 + j)).toInt64) ∧ ∀ j, k ≤ j → z j = σ2.2 (211 + 2 * t) j) N (σ2.2 (211 + 2 * t)) ⟨fun j hj => absurd hj (by omega), fun _ _ => rfl⟩ (by
    intro k z hk hp
    obtain ⟨p1, p2⟩ := hp
    have r3 : RW M L (bm_rowL σ2 (211 + 2 * t) z) 149 (goB M L B 1) := r2.of (fun a _ _ => rfl)
    have a1 : bm_call S (d + 9) 158 [.ref 150, .int (nI k)] (bm_rowL σ2 (211 + 2 * t) z) = _ := r3.a1 (show k < M by omega)
    have a2 := c74 (S := S) (d := d + 9) (σ := bm_rowL σ2 (211 + 2 * t) z) ht (show k < 40 by omega) hs (by show σ2.1 (210 + 2 * t) 2 = nI s; rw [q8]; exact i2) (goB M L B 1 (26 + k)).toInt64
    rw [wl_def] at a2
    refine ⟨vp_updL z k (ctF s (goB M L B 1 (26 + k)).toInt64), ?_, fun j hj => ?_, fun j hj => ?_⟩
    · rw [g149_64r]
      simp (disch := omega) only [bm_run_ite, Option.toList_some, Option.bind_some, Option.toList_some, Option.toList_none, List.cons_append, List.nil_append, List.append_nil, eq_self, not_true_eq_false, not_false_eq_true, ite_true, ite_false, ↓reduceIte, Nat.reduceLT, Nat.reduceEqDiff, Nat.reduceAdd, or_true, true_or, or_false, false_or, nI_clamp2, nI_lt0F, nI_leT, nI_leF, nI_ltT, nI_ltF, n_leF, n_leT, nI_1, kA6, kA8, kA10, kA22, kA26, kA32, kA44, kA56, kA68, kA80, kA93, kA163, kA794, not_or, or_self, and_self, and_true, true_and, g149_70r, g149_88r, g149_92r, t1, a1, a2, am_clr]
    · by_cases e : j = k
      · rw [e]; exact uL_s _ _ _
      · rw [uL_n _ _ e]; exact p1 j (by omega)
    · rw [uL_n _ _ (by omega)]; exact p2 j (by omega))
  rw [rowL_self] at e3
  generalize hσ3 : bm_rowL σ2 (211 + 2 * t) g = σ3 at e3
  have s31 : σ3.1 = σ2.1 := by rw [← hσ3]; rfl
  have s32 : σ3.2 (211 + 2 * t) = g := by rw [← hσ3, bm_rowL_2s]
  have s32n : ∀ a, a ≠ 211 + 2 * t → σ3.2 a = σ.2 a := fun a ha => by rw [← hσ3, bm_rowL_2n _ _ ha, f12.2]
  have emin : (if nI M < nI n then nI M else nI n) = nI N := by
    rcases Nat.lt_or_ge M n with w | w
    · rw [if_pos (nI_lt w (by omega)), hN, Nat.min_eq_right (by omega)]
    · rw [if_neg (nI_nlt w (by omega)), hN, Nat.min_eq_left w]
  have kc : bm_call S (d + 10) 149 [.ref 0, .int (nI t)] σ = some (some (.int (nI N)), σ3) := by
    have q0 : σ2.1 (210 + 2 * t) 1 = nI n := by rw [q8]; exact i1
    have q1 : σ2.1 5 0 = nI M := by rw [q5]; exact hr.f0
    simp (decide := true) only [e149, g149_0, g149_5r, g149_13r, g149_17r, g149_23r, g149_34r, g149_46r, g149_60r, e34, g34_0, g34_8, bm_run_ite, Option.toList_some, Option.bind_some, Option.toList_some, Option.toList_none, List.cons_append, List.nil_append, List.append_nil, eq_self, not_true_eq_false, not_false_eq_true, ite_true, ite_false, ↓reduceIte, Nat.reduceLT, Nat.reduceEqDiff, Nat.reduceAdd, or_true, true_or, or_false, false_or, c154 ht, t1, c71 ht, i1, nmm, bI_ite, decide_true, decide_false, Bool.false_eq_true, k1, k2, q0, q1, c291, emin]
    refine (show bm_run S (d + 10) 149 64 [some (.ref 0), am_clr (some (.int (nI t))), some (.ref (210 + 2 * t)), some (.int (nI N)), some (.int (nI 0))] [] σ2 = _ from e3).trans ?_
    rw [g149_64r]
    simp (disch := omega) only [bm_run_ite, Option.toList_some, Option.bind_some, Option.toList_some, Option.toList_none, List.cons_append, List.nil_append, List.append_nil, eq_self, not_true_eq_false, not_false_eq_true, ite_true, ite_false, ↓reduceIte, Nat.reduceLT, Nat.reduceEqDiff, Nat.reduceAdd, or_true, true_or, or_false, false_or, nI_clamp2, nI_lt0F, nI_leT, nI_leF, nI_ltT, nI_ltF, n_leF, n_leT, nI_1, kA6, kA8, kA10, kA22, kA26, kA32, kA44, kA56, kA68, kA80, kA93, kA163, kA794, not_or, or_self, and_self, and_true, true_and, g149_99]
  -- the reference
  have sm : ∀ a, ¬ Sc a → a ≠ 218 → (bm_wi σ3 218 0 0).1 a = σ.1 a := fun a h1 h2 => by
    have h0 := h1
    unfold Sc at h0
    rw [wi_n _ h2, s31, f12.1 a (by omega) (by omega)]
  have b0 : (bm_wi σ3 218 0 0).1 219 = B := (sm 219 s7 (by decide)).trans hB
  have j1 : (bm_wi σ3 218 0 0).1 235 t = nI s := by rw [sm 235 s3 (by decide)]; exact i3
  have mr : ∀ τ : bm_S, τ.1 219 = B → MR M L τ := fun τ ht => ⟨⟨hM, hL⟩, by rw [ht]; exact hm3, by rw [ht]; exact hm25⟩
  obtain ⟨g1, k5, kg⟩ := m215 (S := S) (d := d + 9) (σ := bm_wi σ3 218 0 0)
  rw [b0] at kg
  have b1 : (bm_row (bm_wi σ3 218 0 0) 228 g1).1 219 = B := (bm_row_1n _ _ (by decide)).trans b0
  obtain ⟨σ4, k6, b4, f4⟩ := m212 (S := S) (d := d + 4) (mr _ b1) (by rw [b1]; exact hg.1) 0
  rw [b1, D0_0] at b4
  have b4g : σ4.1 219 = goB M L B 1 := b4
  have s42 : σ4.2 = σ3.2 := f4.2.2
  have q33 : σ4.1 235 t = nI s := by rw [f4.1 235 (by decide) (by decide) (by decide), bm_row_1n _ _ (by decide)]; exact j1
  have q34 : σ4.1 236 t = nI n := by rw [f4.1 236 (by decide) (by decide) (by decide), bm_row_1n _ _ (by decide), sm 236 s4 (by decide)]; exact i4
  have g3 : goB M L B 1 3 = nI M := by rw [goB_out hM hL (by omega)]; exact hm3
  obtain ⟨g5, e5, p5, p6⟩ := loop_ex (fun k (z : Nat → Int64) => bm_run S (d + 10) 282 61 [some (.ref 218), some (.int (nI t)), am_clr (some (.int 0)), some (.int (nI N)), some (.int (nI k))] [] (bm_rowL σ4 237 z)) (fun k z => (∀ j, j < k → z (40 * t + j) = ctF s (goB M L B 1 (26 + j)).toInt64) ∧ ∀ j, (j < 40 * t ∨ 40 * t + k ≤ j) → z j = σ4.2 237 j) N (σ4.2 237) ⟨fun j hj => absurd hj (by omega), fun _ _ => rfl⟩ (by
    intro k z hk hp
    obtain ⟨p1, p2⟩ := hp
    have x1 : (bm_rowL σ4 237 z).1 = σ4.1 := rfl
    refine ⟨vp_updL z (40 * t + k) (ctF s (goB M L B 1 (26 + k)).toInt64), ?_, fun j hj => ?_, fun j hj => ?_⟩
    · rw [g282_61]
      simp (disch := omega) only [bm_run_ite, Option.toList_some, Option.bind_some, Option.toList_some, Option.toList_none, List.cons_append, List.nil_append, List.append_nil, eq_self, not_true_eq_false, not_false_eq_true, ite_true, ite_false, ↓reduceIte, Nat.reduceLT, Nat.reduceEqDiff, Nat.reduceAdd, or_true, true_or, or_false, false_or, nI_clamp2, nI_lt0F, nI_leT, nI_leF, nI_ltT, nI_ltF, n_leF, n_leT, nI_1, kA6, kA8, kA10, kA22, kA26, kA32, kA44, kA56, kA68, kA80, kA93, kA163, kA794, not_or, or_self, and_self, and_true, true_and, g282_67, g282_98, x1, b4g, q33, m279 hs, mul40 t ht, nI_add, wl_def, am_clr]
    · by_cases e : j = k
      · rw [e]; exact uL_s _ _ _
      · rw [uL_n _ _ (by omega)]; exact p1 j (by omega)
    · rw [uL_n _ _ (by omega)]; exact p2 j (by omega))
  rw [rowL_self] at e5
  have e26 : (bm_rowL σ4 237 g5).1 228 = g1 := by rw [bm_rowL_1, f4.1 228 (by decide) (by decide) (by decide), row_row1]
  have ea := again (σ := bm_wi σ3 218 0 0) (τ := bm_rowL σ4 237 g5) (by rw [b0]; exact kg) e26 (fun j hj => by rw [bm_rowL_1, b4g, b0]; exact goB_out hM hL (by omega) 1)
  rw [b0] at ea
  refine ⟨.int (nI N), σ3, bm_row (bm_rowL σ4 237 g5) 219 B, M, L, kc, ?_, h.trays ?_ ?_ ?_⟩
  · simp (decide := true) only [e282, g282_0, g282_10, g282_17, g282_21, bm_run_ite, Option.toList_some, Option.bind_some, Option.toList_some, Option.toList_none, List.cons_append, List.nil_append, List.append_nil, eq_self, not_true_eq_false, not_false_eq_true, ite_true, ite_false, ↓reduceIte, Nat.reduceLT, Nat.reduceEqDiff, Nat.reduceAdd, or_true, true_or, or_false, false_or, m229c ht hs j1, k5, k6]
    have ent : bm_run S (d + 10) 282 26 [some (.ref 218), some (.int (nI t)), some (.int 0), none, none] [.int (bcF (faB M L ((bm_row (bm_wi σ3 218 0 0) 228 g1).1 219) (D0 ((bm_row (bm_wi σ3 218 0 0) 228 g1).1 219) 0) 24) - bcF ((bm_row (bm_wi σ3 218 0 0) 228 g1).1 219 24))] σ4 = bm_run S (d + 10) 282 61 [some (.ref 218), some (.int (nI t)), am_clr (some (.int 0)), some (.int (nI N)), some (.int (nI 0))] [] σ4 := by
      rw [g282_26]
      rcases Nat.lt_or_ge M n with w | w
      · have e9 : N = M := by rw [hN, Nat.min_eq_right (by omega)]
        simp (disch := omega) only [bm_run_ite, Option.toList_some, Option.bind_some, Option.toList_some, Option.toList_none, List.cons_append, List.nil_append, List.append_nil, eq_self, not_true_eq_false, not_false_eq_true, ite_true, ite_false, ↓reduceIte, Nat.reduceLT, Nat.reduceEqDiff, Nat.reduceAdd, or_true, true_or, or_false, false_or, nI_clamp2, nI_lt0F, nI_leT, nI_leF, nI_ltT, nI_ltF, n_leF, n_leT, nI_1, kA6, kA8, kA10, kA22, kA26, kA32, kA44, kA56, kA68, kA80, kA93, kA163, kA794, not_or, or_self, and_self, and_true, true_and, q34, b4g, g3, g282_42, g282_57, e9]
        rfl
      · have e9 : N = n := by rw [hN, Nat.min_eq_left w]
        simp (disch := omega) only [bm_run_ite, Option.toList_some, Option.bind_some, Option.toList_some, Option.toList_none, List.cons_append, List.nil_append, List.append_nil, eq_self, not_true_eq_false, not_false_eq_true, ite_true, ite_false, ↓reduceIte, Nat.reduceLT, Nat.reduceEqDiff, Nat.reduceAdd, or_true, true_or, or_false, false_or, nI_clamp2, nI_lt0F, nI_leT, nI_leF, nI_ltT, nI_ltF, n_leF, n_leT, nI_1, kA6, kA8, kA10, kA22, kA26, kA32, kA44, kA56, kA68, kA80, kA93, kA163, kA794, not_or, or_self, and_self, and_true, true_and, q34, b4g, g3, g282_51, g282_57, e9]
        rfl
    rw [ent]
    refine e5.trans ?_
    rw [g282_61]
    simp (disch := omega) only [bm_run_ite, Option.toList_some, Option.bind_some, Option.toList_some, Option.toList_none, List.cons_append, List.nil_append, List.append_nil, eq_self, not_true_eq_false, not_false_eq_true, ite_true, ite_false, ↓reduceIte, Nat.reduceLT, Nat.reduceEqDiff, Nat.reduceAdd, or_true, true_or, or_false, false_or, nI_clamp2, nI_lt0F, nI_leT, nI_leF, nI_ltT, nI_ltF, n_leF, n_leT, nI_1, kA6, kA8, kA10, kA22, kA26, kA32, kA44, kA56, kA68, kA80, kA93, kA163, kA794, not_or, or_self, and_self, and_true, true_and, g282_105, g282_109, m216, ea]
  · intro a h1 h2 h3 h4 h5
    have h0 := h1
    unfold Sc at h0
    by_cases e : a = 219
    · subst e; rw [row_row1, hB]
    · rw [bm_row_1n _ _ e, bm_rowL_1, f4.1 a h2 e (by omega), bm_row_1n _ _ (by omega), sm a h1 h2]
  · intro b hb
    rw [bm_row_1n _ _ (by decide), bm_rowL_1, f4.2.1 b (by omega), bm_row_1n _ _ (by decide), wi_s, upd_n _ _ (by omega), s31, f12.1 218 (by omega) (by omega)]
  · have bk : ∀ a, ¬ Sc a → a ≠ 218 → a ≠ 219 → (bm_row (bm_rowL σ4 237 g5) 219 B).1 a = σ.1 a := by
      intro a h1 h2 h3
      have h0 := h1
      unfold Sc at h0
      rw [bm_row_1n _ _ h3, bm_rowL_1, f4.1 a h2 h3 (by omega), bm_row_1n _ _ (by omega), sm a h1 h2]
    have b2 : ∀ a, a ≠ 237 → (bm_row (bm_rowL σ4 237 g5) 219 B).2 a = σ3.2 a := by
      intro a ha
      show (bm_rowL σ4 237 g5).2 a = _
      rw [bm_rowL_2n _ _ ha, s42]
    have b5 : (bm_row (bm_rowL σ4 237 g5) 219 B).2 237 = g5 := by
      show (bm_rowL σ4 237 g5).2 237 = _
      rw [bm_rowL_2s]
    have b6 : σ4.2 237 = σ.2 237 := by rw [s42, s32n _ (by omega)]
    intro k hk
    have e0 := bk (210 + 2 * k) (by unfold Sc; omega) (by omega) (by omega)
    have e1 := bk 235 s3 (by omega) (by omega)
    have e2 := bk 236 s4 (by omega) (by omega)
    by_cases e : k = t
    · subst e
      refine Or.inr ⟨s, n, hs, hn, by rw [e0]; exact i1, by rw [e0]; exact i2, by rw [e1]; exact i3, by rw [e2]; exact i4, fun y hy => ?_⟩
      rw [b2 _ (by omega), b5, s32]
      rcases Nat.lt_or_ge y N with w | w
      · rw [p3 y w, p5 y w]
      · rw [p4 y w, p6 _ (by omega), b6, f12.2]; exact i5 y hy
    · refine (h.2.2.2.1 k hk).of e0 (by rw [e1]) (by rw [e2]) (fun y hy => ?_) (fun y hy => ?_)
      · rw [b2 _ (by omega), s32n _ (by omega)]
      · rw [b5, p6 _ (by omega), b6]
end TRAYS2
