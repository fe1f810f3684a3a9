/-! images -/
theorem wfL.cgz {time : Bool} {B C : Nat → Int32} {p n : Nat} (h : wfL time B p n) (e : ∀ i, (793 ≤ i ∧ i < 1694) → C i = B i) : wfL time C p n := by
  obtain ⟨h1, h2, h3⟩ := h
  have hc : ∀ j, j < n → cdB C p j = cdB B p j := fun j hj => e _ (by omega)
  have ht : ∀ k, k ≤ n → tyF C p k = tyF B p k := by
    intro k
    induction k with
    | zero => intro _; rfl
    | succ k ih => intro hk; rw [tyF, tyF, ih (by omega), hc k (by omega)]
  refine ⟨h1, by rw [ht n (Nat.le_refl n)]; exact h2, fun j hj => ?_⟩
  obtain ⟨a, b⟩ := h3 j hj
  rw [hc j hj, ht j (by omega)]
  exact ⟨a, b⟩
theorem LW.cgz {B C : Nat → Int32} (h : LW B) (e : ∀ i, (i < 22 ∨ (793 ≤ i ∧ i < 1694)) → C i = B i) : LW C := by
  obtain ⟨h1, h2, h3⟩ := h
  refine ⟨by rw [e 1 (by omega)]; exact h1, fun z => ?_, fun z => ?_⟩
  · rw [e 4 (by omega)] at z
    obtain ⟨p, n, a, b, c⟩ := h2 z
    exact ⟨p, n, by rw [e 6 (by omega)]; exact a, by rw [e 8 (by omega)]; exact b, c.cgz (fun i hi => e i (by omega))⟩
  · rw [e 5 (by omega)] at z
    obtain ⟨p, n, a, b, c⟩ := h3 z
    exact ⟨p, n, by rw [e 7 (by omega)]; exact a, by rw [e 9 (by omega)]; exact b, c.cgz (fun i hi => e i (by omega))⟩
theorem OKB.cgz {M L : Nat} {B C : Nat → Int32} (h : OKB M L B) (e : ∀ i, (i < 22 ∨ (24 ≤ i ∧ i < 68) ∨ (80 ≤ i ∧ i < 92) ∨ (793 ≤ i ∧ i < 1694)) → C i = B i) : OKB M L C := by
  obtain ⟨⟨⟨hl, go, gm, gc⟩, nb, bm⟩, z, lt, ⟨h1, h2, h3, h4⟩, ⟨n, n1, n2, n3⟩, ⟨f, f1, f2, f3⟩, sc⟩ := h
  refine ⟨⟨⟨hl.cgz (fun i hi => e i (by omega)), ?_, ?_, ?_⟩, ?_, ?_⟩, ?_, ?_, ⟨h1, h2, ?_, ?_⟩, ⟨n, n1, n2, ?_⟩, ⟨f, f1, f2, ?_⟩, sc.cg (fun i hi => e _ (by omega))⟩
  · intro l hl
    obtain ⟨a, b, ha, hb, hab, ea, eb⟩ := go l hl
    exact ⟨a, b, ha, hb, hab, by rw [e _ (by omega)]; exact ea, by rw [e _ (by omega)]; exact eb⟩
  · intro l hl
    obtain ⟨k, hk, ek⟩ := gm l hl
    exact ⟨k, hk, by rw [e _ (by omega)]; exact ek⟩
  · intro l hl
    obtain ⟨k, hk, ek⟩ := gc l hl
    exact ⟨k, hk, by rw [e _ (by omega)]; exact ek⟩
  · intro l hl ho m hm hb
    unfold oB at ho
    rw [e _ (by omega)] at ho hb
    have := nb l hl ho m hm hb
    unfold tou at this ⊢
    rw [e _ (by omega), e _ (by omega)]
    exact this
  · intro m hm hk; rw [e _ (by omega)]; exact bm m hm hk
  · intro l h1 h2; rw [e _ (by omega)]; exact z l h1 h2
  · intro l hl
    obtain ⟨k, hk, ek⟩ := lt l hl
    exact ⟨k, hk, by rw [e _ (by omega)]; exact ek⟩
  · rw [e _ (by omega)]; exact h3
  · rw [e _ (by omega)]; exact h4
  · rw [e _ (by omega)]; exact n3
  · rw [e _ (by omega)]; exact f3
theorem BK.cgz {σ : bm_S} {b : Nat} {B C : Nat → Int32} (h : BK σ b B) (hl : LW B) (e : ∀ i, (i < 22 ∨ (793 ≤ i ∧ i < 1694)) → C i = B i) : BK σ b C := by
  obtain ⟨h0, ⟨h1, h2, h3⟩, h4, h4n, h5, h5n⟩ := h
  refine ⟨h0, ⟨by rw [e 1 (by omega)]; exact h1, by rw [e 2 (by omega)]; exact h2, by rw [e 0 (by omega)]; exact h3⟩, fun z => ?_, fun z => ?_, fun z => ?_, fun z => ?_⟩
  · rw [e 4 (by omega)] at z; exact h4 z
  · rw [e 4 (by omega)] at z
    obtain ⟨a1, a2, a3⟩ := h4n z
    obtain ⟨p, n, ep, en, hw⟩ := hl.2.1 z
    obtain ⟨k1, k2, k3, k4⟩ := wf_n hw
    have := hw.1
    rw [e 6 (by omega), e 8 (by omega)]
    refine ⟨a1, a2, ?_⟩
    rw [ep, en, k3, k4] at a3 ⊢
    intro j hj
    rw [show cdB C p j = cdB B p j from e _ (by omega)]
    exact a3 j hj
  · rw [e 5 (by omega)] at z; exact h5 z
  · rw [e 5 (by omega)] at z
    obtain ⟨a1, a2, a3⟩ := h5n z
    obtain ⟨p, n, ep, en, hw⟩ := hl.2.2 z
    obtain ⟨k1, k2, k3, k4⟩ := wf_n hw
    have := hw.1
    rw [e 7 (by omega), e 9 (by omega)]
    refine ⟨a1, a2, ?_⟩
    rw [ep, en, k3, k4] at a3 ⊢
    intro j hj
    rw [show cdB C p j = cdB B p j from e _ (by omega)]
    exact a3 j hj
theorem rows144 : ∀ k, k < 2 → bm_rfa 144 k = some (182 + 14 * k) := by decide +kernel
theorem img2 : ∀ k, k < 2 → bm_tag (182 + 14 * k) = 104 ∧ bm_tag (182 + 14 * k + 1) = 100 ∧ bm_tag (182 + 14 * k + 4) = 110 ∧ isB (182 + 14 * k + 1) ∧ isW (182 + 14 * k + 4) := by
  intro k hk
  have : k = 0 ∨ k = 1 := by omega
  rcases this with rfl | rfl
  · exact ⟨by decide +kernel, by decide +kernel, by decide +kernel, by unfold isB; decide, by unfold isW; decide⟩
  · exact ⟨by decide +kernel, by decide +kernel, by decide +kernel, by unfold isB; decide, by unfold isW; decide⟩
theorem isB2 : isB 2 := by unfold isB; decide
theorem mulI : ∀ k, k < 2 → (1694 : Int32) * nI (k + 1) = nI (1694 * (k + 1)) := by decide +kernel
def imL (B : Nat → Int32) (k n : Nat) : Nat → Int32 := fun i => if 1694 * (k + 1) ≤ i ∧ i < 1694 * (k + 1) + n then B (i - 1694 * (k + 1)) else B i
def reL (B : Nat → Int32) (k n : Nat) : Nat → Int32 := fun i => if i < n then B (1694 * (k + 1) + i) else B i
section IMAGE
variable {S : am_S} {d : Nat} {σ : bm_S} {M L : Nat}
theorem c155 {k : Nat} (hk : k < 2) : bm_call S d 155 [.ref 0, .int (nI k)] σ = some (some (.ref (182 + 14 * k)), σ) := by
  have n2 : ¬ (2 : Int32) ≤ nI k := nI_ge (b := 2) hk (by decide)
  simp (disch := omega) only [bm_run_ite, Option.toList_some, Option.bind_some, Option.toList_some, Option.toList_none, List.cons_append, List.nil_append, List.append_nil, eq_self, not_true_eq_false, not_false_eq_true, ite_true, ite_false, ↓reduceIte, Nat.reduceLT, Nat.reduceEqDiff, Nat.reduceAdd, or_true, true_or, or_false, false_or, nI_clamp2, nI_lt0F, nI_leT, nI_leF, nI_ltT, nI_ltF, n_leF, n_leT, nI_1, kA6, kA8, kA10, kA22, kA26, kA32, kA44, kA56, kA68, kA80, kA93, kA163, kA794, not_or, or_self, and_self, and_true, true_and, e155, g155_0, g155_4, g155_13, g155_22, g155_23, n2, rows144 k hk, am_rf, bm_isr]
theorem c155n {i : Int32} (h : hasI i 2 = false) : bm_call S d 155 [.ref 0, .int i] σ = some (some .null, σ) := by
  by_cases h0 : i < 0
  · simp only [e155, g155_0, g155_4, g155_13, g155_22, g155_23, bm_run_ite, Option.toList_some, Option.bind_some, Option.toList_some, Option.toList_none, List.cons_append, List.nil_append, List.append_nil, eq_self, not_true_eq_false, not_false_eq_true, ite_true, ite_false, ↓reduceIte, Nat.reduceLT, Nat.reduceEqDiff, Nat.reduceAdd, or_true, true_or, or_false, false_or, h0, bm_isr]
  · have h1 : (2 : Int32) ≤ i := by
      by_cases q : (2 : Int32) ≤ i
      · exact q
      · have : hasI i 2 = true := by
          unfold hasI
          have q2 : ¬ nI 2 ≤ i := q
          simp [h0, q2]
        rw [this] at h; cases h
    simp only [e155, g155_0, g155_4, g155_13, g155_22, g155_23, bm_run_ite, Option.toList_some, Option.bind_some, Option.toList_some, Option.toList_none, List.cons_append, List.nil_append, List.append_nil, eq_self, not_true_eq_false, not_false_eq_true, ite_true, ite_false, ↓reduceIte, Nat.reduceLT, Nat.reduceEqDiff, Nat.reduceAdd, or_true, true_or, or_false, false_or, h0, h1, bm_isr]
theorem p_image (h : RS M L σ) (i : Int32) : PR S (d + 10) 150 283 [.int i] σ := by
  have bwi : bW i.toInt64 0 1 = bI (hasI i 2) := bW_hasI (n := 2) (by decide) i
  cases hi : hasI i 2
  · rw [hi] at bwi
    refine PR.ofk (v := .int (Int32.ofInt (-2))) h ⟨σ, by simp (decide := true) only [e150, g150_0, g150_5n, g150_10, bm_run_ite, Option.toList_some, Option.bind_some, Option.toList_some, Option.toList_none, List.cons_append, List.nil_append, List.append_nil, eq_self, not_true_eq_false, not_false_eq_true, ite_true, ite_false, ↓reduceIte, Nat.reduceLT, Nat.reduceEqDiff, Nat.reduceAdd, or_true, true_or, or_false, false_or, c155n hi], Kp.rfl σ⟩ ?_
    intro τ k
    exact ⟨_, by simp (decide := true) only [e283, g283_0, g283_12, g283_15, bm_run_ite, Option.toList_some, Option.bind_some, Option.toList_some, Option.toList_none, List.cons_append, List.nil_append, List.append_nil, eq_self, not_true_eq_false, not_false_eq_true, ite_true, ite_false, ↓reduceIte, Nat.reduceLT, Nat.reduceEqDiff, Nat.reduceAdd, or_true, true_or, or_false, false_or, c163, bwi, bI_itn, Bool.false_eq_true], kp_t0 τ⟩
  rw [hi] at bwi
  obtain ⟨k, hk, rfl⟩ := hasI_of hi (by decide)
  obtain ⟨t1, t2, t3, t4, t5⟩ := img2 k hk
  have h0 := h
  obtain ⟨⟨c1, c2', c3⟩, ⟨n, e, p1, p2, p3, p4, p5, p6⟩, im, tr, ⟨t, u1, u2, u3, u4⟩, x1, x2⟩ := h0
  obtain ⟨σ1, k1, ⟨f1, f1x⟩, w1, w1c⟩ := c2 (S := S) (d := d + 7) (σ := σ) isB2 t4 (by omega)
  have hb1 : BK σ1 (182 + 14 * k + 1) (σ.1 219) := h.bk.copy h.ga.1.1 w1 w1c t4
  obtain ⟨σ2, k2, f2, w2⟩ := c77 (S := S) (d := d + 7) (σ := σ1) isW5 t5 (by omega)
  have hr1 : RW M L σ1 5 (σ.1 219) := h.rw.of (fun a _ _ => f1 a (by omega) (by omega))
  have hr2 := w2 hr1
  have hb2 : BK σ2 (182 + 14 * k + 1) (σ.1 219) := hb1.of (f2.1 _ (by omega)) (f2.1 _ (by omega))
  generalize hσ3 : bm_wi σ2 (182 + 14 * k) 2 1 = σ3
  have s3 : ∀ a, a ≠ 182 + 14 * k → σ3.1 a = σ2.1 a := fun a ha => by rw [← hσ3]; exact wi_n _ ha _ _
  have s32 : σ3.1 (182 + 14 * k) 2 = 1 := by rw [← hσ3, wi_s, upd_s]
  have s3x : σ3.2 = σ.2 := by rw [← hσ3]; show σ2.2 = _; rw [f2.2, f1x]
  have sn : ∀ a, (a < 182 + 14 * k ∨ 195 + 14 * k < a) → σ3.1 a = σ.1 a := fun a ha => by rw [s3 a (by omega), f2.1 a (by omega), f1 a (by omega) (by omega)]
  generalize hB : σ.1 219 = B at *
  have q17 : (bm_wi σ3 218 0 0).1 219 = B := by rw [wi_n _ (by decide), sn 219 (by omega)]; exact hB
  have step := loop_eq (fun j => bm_run S (d + 10) 283 20 [some (.ref 218), some (.int (nI k)), some (.int (nI j))] [] (bm_row (bm_wi σ3 218 0 0) 219 (imL B k j))) 1694 (by
    intro j hj
    have n94 : ¬ (1694 : Int32) ≤ nI j := nI_ge (b := 1694) hj (by decide)
    have cj : imL B k j j = B j := by unfold imL; rw [if_neg (by omega)]
    have es : imL B k (j + 1) = upd (imL B k j) (1694 * (k + 1) + j) (B j) := by
      funext y
      simp only [upd, imL]
      by_cases ee : y = 1694 * (k + 1) + j
      · subst ee
        rw [if_pos rfl, if_pos (by omega), Nat.add_sub_cancel_left]
      · rw [if_neg ee]
        by_cases q : 1694 * (k + 1) ≤ y ∧ y < 1694 * (k + 1) + j
        · rw [if_pos q, if_pos (by omega)]
        · rw [if_neg q, if_neg (by omega)]
    rw [g283_20, es]
    simp (disch := omega) only [bm_run_ite, Option.toList_some, Option.bind_some, Option.toList_some, Option.toList_none, List.cons_append, List.nil_append, List.append_nil, eq_self, not_true_eq_false, not_false_eq_true, ite_true, ite_false, ↓reduceIte, Nat.reduceLT, Nat.reduceEqDiff, Nat.reduceAdd, or_true, true_or, or_false, false_or, nI_clamp2, nI_lt0F, nI_leT, nI_leF, nI_ltT, nI_ltF, n_leF, n_leT, nI_1, kA6, kA8, kA10, kA22, kA26, kA32, kA44, kA56, kA68, kA80, kA93, kA163, kA794, not_or, or_self, and_self, and_true, true_and, g283_27, n94, mulI k hk, nI_add, row_row1, cj, wi_row])
  have e0 : bm_row (bm_wi σ3 218 0 0) 219 (imL B k 0) = bm_wi σ3 218 0 0 := by
    have : imL B k 0 = B := by funext y; unfold imL; rw [if_neg (by omega)]
    rw [this, ← q17]; exact bm_row_self _ _
  simp only [e0] at step
  generalize hρ : bm_wi (bm_row (bm_wi σ3 218 0 0) 219 (imL B k 1694)) 220 k 1 = ρ
  have r17 : ρ.1 219 = imL B k 1694 := by rw [← hρ, wi_n _ (by decide), row_row1]
  have r18 : ρ.1 220 = upd (σ.1 220) k 1 := by rw [← hρ, wi_s, bm_row_1n _ _ (by decide), wi_n _ (by decide), sn 220 (by omega)]
  have rn : ∀ a, a ≠ 218 → a ≠ 219 → a ≠ 220 → ρ.1 a = σ3.1 a := fun a h1 h2 h3 => by rw [← hρ, wi_n _ h3, bm_row_1n _ _ h2, wi_n _ h1]
  have r16 : ∀ b, b ≠ 0 → ρ.1 218 b = σ.1 218 b := fun b hb => by rw [← hρ, wi_n _ (by decide), bm_row_1n _ _ (by decide), wi_s, upd_n _ _ hb, sn 218 (by omega)]
  have rx : ρ.2 = σ.2 := by rw [← hρ]; exact s3x
  have rk : ∀ a, a ≠ 218 → a ≠ 219 → a ≠ 220 → (a < 182 + 14 * k ∨ 195 + 14 * k < a) → ρ.1 a = σ.1 a := fun a h1 h2 h3 h4 => (rn a h1 h2 h3).trans (sn a h4)
  have lo : ∀ i, i < 1694 → imL B k 1694 i = B i := fun i hi => by unfold imL; rw [if_neg (by omega)]
  have hi2 : ∀ i, i < 1694 → imL B k 1694 (1694 * (k + 1) + i) = B i := fun i hi => by unfold imL; rw [if_pos (by omega), Nat.add_sub_cancel_left]
  have oth : ∀ j, j < 2 → j ≠ k → ∀ i, i < 1694 → imL B k 1694 (1694 * (j + 1) + i) = B (1694 * (j + 1) + i) := fun j hj hjk i hi => by unfold imL; rw [if_neg (by omega)]
  refine ⟨.int 0, σ3, ρ, M, L, ?_, ?_, ⟨⟨?_, ?_, ?_⟩, ⟨n, e, p1, p2, ?_, ?_, ?_, ?_⟩, ?_, ?_, ⟨t, u1, ?_, ?_, ?_⟩, ?_, ?_⟩⟩
  · simp (decide := true) only [e150, g150_0, g150_5r, g150_13r, g150_24r, g150_35r, bm_run_ite, Option.toList_some, Option.bind_some, Option.toList_some, Option.toList_none, List.cons_append, List.nil_append, List.append_nil, eq_self, not_true_eq_false, not_false_eq_true, ite_true, ite_false, ↓reduceIte, Nat.reduceLT, Nat.reduceEqDiff, Nat.reduceAdd, or_true, true_or, or_false, false_or, c155 hk, t1, t2, t3, k1, k2, hσ3]
  · have nar : vp_nar .boolean 1 = 1 := by decide
    simp (decide := true) only [e283, g283_0, g283_12, g283_18, bm_run_ite, Option.toList_some, Option.bind_some, Option.toList_some, Option.toList_none, List.cons_append, List.nil_append, List.append_nil, eq_self, not_true_eq_false, not_false_eq_true, ite_true, ite_false, ↓reduceIte, Nat.reduceLT, Nat.reduceEqDiff, Nat.reduceAdd, or_true, true_or, or_false, false_or, c163, bwi, bI_itn]
    refine (show bm_run S (d + 10) 283 20 [some (.ref 218), some (.int (nI k)), some (.int (nI 0))] [] _ = _ from step).trans ?_
    have n94 : (1694 : Int32) ≤ nI 1694 := by decide
    rw [g283_20]
    simp (disch := omega) only [bm_run_ite, Option.toList_some, Option.bind_some, Option.toList_some, Option.toList_none, List.cons_append, List.nil_append, List.append_nil, eq_self, not_true_eq_false, not_false_eq_true, ite_true, ite_false, ↓reduceIte, Nat.reduceLT, Nat.reduceEqDiff, Nat.reduceAdd, or_true, true_or, or_false, false_or, nI_clamp2, nI_lt0F, nI_leT, nI_leF, nI_ltT, nI_ltF, n_leF, n_leT, nI_1, kA6, kA8, kA10, kA22, kA26, kA32, kA44, kA56, kA68, kA80, kA93, kA163, kA794, not_or, or_self, and_self, and_true, true_and, g283_53, n94, nar, hρ]
  · rw [r17]; exact c1.cgz (fun i hi => lo i (by omega))
  · rw [r17]
    exact (c2'.of (fun a h1 h2 => rk a (by omega) (by omega) (by omega) (by omega))).eqB (fun i hi => lo i (by have := c2'.M6; have := c2'.L12; omega))
  · rw [r17]
    exact (c3.of (rk 2 (by omega) (by omega) (by omega) (by omega)) (rk 3 (by omega) (by omega) (by omega) (by omega))).cgz c1.1.1.1 (fun i hi => lo i (by omega))
  · rw [r17, lo 92 (by omega)]; exact p3
  · rw [rk 42 (by omega) (by omega) (by omega) (by omega)]; exact p4
  · rw [rk 42 (by omega) (by omega) (by omega) (by omega)]; exact p5
  · intro j hj
    obtain ⟨L1, q1, q2⟩ := p6 j hj
    have hm : (e + j) % 10 < 10 := Nat.mod_lt _ (by decide)
    have ev : ∀ y, y < 1694 → vwB (ρ.1 219) j y = vwB B j y := by
      intro y hy
      unfold vwB
      rw [r17]
      by_cases q : 22 ≤ y ∧ y < 92
      · rw [if_pos q, if_pos q, lo _ (by omega)]
      · rw [if_neg q, if_neg q, lo _ hy]
    refine ⟨L1, q1.cgz (fun y hy => ev y (by omega)), RW.eqB (q2.of (fun a h1 h2 => rk a (by omega) (by omega) (by omega) (by omega))) (fun y hy => ev y ?_)⟩
    have := q2.M6; have := q2.L12; omega
  · intro j hj
    by_cases ejk : j = k
    · subst ejk
      refine Or.inr ⟨by rw [rn _ (by omega) (by omega) (by omega)]; exact s32, by rw [r18, upd_s], M, L, ?_, ?_, ?_⟩
      · rw [r17]; exact c1.cgz (fun y hy => hi2 y (by omega))
      · rw [r17]
        have : RW M L ρ (186 + 14 * j) B := by
          have e4 : 182 + 14 * j + 4 = 186 + 14 * j := by omega
          rw [e4] at hr2
          exact hr2.of (fun a h1 h2 => by rw [rn a (by omega) (by omega) (by omega), s3 a (by omega)])
        exact this.eqB (fun y hy => hi2 y (by have := c2'.M6; have := c2'.L12; omega))
      · rw [r17]
        have : BK ρ (183 + 14 * j) B := by
          have e4 : 182 + 14 * j + 1 = 183 + 14 * j := by omega
          rw [e4] at hb2
          exact hb2.of (by rw [rn _ (by omega) (by omega) (by omega), s3 _ (by omega)]) (by rw [rn _ (by omega) (by omega) (by omega), s3 _ (by omega)])
        exact this.cgz c1.1.1.1 (fun y hy => hi2 y (by omega))
    · have im1 := im j hj
      unfold IM at im1 ⊢
      rw [rk (182 + 14 * j) (by omega) (by omega) (by omega) (by omega), r18, upd_n _ _ ejk]
      rcases im1 with z | ⟨z1, z2, M2, L2, o1, o2, o3⟩
      · exact Or.inl z
      · rw [hB] at o1 o2 o3
        have ev : ∀ y, y < 1694 → imB (ρ.1 219) j y = imB B j y := fun y hy => by unfold imB; rw [r17]; exact oth j hj ejk y hy
        refine Or.inr ⟨z1, z2, M2, L2, o1.cgz (fun y hy => ev y (by omega)), RW.eqB (o2.of (fun a h1 h2 => rk a (by omega) (by omega) (by omega) (by omega))) (fun y hy => ev y ?_), BK.cgz (o3.of (rk _ (by omega) (by omega) (by omega) (by omega)) (rk _ (by omega) (by omega) (by omega) (by omega))) o1.1.1.1 (fun y hy => ev y (by omega))⟩
        have := o2.M6; have := o2.L12; omega
  · intro j hj
    have := tr j hj
    unfold TR at this ⊢
    rw [rk (210 + 2 * j) (by omega) (by omega) (by omega) (by omega), rk 235 (by omega) (by omega) (by omega) (by omega), rk 236 (by omega) (by omega) (by omega) (by omega), rx]
    exact this
  · rw [rk 0 (by omega) (by omega) (by omega) (by omega)]; exact u2
  · rw [r16 5 (by omega)]; exact u3
  · intro j hj
    rw [rk 1 (by omega) (by omega) (by omega) (by omega), rk 221 (by omega) (by omega) (by omega) (by omega)]
    exact u4 j hj
  · rw [rk 0 (by omega) (by omega) (by omega) (by omega), r16 13 (by omega)]; exact x1
  · rw [rk 0 (by omega) (by omega) (by omega) (by omega), r16 14 (by omega)]; exact x2
theorem p_restore (h : RS M L σ) (i : Int32) : PR S (d + 10) 151 284 [.int i] σ := by
  have bwi : bW i.toInt64 0 1 = bI (hasI i 2) := bW_hasI (n := 2) (by decide) i
  cases hi : hasI i 2
  · rw [hi] at bwi
    refine PR.ofk (v := .int (Int32.ofInt (-2))) h ⟨σ, by simp (decide := true) only [e151, g151_0, g151_5n, g151_10, bm_run_ite, Option.toList_some, Option.bind_some, Option.toList_some, Option.toList_none, List.cons_append, List.nil_append, List.append_nil, eq_self, not_true_eq_false, not_false_eq_true, ite_true, ite_false, ↓reduceIte, Nat.reduceLT, Nat.reduceEqDiff, Nat.reduceAdd, or_true, true_or, or_false, false_or, c155n hi], Kp.rfl σ⟩ ?_
    intro τ k
    exact ⟨_, by simp (decide := true) only [e284, g284_0, g284_12, g284_15, bm_run_ite, Option.toList_some, Option.bind_some, Option.toList_some, Option.toList_none, List.cons_append, List.nil_append, List.append_nil, eq_self, not_true_eq_false, not_false_eq_true, ite_true, ite_false, ↓reduceIte, Nat.reduceLT, Nat.reduceEqDiff, Nat.reduceAdd, or_true, true_or, or_false, false_or, c163, bwi, bI_itn, Bool.false_eq_true], kp_t0 τ⟩
  rw [hi] at bwi
  obtain ⟨k, hk, rfl⟩ := hasI_of hi (by decide)
  obtain ⟨t1, t2, t3, t4, t5⟩ := img2 k hk
  have h0 := h
  obtain ⟨⟨c1, c2', c3⟩, ⟨n, e, p1, p2, p3, p4, p5, p6⟩, im, tr, ⟨t, u1, u2, u3, u4⟩, x1, x2⟩ := h0
  rcases im k hk with ⟨i1, i2⟩ | ⟨i1, i2, M1, L1, o1, o2, o3⟩
  · refine PR.ofk (v := .int (Int32.ofInt (-5))) h ⟨σ, by simp (decide := true) only [e151, g151_0, g151_5r, g151_13r, g151_20, bm_run_ite, Option.toList_some, Option.bind_some, Option.toList_some, Option.toList_none, List.cons_append, List.nil_append, List.append_nil, eq_self, not_true_eq_false, not_false_eq_true, ite_true, ite_false, ↓reduceIte, Nat.reduceLT, Nat.reduceEqDiff, Nat.reduceAdd, or_true, true_or, or_false, false_or, c155 hk, t1, i1], Kp.rfl σ⟩ ?_
    intro τ kk
    have j1 : (bm_wi τ 218 0 0).1 220 k = 0 := by rw [wi_n _ (by decide), kk.at (by unfold Sc; omega) (by omega)]; exact i2
    refine ⟨_, ?_, kp_t0 τ⟩
    simp (decide := true) only [e284, g284_0, g284_12, bm_run_ite, Option.toList_some, Option.bind_some, Option.toList_some, Option.toList_none, List.cons_append, List.nil_append, List.append_nil, eq_self, not_true_eq_false, not_false_eq_true, ite_true, ite_false, ↓reduceIte, Nat.reduceLT, Nat.reduceEqDiff, Nat.reduceAdd, or_true, true_or, or_false, false_or, c163, bwi, bI_itn]
    rw [g284_18]
    simp (disch := omega) only [bm_run_ite, Option.toList_some, Option.bind_some, Option.toList_some, Option.toList_none, List.cons_append, List.nil_append, List.append_nil, eq_self, not_true_eq_false, not_false_eq_true, ite_true, ite_false, ↓reduceIte, Nat.reduceLT, Nat.reduceEqDiff, Nat.reduceAdd, or_true, true_or, or_false, false_or, nI_clamp2, nI_lt0F, nI_leT, nI_leF, nI_ltT, nI_ltF, n_leF, n_leT, nI_1, kA6, kA8, kA10, kA22, kA26, kA32, kA44, kA56, kA68, kA80, kA93, kA163, kA794, not_or, or_self, and_self, and_true, true_and, g284_27, j1]
  generalize hB : σ.1 219 = B at *
  have e1 : 183 + 14 * k = 182 + 14 * k + 1 := by omega
  have e4 : 186 + 14 * k = 182 + 14 * k + 4 := by omega
  rw [e1] at o3
  rw [e4] at o2
  obtain ⟨σ1, k1, ⟨f1, f1x⟩, w1, w1c⟩ := c2 (S := S) (d := d + 7) (σ := σ) t4 isB2 (by omega)
  have hb1 : BK σ1 2 (imB B k) := o3.copy o1.1.1.1 w1 w1c isB2
  obtain ⟨σ2, k2, f2, w2⟩ := c77 (S := S) (d := d + 7) (σ := σ1) t5 isW5 (by omega)
  have hr1 : RW M1 L1 σ1 (182 + 14 * k + 4) (imB B k) := o2.of (fun a _ _ => f1 a (by omega) (by omega))
  have hr2 := w2 hr1
  have hb2 : BK σ2 2 (imB B k) := hb1.of (f2.1 _ (by omega)) (f2.1 _ (by omega))
  generalize hσ3 : bm_wi σ2 42 2 0 = σ3
  have s3 : ∀ a, a ≠ 42 → σ3.1 a = σ2.1 a := fun a ha => by rw [← hσ3]; exact wi_n _ ha _ _
  have s3x : σ3.2 = σ.2 := by rw [← hσ3]; show σ2.2 = _; rw [f2.2, f1x]
  have sn : ∀ a, a ≠ 42 → a ≠ 2 → a ≠ 3 → (a < 5 ∨ 12 < a) → σ3.1 a = σ.1 a := fun a h1 h2 h3 h4 => by rw [s3 a h1, f2.1 a (by omega), f1 a h2 h3]
  have q17 : (bm_wi σ3 218 0 0).1 219 = B := by rw [wi_n _ (by decide), sn 219 (by omega) (by omega) (by omega) (by omega)]; exact hB
  have q18 : (bm_wi σ3 218 0 0).1 220 k = 1 := by rw [wi_n _ (by decide), sn 220 (by omega) (by omega) (by omega) (by omega)]; exact i2
  have step := loop_eq (fun j => bm_run S (d + 10) 284 32 [some (.ref 218), some (.int (nI k)), some (.int (nI j))] [] (bm_row (bm_wi σ3 218 0 0) 219 (reL B k j))) 1694 (by
    intro j hj
    have n94 : ¬ (1694 : Int32) ≤ nI j := nI_ge (b := 1694) hj (by decide)
    have cj : reL B k j (1694 * (k + 1) + j) = B (1694 * (k + 1) + j) := by unfold reL; rw [if_neg (by omega)]
    have es : reL B k (j + 1) = upd (reL B k j) j (B (1694 * (k + 1) + j)) := by
      funext y
      simp only [upd, reL]
      by_cases ee : y = j
      · subst ee
        rw [if_pos rfl, if_pos (by omega)]
      · rw [if_neg ee]
        by_cases q : y < j
        · rw [if_pos q, if_pos (by omega)]
        · rw [if_neg q, if_neg (by omega)]
    rw [g284_32, es]
    simp (disch := omega) only [bm_run_ite, Option.toList_some, Option.bind_some, Option.toList_some, Option.toList_none, List.cons_append, List.nil_append, List.append_nil, eq_self, not_true_eq_false, not_false_eq_true, ite_true, ite_false, ↓reduceIte, Nat.reduceLT, Nat.reduceEqDiff, Nat.reduceAdd, or_true, true_or, or_false, false_or, nI_clamp2, nI_lt0F, nI_leT, nI_leF, nI_ltT, nI_ltF, n_leF, n_leT, nI_1, kA6, kA8, kA10, kA22, kA26, kA32, kA44, kA56, kA68, kA80, kA93, kA163, kA794, not_or, or_self, and_self, and_true, true_and, g284_39, n94, mulI k hk, nI_add, row_row1, cj, wi_row])
  have e0 : bm_row (bm_wi σ3 218 0 0) 219 (reL B k 0) = bm_wi σ3 218 0 0 := by
    have : reL B k 0 = B := by funext y; unfold reL; rw [if_neg (by omega)]
    rw [this, ← q17]; exact bm_row_self _ _
  simp only [e0] at step
  generalize hρ : bm_wi (bm_row (bm_wi σ3 218 0 0) 219 (reL B k 1694)) 219 92 0 = ρ
  have r17 : ρ.1 219 = upd (reL B k 1694) 92 0 := by rw [← hρ, wi_s, row_row1]
  have rn : ∀ a, a ≠ 218 → a ≠ 219 → ρ.1 a = σ3.1 a := fun a h1 h2 => by rw [← hρ, wi_n _ h2, bm_row_1n _ _ h2, wi_n _ h1]
  have r16 : ∀ b, b ≠ 0 → ρ.1 218 b = σ.1 218 b := fun b hb => by rw [← hρ, wi_n _ (by decide), bm_row_1n _ _ (by decide), wi_s, upd_n _ _ hb, sn 218 (by omega) (by omega) (by omega) (by omega)]
  have rx : ρ.2 = σ.2 := by rw [← hρ]; exact s3x
  have rk : ∀ a, a ≠ 218 → a ≠ 219 → a ≠ 42 → a ≠ 2 → a ≠ 3 → (a < 5 ∨ 12 < a) → ρ.1 a = σ.1 a := fun a h1 h2 h3 h4 h5 h6 => (rn a h1 h2).trans (sn a h3 h4 h5 h6)
  have lo : ∀ i, i < 1694 → i ≠ 92 → upd (reL B k 1694) 92 0 i = imB B k i := fun i hi h2 => by rw [upd_n _ _ h2]; unfold reL; rw [if_pos hi]; rfl
  have big : ∀ i, 1694 ≤ i → upd (reL B k 1694) 92 0 i = B i := fun i hi => by rw [upd_n _ _ (by omega)]; unfold reL; rw [if_neg (by omega)]
  refine ⟨.int 0, σ3, ρ, M1, L1, ?_, ?_, ⟨⟨?_, ?_, ?_⟩, ⟨0, e, by omega, p2, ?_, ?_, ?_, fun j hj => absurd hj (by omega)⟩, ?_, ?_, ⟨t, u1, ?_, ?_, ?_⟩, ?_, ?_⟩⟩
  · have i1n : ¬ σ.1 (182 + 14 * k) 2 = 0 := by rw [i1]; decide
    simp (decide := true) only [e151, g151_0, g151_5r, g151_13r, g151_23r, g151_34r, g151_45, g151_52, e40, g40_0, bm_run_ite, Option.toList_some, Option.bind_some, Option.toList_some, Option.toList_none, List.cons_append, List.nil_append, List.append_nil, eq_self, not_true_eq_false, not_false_eq_true, ite_true, ite_false, ↓reduceIte, Nat.reduceLT, Nat.reduceEqDiff, Nat.reduceAdd, or_true, true_or, or_false, false_or, c155 hk, t1, i1n, k1, k2, hσ3]
  · simp (decide := true) only [e284, g284_0, g284_12, bm_run_ite, Option.toList_some, Option.bind_some, Option.toList_some, Option.toList_none, List.cons_append, List.nil_append, List.append_nil, eq_self, not_true_eq_false, not_false_eq_true, ite_true, ite_false, ↓reduceIte, Nat.reduceLT, Nat.reduceEqDiff, Nat.reduceAdd, or_true, true_or, or_false, false_or, c163, bwi, bI_itn]
    rw [g284_18]
    simp (disch := omega) only [bm_run_ite, Option.toList_some, Option.bind_some, Option.toList_some, Option.toList_none, List.cons_append, List.nil_append, List.append_nil, eq_self, not_true_eq_false, not_false_eq_true, ite_true, ite_false, ↓reduceIte, Nat.reduceLT, Nat.reduceEqDiff, Nat.reduceAdd, or_true, true_or, or_false, false_or, nI_clamp2, nI_lt0F, nI_leT, nI_leF, nI_ltT, nI_ltF, n_leF, n_leT, nI_1, kA6, kA8, kA10, kA22, kA26, kA32, kA44, kA56, kA68, kA80, kA93, kA163, kA794, not_or, or_self, and_self, and_true, true_and, g284_30, q18, nz10]
    refine (show bm_run S (d + 10) 284 32 [some (.ref 218), some (.int (nI k)), some (.int (nI 0))] [] _ = _ from step).trans ?_
    have n94 : (1694 : Int32) ≤ nI 1694 := by decide
    rw [g284_32]
    simp (disch := omega) only [bm_run_ite, Option.toList_some, Option.bind_some, Option.toList_some, Option.toList_none, List.cons_append, List.nil_append, List.append_nil, eq_self, not_true_eq_false, not_false_eq_true, ite_true, ite_false, ↓reduceIte, Nat.reduceLT, Nat.reduceEqDiff, Nat.reduceAdd, or_true, true_or, or_false, false_or, nI_clamp2, nI_lt0F, nI_leT, nI_leF, nI_ltT, nI_ltF, n_leF, n_leT, nI_1, kA6, kA8, kA10, kA22, kA26, kA32, kA44, kA56, kA68, kA80, kA93, kA163, kA794, not_or, or_self, and_self, and_true, true_and, g284_65, n94, hρ]
  · rw [r17]; exact o1.cgz (fun i hi => lo i (by omega) (by omega))
  · rw [r17]
    exact (hr2.of (fun a h1 h2 => by rw [rn a (by omega) (by omega), s3 a (by omega)])).eqB (fun i hi => lo i (by have := o2.M6; have := o2.L12; omega) (by have := o2.M6; have := o2.L12; omega))
  · rw [r17]
    exact (hb2.of (by rw [rn 2 (by omega) (by omega), s3 2 (by omega)]) (by rw [rn 3 (by omega) (by omega), s3 3 (by omega)])).cgz o1.1.1.1 (fun i hi => lo i (by omega) (by omega))
  · rw [r17, upd_s]; rfl
  · rw [rn 42 (by omega) (by omega), ← hσ3, wi_s, upd_s]; rfl
  · rw [rn 42 (by omega) (by omega), ← hσ3, wi_s, upd_n _ _ (by decide), f2.1 42 (by omega), f1 42 (by omega) (by omega)]; exact p5
  · intro j hj
    have im1 := im j hj
    have ei : imB (ρ.1 219) j = imB B j := by funext y; unfold imB; rw [r17]; exact big _ (by omega)
    unfold IM at im1 ⊢
    rw [hB] at im1
    rw [rk (182 + 14 * j) (by omega) (by omega) (by omega) (by omega) (by omega) (by omega), rk 220 (by omega) (by omega) (by omega) (by omega) (by omega) (by omega), ei]
    rcases im1 with z | ⟨z1, z2, M2, L2, q1, q2, q3⟩
    · exact Or.inl z
    · exact Or.inr ⟨z1, z2, M2, L2, q1, q2.of (fun a h1 h2 => rk a (by omega) (by omega) (by omega) (by omega) (by omega) (by omega)), q3.of (rk _ (by omega) (by omega) (by omega) (by omega) (by omega) (by omega)) (rk _ (by omega) (by omega) (by omega) (by omega) (by omega) (by omega))⟩
  · intro j hj
    have := tr j hj
    unfold TR at this ⊢
    rw [rk (210 + 2 * j) (by omega) (by omega) (by omega) (by omega) (by omega) (by omega), rk 235 (by omega) (by omega) (by omega) (by omega) (by omega) (by omega), rk 236 (by omega) (by omega) (by omega) (by omega) (by omega) (by omega), rx]
    exact this
  · rw [rk 0 (by omega) (by omega) (by omega) (by omega) (by omega) (by omega)]; exact u2
  · rw [r16 5 (by omega)]; exact u3
  · intro j hj
    rw [rk 1 (by omega) (by omega) (by omega) (by omega) (by omega) (by omega), rk 221 (by omega) (by omega) (by omega) (by omega) (by omega) (by omega)]
    exact u4 j hj
  · rw [rk 0 (by omega) (by omega) (by omega) (by omega) (by omega) (by omega), r16 13 (by omega)]; exact x1
  · rw [rk 0 (by omega) (by omega) (by omega) (by omega) (by omega) (by omega), r16 14 (by omega)]; exact x2
end IMAGE
