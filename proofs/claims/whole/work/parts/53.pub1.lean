/-! PAIRS OF CALLS -/
def PR (S : am_S) (d a b : Nat) (As : List Value) (σ : bm_S) : Prop := ∃ v σ1 σ2 M L, bm_call S d a (.ref 0 :: As) σ = some (some v, σ1) ∧ bm_call S d b (.ref 218 :: As) σ1 = some (some v, σ2) ∧ RS M L σ2
theorem PR.of {S : am_S} {d a b M L : Nat} {As : List Value} {σ : bm_S} {v : Value} (h : RS M L σ) (hc : ∃ σ1, bm_call S d a (.ref 0 :: As) σ = some (some v, σ1) ∧ Kp σ σ1) (hm : ∀ σ1, RS M L σ1 → σ1.1 219 = σ.1 219 → (∀ i, i = 5 ∨ i = 13 ∨ i = 14 → σ1.1 218 i = σ.1 218 i) → ∃ σ2, bm_call S d b (.ref 218 :: As) σ1 = some (some v, σ2) ∧ Kp σ1 σ2) : PR S d a b As σ := by
  obtain ⟨σ1, e1, k1⟩ := hc
  obtain ⟨σ2, e2, k2⟩ := hm σ1 (h.kp k1) (k1.1 219 (by unfold Sc; omega) (by omega)) k1.2.1
  exact ⟨v, σ1, σ2, M, L, e1, e2, (h.kp k1).kp k2⟩
theorem bW_of {lo hi : Int64} {a b : Nat} (ha : lo.toInt = a) (hb : hi.toInt = b) (hb2 : b < 2147483648) {i : Int32} (h : bW i.toInt64 lo hi = 1) : ∃ k, a ≤ k ∧ k ≤ b ∧ i = nI k := by
  unfold bW at h
  split at h
  · exact absurd h (by decide)
  · next h1 =>
    split at h
    · exact absurd h (by decide)
    · next h2 =>
      rw [Int64.lt_iff_toInt_lt, Int32.toInt_toInt64] at h1 h2
      have h0 : 0 ≤ i.toInt := by omega
      refine ⟨i.toInt.toNat, by omega, by omega, toInt_nI h0⟩
theorem bW_n {v a b : Int64} (h : ¬ bW v a b = 1) : bW v a b = 0 := by
  rcases bW_01 v a b with q | q
  · exact q
  · exact absurd q h
section PUB1
variable {S : am_S} {d : Nat} {σ : bm_S} {M L : Nat}
theorem m241 (i : Int32) : bm_call S (d + 1) 241 [.int i] σ = some (some (.int (bW i.toInt64 0 30)), σ) := by
  simp only [e241, g241_0, g241_9, bm_run_ite, Option.toList_some, Option.bind_some, Option.toList_some, Option.toList_none, List.cons_append, List.nil_append, List.append_nil, eq_self, not_true_eq_false, not_false_eq_true, ite_true, ite_false, ↓reduceIte, Nat.reduceLT, Nat.reduceEqDiff, Nat.reduceAdd, or_true, true_or, or_false, false_or, c163]
  rcases bW_01 i.toInt64 0 30 with q | q <;> simp [q]
theorem nz10 : ¬ (1 : Int32) = 0 := by decide
theorem RS.t0 (h : RS M L σ) : RS M L (bm_wi σ 218 0 0) := h.kp ((Kp.rfl σ).w16 (by decide) 0)
theorem kp_t0 (σ : bm_S) : Kp σ (bm_wi σ 218 0 0) := (Kp.rfl σ).w16 (by decide) 0
theorem t0_B (σ : bm_S) : (bm_wi σ 218 0 0).1 219 = σ.1 219 := wi_n _ (by decide) _ _
theorem p_merchant (h : RS M L σ) (i w : Int32) : PR S (d + 10) 112 204 [.int i, .int w] σ := by
  have hM := h.rw.M6
  generalize hB : σ.1 219 = B
  refine PR.of (v := .int (if hasI i M = true then (if w = 0 then B (26 + cN i) else if w = 1 then bI (tb (B 24) (cN i)) else if w = 2 then smS (sowF B 32 i) L else if w = 3 then smS (sowF B 44 i) L else Int32.ofInt (-2)) else Int32.ofInt (-2))) h ⟨σ, ?_, Kp.rfl σ⟩ ?_
  · have hr := h.rw
    rw [hB] at hr
    cases hi : hasI i M
    · simp only [e112, g112_0, g112_8, g112_11, g112_14, g112_44, g112_55, g112_56, g112_64, g112_67, g112_71, g112_72, g112_73, g112_88, g112_89, g112_104, g112_105, bm_run_ite, Option.toList_some, Option.bind_some, Option.toList_some, Option.toList_none, List.cons_append, List.nil_append, List.append_nil, eq_self, not_true_eq_false, not_false_eq_true, ite_true, ite_false, ↓reduceIte, Nat.reduceLT, Nat.reduceEqDiff, Nat.reduceAdd, or_true, true_or, or_false, false_or, c78 hr, hi, bI_itn, Bool.false_eq_true]
    · obtain ⟨m, hm, rfl⟩ := hasI_of hi (by omega)
      have q0 : bm_call S (d + 9) 158 [.ref 6, .int (nI m)] σ = _ := hr.a1 hm
      have q2 : bm_call S (d + 9) 86 [.ref 5, .ref 7, .int (nI m)] σ = _ := c86a hr (nI m)
      have q3 : bm_call S (d + 9) 86 [.ref 5, .ref 8, .int (nI m)] σ = _ := c86b hr (nI m)
      simp only [e112, g112_0, g112_8, g112_11, g112_14, g112_44, g112_55, g112_56, g112_64, g112_67, g112_71, g112_72, g112_73, g112_88, g112_89, g112_104, g112_105, bm_run_ite, Option.toList_some, Option.bind_some, Option.toList_some, Option.toList_none, List.cons_append, List.nil_append, List.append_nil, eq_self, not_true_eq_false, not_false_eq_true, ite_true, ite_false, ↓reduceIte, Nat.reduceLT, Nat.reduceEqDiff, Nat.reduceAdd, or_true, true_or, or_false, false_or, c78 hr, hi, bI_itn, q0, q2, q3, c80 hr (show m < 32 by omega), cN_nI (show m < 2147483648 by omega), bI_ite]
      by_cases w0 : w = 0
      · simp only [w0, if_true]
      · by_cases w1 : w = 1
        · simp only [w1, nz10, if_true, if_false]
          cases tb (B 24) m <;> rfl
        · by_cases w2 : w = 2
          · subst w2; simp (decide := true) only [if_true, if_false]
          · by_cases w3 : w = 3
            · subst w3; simp (decide := true) only [if_true, if_false]
            · simp only [w0, w1, w2, w3, if_false]
  · intro τ hτ eB _
    rw [hB] at eB
    have h0 := hτ.t0
    have e0 := (t0_B τ).trans eB
    refine ⟨bm_wi τ 218 0 0, ?_, kp_t0 τ⟩
    cases hi : hasI i M
    · simp only [e204, g204_0, g204_11, g204_14, g204_17, g204_48, g204_58, g204_63, g204_66, g204_70, g204_71, g204_72, g204_79, g204_80, g204_87, g204_88, bm_run_ite, Option.toList_some, Option.bind_some, Option.toList_some, Option.toList_none, List.cons_append, List.nil_append, List.append_nil, eq_self, not_true_eq_false, not_false_eq_true, ite_true, ite_false, ↓reduceIte, Nat.reduceLT, Nat.reduceEqDiff, Nat.reduceAdd, or_true, true_or, or_false, false_or, m193i h0.mr, hi, bI_itn, Bool.false_eq_true]
    · obtain ⟨m, hm, rfl⟩ := hasI_of hi (by omega)
      have q2 : bm_call S (d + 9) 203 [.ref 218, .int (nI m), .int 32] (bm_wi τ 218 0 0) = _ := m203 h0.mr (nI m) (o := 32) (by omega)
      have q3 : bm_call S (d + 9) 203 [.ref 218, .int (nI m), .int 44] (bm_wi τ 218 0 0) = _ := m203 h0.mr (nI m) (o := 44) (by omega)
      simp (disch := omega) only [bm_run_ite, Option.toList_some, Option.bind_some, Option.toList_some, Option.toList_none, List.cons_append, List.nil_append, List.append_nil, eq_self, not_true_eq_false, not_false_eq_true, ite_true, ite_false, ↓reduceIte, Nat.reduceLT, Nat.reduceEqDiff, Nat.reduceAdd, or_true, true_or, or_false, false_or, nI_clamp2, nI_lt0F, nI_leT, nI_leF, nI_ltT, nI_ltF, n_leF, n_leT, nI_1, kA6, kA8, kA10, kA22, kA26, kA32, kA44, kA56, kA68, kA80, kA93, kA163, kA794, not_or, or_self, and_self, and_true, true_and, e204, g204_0, g204_11, g204_14, g204_17, g204_48, g204_58, g204_63, g204_66, g204_70, g204_71, g204_72, g204_79, g204_80, g204_87, g204_88, m193i h0.mr, hi, bI_itn, q2, q3, m196 (show m < 32 by omega), e0, cN_nI (show m < 2147483648 by omega), bI_ite]
      by_cases w0 : w = 0
      · simp only [w0, if_true]
      · by_cases w1 : w = 1
        · simp only [w1, nz10, if_true, if_false]
          cases tb (B 24) m <;> rfl
        · by_cases w2 : w = 2
          · subst w2; simp (decide := true) only [if_true, if_false]
          · by_cases w3 : w = 3
            · subst w3; simp (decide := true) only [if_true, if_false]
            · simp only [w0, w1, w2, w3, if_false]
theorem p_due (h : RS M L σ) (n : Int32) : PR S (d + 10) 125 242 [.int n] σ := by
  generalize hB : σ.1 219 = B
  refine PR.of (v := .int (if bW n.toInt64 0 30 = 1 then orS (dB B (B 22 + n)) L else Int32.ofInt (-3))) h ⟨σ, ?_, Kp.rfl σ⟩ ?_
  · have hr := h.rw
    rw [hB] at hr
    rcases bW_01 n.toInt64 0 30 with q | q
    · simp (decide := true) only [e125, g125_0, g125_9, g125_12, g125_15, g125_31, bm_run_ite, Option.toList_some, Option.bind_some, Option.toList_some, Option.toList_none, List.cons_append, List.nil_append, List.append_nil, eq_self, not_true_eq_false, not_false_eq_true, ite_true, ite_false, ↓reduceIte, Nat.reduceLT, Nat.reduceEqDiff, Nat.reduceAdd, or_true, true_or, or_false, false_or, c157, q]
    · simp (decide := true) only [e125, g125_0, g125_9, g125_12, g125_15, g125_31, bm_run_ite, Option.toList_some, Option.bind_some, Option.toList_some, Option.toList_none, List.cons_append, List.nil_append, List.append_nil, eq_self, not_true_eq_false, not_false_eq_true, ite_true, ite_false, ↓reduceIte, Nat.reduceLT, Nat.reduceEqDiff, Nat.reduceAdd, or_true, true_or, or_false, false_or, c157, q, hr.f3, c84 hr]
  · intro τ hτ eB _
    rw [hB] at eB
    have h0 := hτ.t0
    have e0 := (t0_B τ).trans eB
    refine ⟨bm_wi τ 218 0 0, ?_, kp_t0 τ⟩
    rcases bW_01 n.toInt64 0 30 with q | q
    · simp (decide := true) only [e242, g242_0, g242_9, g242_12, g242_25, g242_28, g242_30, bm_run_ite, Option.toList_some, Option.bind_some, Option.toList_some, Option.toList_none, List.cons_append, List.nil_append, List.append_nil, eq_self, not_true_eq_false, not_false_eq_true, ite_true, ite_false, ↓reduceIte, Nat.reduceLT, Nat.reduceEqDiff, Nat.reduceAdd, or_true, true_or, or_false, false_or, m241, q]
    · simp (decide := true) only [e242, g242_0, g242_9, g242_12, g242_25, g242_28, g242_30, bm_run_ite, Option.toList_some, Option.bind_some, Option.toList_some, Option.toList_none, List.cons_append, List.nil_append, List.append_nil, eq_self, not_true_eq_false, not_false_eq_true, ite_true, ite_false, ↓reduceIte, Nat.reduceLT, Nat.reduceEqDiff, Nat.reduceAdd, or_true, true_or, or_false, false_or, m241, q, m207 h0.mr, e0]
theorem p_broken (h : RS M L σ) (n : Int32) : PR S (d + 10) 131 252 [.int n] σ := by
  generalize hB : σ.1 219 = B
  rcases bW_01 n.toInt64 0 30 with q | q
  · refine PR.of (v := .int (Int32.ofInt (-3))) h ⟨σ, ?_, Kp.rfl σ⟩ ?_
    · simp (decide := true) only [e131, g131_0, g131_9, g131_12, g131_15, g131_31, bm_run_ite, Option.toList_some, Option.bind_some, Option.toList_some, Option.toList_none, List.cons_append, List.nil_append, List.append_nil, eq_self, not_true_eq_false, not_false_eq_true, ite_true, ite_false, ↓reduceIte, Nat.reduceLT, Nat.reduceEqDiff, Nat.reduceAdd, or_true, true_or, or_false, false_or, c157, q]
    · intro τ hτ eB _
      refine ⟨bm_wi τ 218 0 0, ?_, kp_t0 τ⟩
      simp (decide := true) only [e252, g252_0, g252_9, g252_12, g252_17, g252_20, g252_22, bm_run_ite, Option.toList_some, Option.bind_some, Option.toList_some, Option.toList_none, List.cons_append, List.nil_append, List.append_nil, eq_self, not_true_eq_false, not_false_eq_true, ite_true, ite_false, ↓reduceIte, Nat.reduceLT, Nat.reduceEqDiff, Nat.reduceAdd, or_true, true_or, or_false, false_or, m241, q]
  · obtain ⟨k, hk0, hk, rfl⟩ := bW_of (a := 0) (b := 30) (by decide +kernel) (by decide +kernel) (by decide) q
    refine PR.of (v := .int (goB M L B k 24)) h ?_ ?_
    · have hr := h.rw
      have hb := h.bk
      have hg := h.ga
      rw [hB] at hr hb hg
      obtain ⟨σ1, e1, _, f1⟩ := c36 (S := S) (d := d + 3) hr (by omega) hb (by unfold ob; omega) hg k (by omega)
      refine ⟨σ1, ?_, f1.kp (by omega)⟩
      simp (decide := true) only [e131, g131_0, g131_9, g131_12, g131_15, g131_31, bm_run_ite, Option.toList_some, Option.bind_some, Option.toList_some, Option.toList_none, List.cons_append, List.nil_append, List.append_nil, eq_self, not_true_eq_false, not_false_eq_true, ite_true, ite_false, ↓reduceIte, Nat.reduceLT, Nat.reduceEqDiff, Nat.reduceAdd, or_true, true_or, or_false, false_or, c157, q, e1]
    · intro τ hτ eB _
      rw [hB] at eB
      have h0 := hτ.t0
      have e0 := (t0_B τ).trans eB
      obtain ⟨σ2, e2, f2⟩ := m251 (S := S) (d := d + 2) h0.mr h0.ga k (by omega)
      rw [e0] at e2
      refine ⟨σ2, ?_, (kp_t0 τ).tr f2.kp⟩
      simp (decide := true) only [e252, g252_0, g252_9, g252_12, g252_17, g252_20, g252_22, bm_run_ite, Option.toList_some, Option.bind_some, Option.toList_some, Option.toList_none, List.cons_append, List.nil_append, List.append_nil, eq_self, not_true_eq_false, not_false_eq_true, ite_true, ite_false, ↓reduceIte, Nat.reduceLT, Nat.reduceEqDiff, Nat.reduceAdd, or_true, true_or, or_false, false_or, m241, q, e2]
end PUB1
