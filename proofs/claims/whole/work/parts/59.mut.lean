/-! a deed that can be undone: what was is remembered, the rest stays -/
theorem noB_out {C W : Nat → Int32} {n i : Nat} (h : i < 92 ∨ 793 ≤ i) (hn : n ≤ 10) : noB C W n i = C i := by
  unfold noB
  by_cases q : n < 10
  · rw [if_pos q, if_neg (show ¬ (93 + 70 * n ≤ i ∧ i < 163 + 70 * n) by omega), if_neg (show ¬ i = 92 by omega)]
  · rw [if_neg q, if_neg (show ¬ (723 ≤ i ∧ i < 793) by omega), if_neg (show ¬ i = 92 by omega), if_neg (show ¬ (93 ≤ i ∧ i < 723) by omega)]
theorem vw_old {C W : Nat → Int32} {n i j : Nat} (hi : i < n) (hn : n < 10) (hj : 22 ≤ j ∧ j < 92) : noB C W n (93 + 70 * i + (j - 22)) = C (93 + 70 * i + (j - 22)) := by
  unfold noB
  rw [if_pos hn]
  rw [if_neg (by omega), if_neg (by omega)]
theorem vw_up {C W : Nat → Int32} {i j : Nat} (hi : i < 9) (hj : 22 ≤ j ∧ j < 92) : noB C W 10 (93 + 70 * i + (j - 22)) = C (93 + 70 * (i + 1) + (j - 22)) := by
  unfold noB
  rw [if_neg (by omega)]
  rw [if_neg (by omega), if_neg (by omega), if_pos (by omega)]
  congr 1; omega
theorem vw_new {C W : Nat → Int32} {n j : Nat} (hn : n ≤ 10) (hj : 22 ≤ j ∧ j < 92) : noB C W n (93 + 70 * ((if n < 10 then n + 1 else 10) - 1) + (j - 22)) = W (j - 22) := by
  unfold noB
  by_cases q : n < 10
  · rw [if_pos q, if_pos q, Nat.add_sub_cancel, if_pos (show 93 + 70 * n ≤ 93 + 70 * n + (j - 22) ∧ 93 + 70 * n + (j - 22) < 163 + 70 * n by omega), Nat.add_sub_cancel_left]
  · rw [if_neg q, if_neg q]
    rw [show 93 + 70 * (10 - 1) + (j - 22) = 723 + (j - 22) by omega]
    rw [if_pos (show 723 ≤ 723 + (j - 22) ∧ 723 + (j - 22) < 793 by omega), Nat.add_sub_cancel_left]
theorem no92 {C W : Nat → Int32} {n : Nat} (hn : n ≤ 10) : noB C W n 92 = nI (if n < 10 then n + 1 else 10) := by
  unfold noB
  by_cases q : n < 10
  · rw [if_pos q, if_pos q, if_neg (by omega), if_pos rfl]
  · rw [if_neg q, if_neg q, if_neg (by omega), if_pos rfl]
theorem BK.cgK2 {σ : bm_S} {b : Nat} {B C : Nat → Int32} (h : BK σ b B) (e : ∀ i, (i < 22 ∨ 793 ≤ i) → C i = B i) : BK σ b C := by
  have hc : ∀ p j, cdB C p j = cdB B p j := fun p j => e _ (by omega)
  unfold BK CK at h ⊢
  simp only [hc]
  rw [e 0 (by omega), e 1 (by omega), e 2 (by omega), e 4 (by omega), e 5 (by omega), e 6 (by omega), e 7 (by omega), e 8 (by omega), e 9 (by omega)]
  exact h
/-- after a deed: all that is remembered lies as it must -/
theorem mut_RS {M L L1 : Nat} {σ τ : bm_S} {C W : Nat → Int32} (h : RS M L σ) {n e n1 e1 : Nat} (hn : σ.1 219 92 = nI n) (hn2 : n ≤ 10) (he : σ.1 42 1 = nI e) (he2 : e < 10) (hn1 : n1 = if n < 10 then n + 1 else 10) (he1 : e1 = if n < 10 then e else (e + 1) % 10)
    (hC : ∀ i, (i < 22 ∨ 92 ≤ i) → C i = σ.1 219 i) (hW : ∀ i, i < 70 → W i = σ.1 219 (22 + i)) (hok : OKB M L1 C) (h217 : τ.1 219 = noB C W n)
    (hw : RW M L1 τ 5 C) (q2 : τ.1 42 2 = nI n1) (q1 : τ.1 42 1 = nI e1) (hrow : RW M L τ (44 + 10 * ((e1 + (n1 - 1)) % 10)) (σ.1 219))
    (fr : ∀ a, ¬ Sc a → a ≠ 218 → a ≠ 219 → a ≠ 42 → (a < 5 ∨ 12 < a) → (a < 44 + 10 * ((e1 + (n1 - 1)) % 10) ∨ 44 + 10 * ((e1 + (n1 - 1)) % 10) + 7 < a) → τ.1 a = σ.1 a)
    (f16 : ∀ b, b = 5 ∨ b = 13 ∨ b = 14 → τ.1 218 b = σ.1 218 b) (f2 : ∀ a, a = 211 ∨ a = 213 ∨ a = 215 ∨ a = 217 ∨ a = 237 → τ.2 a = σ.2 a) : RS M L1 τ := by
  obtain ⟨⟨c1, c2, c3⟩, ⟨n0, e0, p1, p2, p3, p4, p5, p6⟩, im, tr, ⟨t, t1, t2, t3, t4⟩, g1, g2⟩ := h
  have en : n0 = n := by
    have := congrArg cN (p3.symm.trans hn)
    rw [cN_nI (by omega), cN_nI (by omega)] at this
    exact this
  have ee : e0 = e := by
    have := congrArg cN (p5.symm.trans he)
    rw [cN_nI (by omega), cN_nI (by omega)] at this
    exact this
  subst en ee
  have hr10 : (e1 + (n1 - 1)) % 10 < 10 := Nat.mod_lt _ (by decide)
  have big : ∀ i, (i < 22 ∨ 793 ≤ i) → noB C W n0 i = σ.1 219 i := fun i hi => (noB_out (by omega) hn2).trans (hC i (by omega))
  have kf : ∀ a, ¬ Sc a → a ≠ 218 → a ≠ 219 → a ≠ 42 → (a < 5 ∨ 12 < a) → (a < 44 ∨ 141 < a) → τ.1 a = σ.1 a := fun a h1 h2 h3 h4 h5 h6 => fr a h1 h2 h3 h4 h5 (by omega)
  have hn1b : n1 ≤ 10 := by rw [hn1]; split <;> omega
  refine ⟨⟨?_, ?_, ?_⟩, ⟨n1, e1, hn1b, ?_, ?_, q2, q1, ?_⟩, ?_, ?_, ⟨t, t1, ?_, ?_, ?_⟩, ?_, ?_⟩
  · rw [h217]; exact hok.cg (fun i hi => noB_out hi hn2)
  · rw [h217]; exact hw.eqB (fun i hi => noB_out (by have := hw.M6; have := hw.L12; omega) hn2)
  · rw [h217]
    exact (c3.of (kf 2 (by unfold Sc; omega) (by omega) (by omega) (by omega) (by omega) (by omega)) (kf 3 (by unfold Sc; omega) (by omega) (by omega) (by omega) (by omega) (by omega))).cgK2 big
  · rw [he1]; split
    · exact he2
    · exact Nat.mod_lt _ (by decide)
  · rw [h217, no92 hn2, hn1]
  · intro i hi
    have vw_big : ∀ j, ¬ (22 ≤ j ∧ j < 92) → (j < 92 ∨ 793 ≤ j) → vwB (τ.1 219) i j = σ.1 219 j := by
      intro j h1 h2
      unfold vwB
      rw [if_neg h1, h217]
      exact big j (by omega)
    by_cases ei : i = n1 - 1
    · subst ei
      have ev : ∀ j, (j < 92 ∨ 793 ≤ j) → vwB (τ.1 219) (n1 - 1) j = σ.1 219 j := by
        intro j hj
        by_cases q : 22 ≤ j ∧ j < 92
        · unfold vwB
          rw [if_pos q, h217, hn1, vw_new hn2 q, hW _ (by omega), show 22 + (j - 22) = j by omega]
        · exact vw_big j q hj
      refine ⟨L, c1.cg ev, hrow.eqB (fun j hj => ev j ?_)⟩
      have := c2.M6; have := c2.L12; omega
    · by_cases q : n0 < 10
      · rw [if_pos q] at hn1 he1
        subst hn1 he1
        obtain ⟨L2, o1, o2⟩ := p6 i (by omega)
        have ev : ∀ j, (j < 92 ∨ 793 ≤ j) → vwB (τ.1 219) i j = vwB (σ.1 219) i j := by
          intro j hj
          by_cases qj : 22 ≤ j ∧ j < 92
          · unfold vwB
            rw [if_pos qj, if_pos qj, h217, vw_old (by omega) q qj]
            exact hC _ (by omega)
          · rw [vw_big j qj hj]; unfold vwB; rw [if_neg qj]
        refine ⟨L2, o1.cg ev, RW.eqB (o2.of (fun a h1 h2 => fr a ?_ ?_ ?_ ?_ ?_ ?_)) (fun j hj => ev j ?_)⟩
        · unfold Sc; omega
        · omega
        · omega
        · omega
        · omega
        · omega
        · have := o2.M6; have := o2.L12; omega
      · have e10 : n0 = 10 := by omega
        subst e10
        rw [if_neg q] at hn1 he1
        subst hn1 he1
        obtain ⟨L2, o1, o2⟩ := p6 (i + 1) (by omega)
        have ev : ∀ j, (j < 92 ∨ 793 ≤ j) → vwB (τ.1 219) i j = vwB (σ.1 219) (i + 1) j := by
          intro j hj
          by_cases qj : 22 ≤ j ∧ j < 92
          · unfold vwB
            rw [if_pos qj, if_pos qj, h217, vw_up (by omega) qj]
            exact hC _ (by omega)
          · rw [vw_big j qj hj]; unfold vwB; rw [if_neg qj]
        have er : ((e0 + 1) % 10 + i) % 10 = (e0 + (i + 1)) % 10 := by omega
        rw [er]
        refine ⟨L2, o1.cg ev, RW.eqB (o2.of (fun a h1 h2 => fr a ?_ ?_ ?_ ?_ ?_ ?_)) (fun j hj => ev j ?_)⟩
        · unfold Sc; omega
        · omega
        · omega
        · omega
        · omega
        · omega
        · have := o2.M6; have := o2.L12; omega
  · intro k hk
    have e1 : τ.1 (182 + 14 * k) = σ.1 (182 + 14 * k) := kf _ (by unfold Sc; omega) (by omega) (by omega) (by omega) (by omega) (by omega)
    have e2 : τ.1 220 = σ.1 220 := kf _ (by unfold Sc; omega) (by omega) (by omega) (by omega) (by omega) (by omega)
    have ei : imB (τ.1 219) k = imB (σ.1 219) k := by funext j; unfold imB; rw [h217]; exact big _ (by omega)
    unfold IM
    rw [e1, e2, ei]
    rcases im k hk with x | ⟨i1, i2, M2, L2, o1, o2, o3⟩
    · exact Or.inl x
    · refine Or.inr ⟨i1, i2, M2, L2, o1, o2.of (fun a h1 h2 => kf a ?_ ?_ ?_ ?_ ?_ ?_), o3.of (kf _ ?_ ?_ ?_ ?_ ?_ ?_) (kf _ ?_ ?_ ?_ ?_ ?_ ?_)⟩
      all_goals first | (unfold Sc; omega) | omega
  · intro j hj
    have e1 : τ.1 (210 + 2 * j) = σ.1 (210 + 2 * j) := kf _ (by unfold Sc; omega) (by omega) (by omega) (by omega) (by omega) (by omega)
    have e2 : τ.1 235 = σ.1 235 := kf _ (by unfold Sc; omega) (by omega) (by omega) (by omega) (by omega) (by omega)
    have e3 : τ.1 236 = σ.1 236 := kf _ (by unfold Sc; omega) (by omega) (by omega) (by omega) (by omega) (by omega)
    have e4 : τ.2 (211 + 2 * j) = σ.2 (211 + 2 * j) := f2 _ (by omega)
    have e5 : τ.2 237 = σ.2 237 := f2 _ (by omega)
    have := tr j hj
    unfold TR at this ⊢
    rw [e1, e2, e3, e4, e5]
    exact this
  · rw [kf 0 (by unfold Sc; omega) (by omega) (by omega) (by omega) (by omega) (by omega)]; exact t2
  · rw [f16 5 (by omega)]; exact t3
  · intro i hi
    rw [kf 1 (by unfold Sc; omega) (by omega) (by omega) (by omega) (by omega) (by omega), kf 221 (by unfold Sc; omega) (by omega) (by omega) (by omega) (by omega) (by omega)]
    exact t4 i hi
  · rw [kf 0 (by unfold Sc; omega) (by omega) (by omega) (by omega) (by omega) (by omega), f16 13 (by omega)]; exact g1
  · rw [kf 0 (by unfold Sc; omega) (by omega) (by omega) (by omega) (by omega) (by omega), f16 14 (by omega)]; exact g2
