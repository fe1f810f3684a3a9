theorem OKB.how {M L : Nat} {B : Nat → Int32} (h : OKB M L B) {l : Nat} (hl : l < L) {v : Int32} (hv : ¬ v = 0) : OKB M L (upd B (80 + l) v) := by
  have h0 := h
  obtain ⟨⟨⟨hl0, go, gm, gc⟩, nb, bm⟩, z, lt, ⟨h1, h2, h3, h4⟩, hn, hf, sc⟩ := h0
  have e : ∀ i, i ≠ 80 + l → upd B (80 + l) v i = B i := fun i hi => upd_n _ _ hi
  have eg : eqG B (upd B (80 + l) v) := fun i hi => e i (by omega)
  refine ⟨⟨GW.cgG h1 h2 ⟨hl0, go, gm, gc⟩ eg, ?_, ?_⟩, ?_, ?_, ⟨h1, h2, ?_, ?_⟩, ?_, ?_, sc.cg (fun i hi => e _ (by omega))⟩
  · intro k hk ho m hm hb
    rw [e 24 (by omega)] at hb
    unfold tou
    rw [e _ (by omega), e _ (by omega)]
    by_cases q : k = l
    · subst q
      simp only [oB, upd_s, decide_eq_true_eq] at ho
      exact absurd ho hv
    · unfold oB at ho
      rw [e _ (by omega)] at ho
      exact nb k hk ho m hm hb
  · intro m hm hk; rw [e _ (by omega)]; exact bm m hm hk
  · intro k q1 q2; rw [e _ (by omega)]; exact z k q1 q2
  · intro k hk
    obtain ⟨x, q1, q2⟩ := lt k hk
    exact ⟨x, q1, by rw [e _ (by omega)]; exact q2⟩
  · rw [e _ (by omega)]; exact h3
  · rw [e _ (by omega)]; exact h4
  · rw [e _ (by omega)]; exact hn
  · rw [e _ (by omega)]; exact hf
theorem GA.cash {M L : Nat} {B : Nat → Int32} (h0 : GA M L B) (h1 : M ≤ 6) (h2 : L ≤ 12) {m k : Nat} (hm : m < M) (hk : k ≤ 999999) : GA M L (upd B (26 + m) (nI k)) := by
  obtain ⟨⟨hl0, go, gm, gc⟩, nb, bm⟩ := h0
  have e : ∀ i, i ≠ 26 + m → upd B (26 + m) (nI k) i = B i := fun i hi => upd_n _ _ hi
  have hc : ∀ p j, cdB (upd B (26 + m) (nI k)) p j = cdB B p j := fun p j => e _ (by omega)
  have ht : ∀ p n, tyF (upd B (26 + m) (nI k)) p n = tyF B p n := by
    intro p n
    induction n with
    | zero => rfl
    | succ n ih => rw [tyF, tyF, ih, hc]
  refine ⟨⟨?_, ?_, ?_, ?_⟩, ?_, ?_⟩
  · unfold LW wfL at hl0 ⊢
    simp only [hc, ht]
    rw [e 1 (by omega), e 4 (by omega), e 5 (by omega), e 6 (by omega), e 7 (by omega), e 8 (by omega), e 9 (by omega)]
    exact hl0
  · intro l hl
    obtain ⟨a, b, ha, hb, hab, ea, eb⟩ := go l hl
    exact ⟨a, b, ha, hb, hab, by rw [e _ (by omega)]; exact ea, by rw [e _ (by omega)]; exact eb⟩
  · intro l hl
    obtain ⟨k, hk, ek⟩ := gm l hl
    exact ⟨k, hk, by rw [e _ (by omega)]; exact ek⟩
  · intro l hl
    by_cases q : l = m
    · subst q; exact ⟨k, hk, upd_s _ _ _⟩
    · obtain ⟨k, hk, ek⟩ := gc l hl
      exact ⟨k, hk, by rw [e _ (by omega)]; exact ek⟩
  · intro l hl ho j hj hb
    rw [e 24 (by omega)] at hb
    unfold tou oB at *
    rw [e _ (by omega)] at ho
    rw [e _ (by omega), e _ (by omega)]
    exact nb l hl ho j hj hb
  · intro j hj hk; rw [e _ (by omega)]; exact bm j hj hk
theorem OKB.cash {M L : Nat} {B : Nat → Int32} (h : OKB M L B) {m k : Nat} (hm : m < M) (hk : k ≤ 999999) (hs : SC M (upd B (26 + m) (nI k))) : OKB M L (upd B (26 + m) (nI k)) := by
  have h0 := h
  obtain ⟨ga, z, lt, ⟨h1, h2, h3, h4⟩, hn, hf, _⟩ := h0
  have e : ∀ i, i ≠ 26 + m → upd B (26 + m) (nI k) i = B i := fun i hi => upd_n _ _ hi
  refine ⟨ga.cash h1 h2 hm hk, ?_, ?_, ⟨h1, h2, ?_, ?_⟩, ?_, ?_, hs⟩
  · intro j q1 q2; rw [e _ (by omega)]; exact z j q1 q2
  · intro j hj
    obtain ⟨x, q1, q2⟩ := lt j hj
    exact ⟨x, q1, by rw [e _ (by omega)]; exact q2⟩
  · rw [e _ (by omega)]; exact h3
  · rw [e _ (by omega)]; exact h4
  · rw [e _ (by omega)]; exact hn
  · rw [e _ (by omega)]; exact hf
theorem OKB.gv {M L : Nat} {B : Nat → Int32} (h : OKB M L B) {a b k : Nat} (ha : a < M) (hb : b < M) (hk : k ≤ 999) (hc : ¬ B (26 + a) < nI k) : OKB M L (gvB B a b (nI k)) := by
  obtain ⟨x, hx, ex⟩ := h.1.1.2.2.2 a ha
  have hxk : k ≤ x := by
    rw [ex] at hc
    rcases Nat.lt_or_ge x k with q | q
    · exact absurd (nI_lt q (by omega)) hc
    · exact q
  have h1 : OKB M L (upd B (26 + a) (B (26 + a) - nI k)) := by
    rw [ex, nI_sub hxk]
    exact h.cash ha (by omega) (h.2.2.2.2.2.2.dn ha (by rw [ex, nI_toInt2 (by omega), nI_toInt2 (by omega)]; omega))
  obtain ⟨y, hy, ey⟩ := h1.1.1.2.2.2 b hb
  unfold gvB
  rw [ey, nI_add]
  obtain ⟨v, hv, ev⟩ := mn_le (y + k) (by omega)
  rw [ev]
  refine h1.cash hb hv ?_
  have s0 : sZ B M ≤ 5994 := h.2.2.2.2.2.2
  have t1 := mn_toInt (nI (y + k))
  rw [ev, nI_toInt2 (by omega), nI_toInt2 (by omega)] at t1
  have t3 : (B (26 + a) - nI k).toInt = (x : Int) - k := by rw [ex, nI_sub hxk, nI_toInt2 (by omega)]; omega
  have t2 : sZ (upd B (26 + a) (B (26 + a) - nI k)) M = sZ B M - (B (26 + a)).toInt + (B (26 + a) - nI k).toInt := sZ_upd ha
  rw [t3] at t2
  have t4 : (B (26 + a)).toInt = (x : Int) := by rw [ex, nI_toInt2 (by omega)]
  unfold SC
  rw [sZ_upd hb, ey, nI_toInt2 (by omega), nI_toInt2 (by omega)]
  omega
theorem gvB_out {B : Nat → Int32} {a b : Nat} {n : Int32} {i : Nat} (ha : i ≠ 26 + a) (hb : i ≠ 26 + b) : gvB B a b n i = B i := by
  unfold gvB
  rw [upd_n _ _ hb, upd_n _ _ ha]
section PAY
variable {S : am_S} {d : Nat} {σ : bm_S} {M L : Nat}
theorem mut_fin {σ1 σ2 ρ2 : bm_S} {n e n1 e1 L1 : Nat} {C g1 : Nat → Int32} (h : RS M L σ) (af : AF M L σ σ1 n e n1 e1) (f12 : Fb 5 2 σ1 σ2) (hg : ∀ i, i < 70 → g1 i = σ.1 219 (22 + i)) (fq : Fq (bm_row (bm_wi σ2 218 0 0) 228 g1) ρ2) (e217 : ρ2.1 219 = C) (hC : ∀ i, (i < 22 ∨ 92 ≤ i) → C i = σ.1 219 i) (hok : OKB M L1 C) (hw : RW M L1 σ2 5 C) : bm_call S d 217 [.ref 218] ρ2 = some (none, bm_row ρ2 219 (noB C g1 n)) ∧ RS M L1 (bm_row ρ2 219 (noB C g1 n)) := by
  have a0 := af
  obtain ⟨a1, a2, _⟩ := a0
  have e26 : ρ2.1 228 = g1 := by rw [fq.1 228 (by decide) (by decide) (by decide), row_row1]
  have k3 := m217 (S := S) (d := d) (σ := ρ2) a2 (by rw [e217, hC _ (by omega)]; exact a1)
  rw [e217, e26] at k3
  refine ⟨k3, fin_RS h af hC hg hok (row_row1 _ _ _) ?_ ?_ ?_ ?_⟩
  · refine hw.of (fun a h1 h2 => ?_)
    rw [bm_row_1n _ _ (by omega), fq.1 a (by omega) (by omega) (by omega), bm_row_1n _ _ (by omega), wi_n _ (by omega)]
  · intro a h1 h2 h3 h4
    unfold Sc at h1
    rw [bm_row_1n _ _ h3, fq.1 a h2 h3 (by omega), bm_row_1n _ _ (by omega), wi_n _ h2, f12.1 a (by omega) (by omega)]
  · intro b hb
    rw [bm_row_1n _ _ (by decide), fq.2.1 b (by omega), bm_row_1n _ _ (by decide), wi_s, upd_n _ _ (by omega), f12.1 218 (by omega) (by omega)]
  · intro a ha
    show ρ2.2 a = σ1.2 a
    rw [fq.2.2]
    show σ2.2 a = σ1.2 a
    rw [f12.2]
theorem Fw.b {w : Nat} {σ τ : bm_S} (h : Fw w σ τ) : Fb w 2 σ τ := ⟨fun a ha _ => h.1 a ha, h.2⟩
theorem p_pay (h : RS M L σ) (i : Int32) : PR S (d + 10) 117 224 [.int i] σ := by
  have hM := h.rw.M6
  have hL := h.rw.L12
  have go := h.ga.1.2.1
  have gm := h.ga.1.2.2.1
  have gc := h.ga.1.2.2.2
  have hr := h.rw
  have hok := h.1.1
  generalize hB : σ.1 219 = B at *
  by_cases q : wpB B L i = 0
  · obtain ⟨σ1, n, e, n1, e1, k1, af⟩ := rem_RS (S := S) (d := d + 6) h
    have e5 : ∀ a, a < 42 ∨ 141 < a → σ1.1 a = σ.1 a := fun a ha => af.at ha
    have hr1 : RW M L σ1 5 B := hr.of (fun a _ _ => e5 a (by omega))
    have qq := q
    unfold wpB at qq
    cases hi : hasI i L
    · rw [hi] at qq; simp only [Bool.false_eq_true, if_false] at qq; exact absurd qq (by decide)
    · obtain ⟨l, hl, rfl⟩ := hasI_of hi (by omega)
      rw [hi, if_pos rfl, cN_nI (show l < 2147483648 by omega)] at qq
      cases ho : oB B l
      · rw [ho] at qq; simp only [Bool.false_eq_true, if_false] at qq; exact absurd qq (by decide)
      · rw [ho, if_pos rfl] at qq
        obtain ⟨a, b, ha, hb, hab, ea, eb⟩ := go l hl
        obtain ⟨y, hy, ey⟩ := gm l hl
        have hcs : ¬ B (26 + a) < B (56 + l) := by
          intro z
          rw [ea, cN_nI (by omega), if_pos z] at qq
          exact absurd qq (by decide)
        have hC : OKB M L (pyB B l) := by
          unfold pyB
          rw [ea, eb, cN_nI (by omega), cN_nI (by omega), ey]
          rw [ey] at hcs
          exact (hok.gv ha hb (by omega) hcs).how hl (by decide)
        have pout : ∀ j, (j < 26 ∨ (32 ≤ j ∧ j < 80) ∨ 92 ≤ j) → pyB B l j = B j := by
          intro j hj
          unfold pyB
          rw [ea, eb, cN_nI (by omega), cN_nI (by omega), upd_n _ _ (by omega), gvB_out (by omega) (by omega)]
        obtain ⟨σ2, k2, r2, f2⟩ := c96 (S := S) (d := d + 6) hr1 go gc gm hl
        have k4 : bm_call S (d + 9) 158 [.ref 9, .int (nI l)] σ2 = _ := r2.a4 hl
        have b0 : (bm_wi σ2 218 0 0).1 219 = B := by rw [wi_n _ (by decide), f2.1 219 (by omega), e5 _ (by omega)]; exact hB
        obtain ⟨g1, k5, kg⟩ := m215 (S := S) (d := d + 9) (σ := bm_wi σ2 218 0 0)
        rw [b0, ← hB] at kg
        have b1 : (bm_row (bm_wi σ2 218 0 0) 228 g1).1 219 = B := (bm_row_1n _ _ (by decide)).trans b0
        have mr : ∀ τ : bm_S, τ.1 219 = B → MR M L τ := fun τ ht => ⟨⟨hM, hL⟩, by rw [ht, ← hB]; exact h.mr.m, by rw [ht, ← hB]; exact h.mr.l⟩
        have k6 := m222 (S := S) (d := d + 8) (mr _ b1) (by rw [b1]; exact go) hl
        rw [b1] at k6
        obtain ⟨k7, rs⟩ := mut_fin (S := S) (d := d + 9) (ρ2 := bm_row (bm_row (bm_wi σ2 218 0 0) 228 g1) 219 (pyB B l)) h af f2.b kg ((Fp.rfl _).r17 _).q (row_row1 _ _ _) (fun j hj => by rw [pout j (by omega), hB]) hC r2
        have k8 := m220 (S := S) (d := d + 7) (mr _ b0) (by rw [b0]; exact go) (nI l)
        rw [b0, q] at k8
        refine ⟨.int (pyB B l (56 + l)), σ2, _, M, L, ?_, ?_, rs⟩
        · simp only [e117, g117_0, g117_8, g117_13, g117_18, g117_29, g117_37, g117_48, bm_run_ite, Option.toList_some, Option.bind_some, Option.toList_some, Option.toList_none, List.cons_append, List.nil_append, List.append_nil, eq_self, not_true_eq_false, not_false_eq_true, ite_true, ite_false, ↓reduceIte, Nat.reduceLT, Nat.reduceEqDiff, Nat.reduceAdd, or_true, true_or, or_false, false_or, c95 hr go, q, k1, k2, k4]
        · simp (disch := omega) only [bm_run_ite, Option.toList_some, Option.bind_some, Option.toList_some, Option.toList_none, List.cons_append, List.nil_append, List.append_nil, eq_self, not_true_eq_false, not_false_eq_true, ite_true, ite_false, ↓reduceIte, Nat.reduceLT, Nat.reduceEqDiff, Nat.reduceAdd, or_true, true_or, or_false, false_or, nI_clamp2, nI_lt0F, nI_leT, nI_leF, nI_ltT, nI_ltF, n_leF, n_leT, nI_1, kA6, kA8, kA10, kA22, kA26, kA32, kA44, kA56, kA68, kA80, kA93, kA163, kA794, not_or, or_self, and_self, and_true, true_and, e224, g224_0, g224_11, g224_16, g224_21, g224_25, g224_30, g224_34, k8, k5, k6, k7, row_row1, noB_out (show 56 + l < 92 ∨ 793 ≤ 56 + l by omega) af.2.1]
  · refine PR.of (v := .int (Int32.ofInt (-10) - wpB B L i)) h ⟨σ, by simp only [e117, g117_0, g117_8, g117_13, g117_18, g117_29, g117_37, g117_48, bm_run_ite, Option.toList_some, Option.bind_some, Option.toList_some, Option.toList_none, List.cons_append, List.nil_append, List.append_nil, eq_self, not_true_eq_false, not_false_eq_true, ite_true, ite_false, ↓reduceIte, Nat.reduceLT, Nat.reduceEqDiff, Nat.reduceAdd, or_true, true_or, or_false, false_or, c95 hr go, q], Kp.rfl σ⟩ ?_
    intro τ hτ eB _
    rw [hB] at eB
    have h0 := hτ.t0
    have e0 := (t0_B τ).trans eB
    have k8 := m220 (S := S) (d := d + 7) h0.mr (by rw [e0]; exact go) i
    rw [e0] at k8
    exact ⟨_, by simp only [e224, g224_0, g224_11, g224_16, g224_21, g224_25, g224_30, g224_34, bm_run_ite, Option.toList_some, Option.bind_some, Option.toList_some, Option.toList_none, List.cons_append, List.nil_append, List.append_nil, eq_self, not_true_eq_false, not_false_eq_true, ite_true, ite_false, ↓reduceIte, Nat.reduceLT, Nat.reduceEqDiff, Nat.reduceAdd, or_true, true_or, or_false, false_or, k8, q], kp_t0 τ⟩
end PAY
