def hdB (M L : Nat) (mu : Bool) (B : Nat → Int32) : Nat → Nat → Int32
  | 0 => B
  | n + 1 => hoB M L (hdB M L mu B n) mu
theorem hdB_out {M L : Nat} (hM : M ≤ 6) (hL : L ≤ 12) {B : Nat → Int32} (mu : Bool) {i : Nat} (h : i < 22 ∨ i = 25 ∨ 92 ≤ i) : ∀ n, hdB M L mu B n i = B i := by
  intro n
  induction n with
  | zero => rfl
  | succ n ih => rw [hdB, hoB_out hM hL mu h, ih]
theorem OKB.hd {M L : Nat} {B : Nat → Int32} (h : OKB M L B) (mu : Bool) : ∀ n, OKB M L (hdB M L mu B n) := by
  obtain ⟨ga, z, lt, ⟨h1, h2, h3, h4⟩, ⟨a, a1, a2, a3⟩, ⟨f, f1, f2, f3⟩, sc⟩ := h
  intro n
  have e : ∀ i, (i < 22 ∨ i = 25 ∨ 92 ≤ i) → hdB M L mu B n i = B i := fun i hi => hdB_out h1 h2 mu hi n
  refine ⟨?_, ?_, ?_, ⟨h1, h2, ?_, ?_⟩, ⟨a, a1, a2, ?_⟩, ⟨f, f1, f2, ?_⟩, ?_⟩
  · clear e
    induction n with
    | zero => exact ga
    | succ n ih => exact hoB_GA h1 h2 ih mu
  · intro l q1 q2; rw [e _ (by omega)]; exact z l q1 q2
  · intro l hl
    obtain ⟨k, hk, ek⟩ := lt l hl
    exact ⟨k, hk, by rw [e _ (by omega)]; exact ek⟩
  · rw [e _ (by omega)]; exact h3
  · rw [e _ (by omega)]; exact h4
  · rw [e _ (by omega)]; exact a3
  · rw [e _ (by omega)]; exact f3
  · clear e
    have both : GA M L (hdB M L mu B n) ∧ SC M (hdB M L mu B n) := by
      induction n with
      | zero => exact ⟨ga, sc⟩
      | succ n ih => exact ⟨hoB_GA h1 h2 ih.1 mu, ih.2.ho h1 h2 ih.1 mu⟩
    exact both.2
theorem seF_up {L : Nat} (B g : Nat → Int32) (s : fS) {k : Nat} (hk : k < 32) : ∀ m, m ≤ 32 → tb (s.1 24) k = true → tb ((seF L B g s m).1 24) k = true := by
  intro m
  induction m with
  | zero => intro _ h; exact h
  | succ m ih =>
    intro hm h
    have h0 := ih (by omega) h
    rw [seF]
    unfold seS
    split
    · split
      · show tb (ptB _ _ m L 24) k = true
        rw [ptB_out (by omega)]; exact h0
      · show tb (brB _ m L 24) k = true
        rw [brB_24, tb_or, h0]; rfl
    · exact h0
theorem tuF_up {M L : Nat} (hM : M ≤ 6) {k : Nat} (hk : k < 32) : ∀ n (s : fS), tb (s.1 24) k = true → tb ((tuF M L n s).1 24) k = true := by
  intro n
  induction n with
  | zero => intro s h; exact h
  | succ n ih =>
    intro s h
    rw [tuF]
    split
    · exact ih _ (seF_up _ _ _ hk M (by omega) h)
    · exact h
theorem faB_24 {M L : Nat} (hM : M ≤ 6) (hL : L ≤ 12) (B : Nat → Int32) (D : Nat → Bool) : faB M L B D 24 = (tuF M L 13 (B, D)).1 24 := by
  unfold faB
  rw [upd_n _ _ (by decide), enB_out hM hL (by omega)]
theorem hdB_up {M L : Nat} (hM : M ≤ 6) (hL : L ≤ 12) (mu : Bool) (B : Nat → Int32) {k : Nat} (hk : k < 32) (h : tb (B 24) k = true) : ∀ n, tb (hdB M L mu B n 24) k = true := by
  intro n
  induction n with
  | zero => exact h
  | succ n ih =>
    rw [hdB]
    unfold hoB
    split
    · rw [faB_24 hM hL]
      exact tuF_up hM hk 13 _ (by show tb (muB L _ 24) k = true; rw [muB_out (by omega) (by omega)]; exact ih)
    · rw [faB_24 hM hL]
      exact tuF_up hM hk 13 _ ih
theorem bits_dec : ∀ a, a < 64 → ∀ b, b < 64 → (nI b &&& nI a = nI b) → bcF (nI a &&& (nI b ^^^ Int32.ofInt (-1))) = bcF (nI a) - bcF (nI b) := by decide +kernel
theorem bits_sub {x y : Int32} (hx : ∀ k, 6 ≤ k → k < 32 → tb x k = false) (hy : ∀ k, 6 ≤ k → k < 32 → tb y k = false) (h : ∀ k, k < 32 → tb y k = true → tb x k = true) : bcF (x &&& (y ^^^ Int32.ofInt (-1))) = bcF x - bcF y := by
  have e : y &&& x = y := by
    apply tb_ext
    intro k hk
    rw [tb_and]
    cases q : tb y k
    · rfl
    · rw [h k hk q]; rfl
  obtain ⟨a, ha, rfl⟩ := small_bits hx
  obtain ⟨b, hb, rfl⟩ := small_bits hy
  exact bits_dec a ha b hb e
theorem sum_tel (a b c : Int32) : a - b + (c - a) = c - b := by
  rw [Int32.sub_eq_add_neg, Int32.sub_eq_add_neg, Int32.sub_eq_add_neg, Int32.add_comm c, ← Int32.add_assoc, Int32.add_comm (a + -b), ← Int32.add_assoc, Int32.add_left_neg, Int32.zero_add, Int32.add_comm]
section HOLD
variable {S : am_S} {d : Nat} {σ : bm_S} {M L : Nat}
theorem p_hold (h : RS M L σ) (x : Int32) (mu : Bool) : PR S (d + 10) 120 231 [.int x, .int (bI mu)] σ := by
  have hM := h.rw.M6
  have hL := h.rw.L12
  have hr := h.rw
  have hb := h.bk
  have hok := h.1.1
  generalize hB : σ.1 219 = B at *
  rcases bW_01 x.toInt64 1 20 with q | q
  · refine PR.of (v := .int (Int32.ofInt (-3))) h ⟨σ, by simp (decide := true) only [e120, g120_0, g120_9, g120_12, g120_15, g120_26, g120_37, g120_43, g120_55, g120_61, g120_75, bm_run_ite, Option.toList_some, Option.bind_some, Option.toList_some, Option.toList_none, List.cons_append, List.nil_append, List.append_nil, eq_self, not_true_eq_false, not_false_eq_true, ite_true, ite_false, ↓reduceIte, Nat.reduceLT, Nat.reduceEqDiff, Nat.reduceAdd, or_true, true_or, or_false, false_or, c157, q], Kp.rfl σ⟩ ?_
    intro τ hτ eB _
    exact ⟨_, by simp (decide := true) only [e231, g231_0, g231_14, g231_17, g231_20, g231_24, g231_29, g231_35, g231_40, g231_44, g231_47, g231_52, g231_60, g231_64, bm_run_ite, Option.toList_some, Option.bind_some, Option.toList_some, Option.toList_none, List.cons_append, List.nil_append, List.append_nil, eq_self, not_true_eq_false, not_false_eq_true, ite_true, ite_false, ↓reduceIte, Nat.reduceLT, Nat.reduceEqDiff, Nat.reduceAdd, or_true, true_or, or_false, false_or, c163, q], kp_t0 τ⟩
  · obtain ⟨N, hN1, hN, rfl⟩ := bW_of (a := 1) (b := 20) (by decide +kernel) (by decide +kernel) (by decide) q
    obtain ⟨σ1, n, e, n1, e1, k1, af⟩ := rem_RS (S := S) (d := d + 6) h
    have e5 : ∀ a, a < 42 ∨ 141 < a → σ1.1 a = σ.1 a := fun a ha => af.at ha
    have hr1 : RW M L σ1 5 B := hr.of (fun a _ _ => e5 a (by omega))
    have hb1 : BK σ1 2 B := hb.of (e5 2 (by omega)) (e5 3 (by omega))
    have ob2 : ob 2 5 := by unfold ob; omega
    have bmk : ∀ k, ∀ j, 6 ≤ j → j < 32 → tb (hdB M L mu B k 24) j = false := fun k j h1 h2 => (hok.hd mu k).1.2.2 j (by omega) h2
    have bits := bits_sub (bmk N) (fun j h1 h2 => hok.1.2.2 j (by omega) h2) (fun k hk hq => hdB_up hM hL mu B hk hq N)
    obtain ⟨σ2, c1, c2, c3⟩ := loop_ex (fun k s => bm_run S (d + 10) 120 37 [some (.ref 0), some (.int (nI N)), some (.int (bI mu)), some (.int (B 24)), some (.int (nI k))] [] s) (fun k s => RW M L s 5 (hdB M L mu B k) ∧ Fb 5 2 σ1 s) N σ1 ⟨hr1, Fb.rfl _ _ _⟩ (by
      intro k s hk hp
      obtain ⟨p1, p2⟩ := hp
      obtain ⟨s2, k2, r2, f2⟩ := c101h (S := S) (d := d + 5) p1 ob2 ((p2.BK ob2 hb1).cgK (fun i hi => hdB_out hM hL mu (by omega) k)) (hok.hd mu k).1.1 mu
      refine ⟨s2, ?_, r2, p2.tr f2⟩
      rw [g120_37]
      simp (disch := omega) only [bm_run_ite, Option.toList_some, Option.bind_some, Option.toList_some, Option.toList_none, List.cons_append, List.nil_append, List.append_nil, eq_self, not_true_eq_false, not_false_eq_true, ite_true, ite_false, ↓reduceIte, Nat.reduceLT, Nat.reduceEqDiff, Nat.reduceAdd, or_true, true_or, or_false, false_or, nI_clamp2, nI_lt0F, nI_leT, nI_leF, nI_ltT, nI_ltF, n_leF, n_leT, nI_1, kA6, kA8, kA10, kA22, kA26, kA32, kA44, kA56, kA68, kA80, kA93, kA163, kA794, not_or, or_self, and_self, and_true, true_and, g120_43, g120_55, k2])
    have b0 : (bm_wi σ2 218 0 0).1 219 = B := by rw [wi_n _ (by decide), c3.1 219 (by omega) (by omega), e5 _ (by omega)]; exact hB
    obtain ⟨g1, k5, kg⟩ := m215 (S := S) (d := d + 9) (σ := bm_wi σ2 218 0 0)
    rw [b0, ← hB] at kg
    have b1 : (bm_row (bm_wi σ2 218 0 0) 228 g1).1 219 = B := (bm_row_1n _ _ (by decide)).trans b0
    obtain ⟨ρ2, m1, m2, m3⟩ := loop_ex (fun k s => bm_run S (d + 10) 231 29 [some (.ref 218), some (.int (nI N)), some (.int (bI mu)), some (.int (bcF (hdB M L mu B k 24) - bcF (B 24))), some (.int (nI k))] [] s) (fun k s => s.1 219 = hdB M L mu B k ∧ Fq (bm_row (bm_wi σ2 218 0 0) 228 g1) s) N _ ⟨b1, Fq.rfl _⟩ (by
      intro k s hk hp
      obtain ⟨p1, p2⟩ := hp
      have ok := hok.hd mu k
      have mr : MR M L s := ⟨⟨hM, hL⟩, by rw [p1]; exact ok.2.2.2.1.2.2.1, by rw [p1]; exact ok.2.2.2.1.2.2.2⟩
      have es : hdB M L mu B (k + 1) = hoB M L (hdB M L mu B k) mu := rfl
      rw [es]
      cases mu
      · obtain ⟨s2, k2, r2, f2⟩ := m212 (S := S) (d := d + 4) mr (by rw [p1]; exact ok.1.1) 0
        rw [p1, D0_0] at k2 r2
        refine ⟨s2, ?_, r2, p2.tr f2⟩
        have eh : hoB M L (hdB M L false B k) false = faB M L (hdB M L false B k) (dB (hdB M L false B k) (hdB M L false B k 22)) := rfl
        have e9 : bI false = (0 : Int32) := rfl
        rw [eh, g231_29]
        simp (disch := omega) only [bm_run_ite, Option.toList_some, Option.bind_some, Option.toList_some, Option.toList_none, List.cons_append, List.nil_append, List.append_nil, eq_self, not_true_eq_false, not_false_eq_true, ite_true, ite_false, ↓reduceIte, Nat.reduceLT, Nat.reduceEqDiff, Nat.reduceAdd, or_true, true_or, or_false, false_or, nI_clamp2, nI_lt0F, nI_leT, nI_leF, nI_ltT, nI_ltF, n_leF, n_leT, nI_1, kA6, kA8, kA10, kA22, kA26, kA32, kA44, kA56, kA68, kA80, kA93, kA163, kA794, not_or, or_self, and_self, and_true, true_and, g231_0, g231_14, g231_17, g231_20, g231_24, g231_35, g231_40, g231_44, g231_47, g231_52, g231_60, g231_64, e9, k2, sum_tel]
      · obtain ⟨s2, k2, r2, f2⟩ := m214 (S := S) (d := d + 3) mr (by rw [p1]; exact ok.1.1)
        rw [p1] at k2 r2
        refine ⟨s2, ?_, r2, p2.tr f2⟩
        have e9 : bI true = (1 : Int32) := rfl
        rw [g231_29]
        simp (disch := omega) only [bm_run_ite, Option.toList_some, Option.bind_some, Option.toList_some, Option.toList_none, List.cons_append, List.nil_append, List.append_nil, eq_self, not_true_eq_false, not_false_eq_true, ite_true, ite_false, ↓reduceIte, Nat.reduceLT, Nat.reduceEqDiff, Nat.reduceAdd, or_true, true_or, or_false, false_or, nI_clamp2, nI_lt0F, nI_leT, nI_leF, nI_ltT, nI_ltF, n_leF, n_leT, nI_1, kA6, kA8, kA10, kA22, kA26, kA32, kA44, kA56, kA68, kA80, kA93, kA163, kA794, not_or, or_self, and_self, and_true, true_and, g231_0, g231_14, g231_17, g231_20, g231_24, g231_35, g231_40, g231_44, g231_47, g231_52, g231_60, g231_64, e9, nz10, k2, sum_tel])
    obtain ⟨k7, rs⟩ := mut_fin (S := S) (d := d + 9) (ρ2 := ρ2) h af c3 kg m3 m2 (fun j hj => by rw [hdB_out hM hL mu (by omega) N, hB]) (hok.hd mu N) c2
    refine ⟨.int (bcF (hdB M L mu B N 24) - bcF (B 24)), σ2, _, M, L, ?_, ?_, rs⟩
    · simp (decide := true) only [e120, g120_0, g120_9, g120_15, g120_26, bm_run_ite, Option.toList_some, Option.bind_some, Option.toList_some, Option.toList_none, List.cons_append, List.nil_append, List.append_nil, eq_self, not_true_eq_false, not_false_eq_true, ite_true, ite_false, ↓reduceIte, Nat.reduceLT, Nat.reduceEqDiff, Nat.reduceAdd, or_true, true_or, or_false, false_or, c157, q, k1, hr1.f2]
      refine (show bm_run S (d + 10) 120 37 [some (.ref 0), some (.int (nI N)), some (.int (bI mu)), some (.int (B 24)), some (.int (nI 0))] [] σ1 = _ from c1).trans ?_
      have k8 := c288 (S := S) (d := d + 9) (σ := σ2) (x := hdB M L mu B N 24 &&& (B 24 ^^^ Int32.ofInt (-1))) (fun j h1 h2 => by rw [tb_and, bmk N j h1 h2]; rfl)
      rw [g120_37]
      simp (disch := omega) only [bm_run_ite, Option.toList_some, Option.bind_some, Option.toList_some, Option.toList_none, List.cons_append, List.nil_append, List.append_nil, eq_self, not_true_eq_false, not_false_eq_true, ite_true, ite_false, ↓reduceIte, Nat.reduceLT, Nat.reduceEqDiff, Nat.reduceAdd, or_true, true_or, or_false, false_or, nI_clamp2, nI_lt0F, nI_leT, nI_leF, nI_ltT, nI_ltF, n_leF, n_leT, nI_1, kA6, kA8, kA10, kA22, kA26, kA32, kA44, kA56, kA68, kA80, kA93, kA163, kA794, not_or, or_self, and_self, and_true, true_and, g120_61, g120_75, c2.f2, k8, bits]
    · have z : bcF (hdB M L mu B 0 24) - bcF (B 24) = 0 := Int32.sub_self _
      rw [z] at m1
      simp (decide := true) only [e231, g231_0, g231_14, g231_20, g231_24, bm_run_ite, Option.toList_some, Option.bind_some, Option.toList_some, Option.toList_none, List.cons_append, List.nil_append, List.append_nil, eq_self, not_true_eq_false, not_false_eq_true, ite_true, ite_false, ↓reduceIte, Nat.reduceLT, Nat.reduceEqDiff, Nat.reduceAdd, or_true, true_or, or_false, false_or, c163, q, k5]
      refine (show bm_run S (d + 10) 231 29 [some (.ref 218), some (.int (nI N)), some (.int (bI mu)), some (.int 0), some (.int (nI 0))] [] _ = _ from m1).trans ?_
      rw [g231_29]
      simp (disch := omega) only [bm_run_ite, Option.toList_some, Option.bind_some, Option.toList_some, Option.toList_none, List.cons_append, List.nil_append, List.append_nil, eq_self, not_true_eq_false, not_false_eq_true, ite_true, ite_false, ↓reduceIte, Nat.reduceLT, Nat.reduceEqDiff, Nat.reduceAdd, or_true, true_or, or_false, false_or, nI_clamp2, nI_lt0F, nI_leT, nI_leF, nI_ltT, nI_ltF, n_leF, n_leT, nI_1, kA6, kA8, kA10, kA22, kA26, kA32, kA44, kA56, kA68, kA80, kA93, kA163, kA794, not_or, or_self, and_self, and_true, true_and, g231_60, g231_64, k7]
end HOLD
