section CHNG
variable {S : am_S} {d : Nat} {σ : bm_S} {M L : Nat}
theorem LoS_m1 {W : Nat → Nat → Nat} {C n opt : Nat} (hC : C ≤ 4) (hn : n ≤ 9) {σ : bm_S} (h : ∀ q, q < 40 → σ.2 231 q = Int64.ofInt (-1)) : LoS W C n opt 0 σ := fun x _ hx y hy => Or.inl (h _ (by omega))
def ask (i : Int32) : Prop := i = 0 ∨ ∃ a, a < 10 ∧ i = nI (10 + a)
theorem w1019 : ∀ a, a < 10 → bW (nI (10 + a)).toInt64 10 19 = 1 ∧ ¬ nI (10 + a) = 0 ∧ nI (10 + a) - 10 = nI a := by decide +kernel
def chV (B : Nat → Int32) (C n k c : Nat) (i : Int32) : Int64 := if i = 0 then qL (vF (wN B) C n (n + 1) 0 k c) else if nI n < i - 10 then Int64.ofInt (-1) else (nI (ptF (wN B) C n (n + 1) 0 k c (i - 10).toNatClampNeg)).toInt64
theorem p_changing (h : RS M L σ) (i j x y : Int32) : PR S (d + 20) 142 272 [.int i, .int j, .int x, .int y] σ := by
  have s7 : ¬ Sc 219 := by unfold Sc; omega
  obtain ⟨C, n1, n2, n3, n4⟩ := h.N
  have kc3 := c3 (S := S) (d := d + 19) h i
  have hb := h.bk
  have hl := h.ga.1.1
  have f3 : σ.1 5 3 = σ.1 219 22 := h.rw.f3
  generalize hB : σ.1 219 = B at *
  rw [n3] at kc3
  have km : ∀ τ : bm_S, Kp σ τ → bm_call S (d + 19) 195 [.ref 218, .long i.toInt64] (bm_wi τ 218 0 0) = some (some (.int (bI (decide (¬ i < 0) && decide (¬ nI C ≤ i)))), bm_wi τ 218 0 0) := fun τ k => by
    have e2 : (bm_wi τ 218 0 0).1 219 2 = nI C := by rw [wi_n _ (by decide), k.at s7 (by omega), hB]; exact n3
    have := m195 (S := S) (d := d + 18) (σ := bm_wi τ 218 0 0) n2 e2 i
    rw [e2] at this
    exact this
  have eh : (decide (¬ i < 0) && decide (¬ nI C ≤ i)) = hasI i C := rfl
  rw [eh] at kc3 km
  cases hi : hasI i C
  · rw [hi] at kc3 km
    refine PR.ofk (v := .long (Int64.ofInt (-2))) h ⟨σ, by simp (decide := true) only [e142, g142_0, g142_8, g142_31, bm_run_ite, Option.toList_some, Option.bind_some, Option.toList_some, Option.toList_none, List.cons_append, List.nil_append, List.append_nil, eq_self, not_true_eq_false, not_false_eq_true, ite_true, ite_false, ↓reduceIte, Nat.reduceLT, Nat.reduceEqDiff, Nat.reduceAdd, or_true, true_or, or_false, false_or, kc3, bI_ite], Kp.rfl σ⟩ ?_
    intro τ k
    exact ⟨_, by simp (decide := true) only [e272, g272_0, g272_11, g272_34, bm_run_ite, Option.toList_some, Option.bind_some, Option.toList_some, Option.toList_none, List.cons_append, List.nil_append, List.append_nil, eq_self, not_true_eq_false, not_false_eq_true, ite_true, ite_false, ↓reduceIte, Nat.reduceLT, Nat.reduceEqDiff, Nat.reduceAdd, or_true, true_or, or_false, false_or, km τ k, bI_ite], kp_t0 τ⟩
  rw [hi] at kc3 km
  obtain ⟨k, hk, rfl⟩ := hasI_of hi (by omega)
  by_cases ha : ask y
  · have ac : bm_call S (d + 20) 142 [.ref 0, .int (nI k), .int j, .int x, .int y] σ = bm_run S (d + 20) 142 35 [some (.ref 0), some (.int (nI k)), some (.int j), some (.int x), some (.int y)] [] σ := by
      rcases ha with rfl | ⟨a, ha, rfl⟩
      · simp (decide := true) only [e142, g142_0, g142_8, g142_11, bm_run_ite, Option.toList_some, Option.bind_some, Option.toList_some, Option.toList_none, List.cons_append, List.nil_append, List.append_nil, eq_self, not_true_eq_false, not_false_eq_true, ite_true, ite_false, ↓reduceIte, Nat.reduceLT, Nat.reduceEqDiff, Nat.reduceAdd, or_true, true_or, or_false, false_or, kc3, bI_ite]
      · obtain ⟨w1, w2, w3⟩ := w1019 a ha
        simp (decide := true) only [e142, g142_0, g142_8, g142_11, g142_16, g142_28, bm_run_ite, Option.toList_some, Option.bind_some, Option.toList_some, Option.toList_none, List.cons_append, List.nil_append, List.append_nil, eq_self, not_true_eq_false, not_false_eq_true, ite_true, ite_false, ↓reduceIte, Nat.reduceLT, Nat.reduceEqDiff, Nat.reduceAdd, or_true, true_or, or_false, false_or, kc3, bI_ite, c157, w1, w2]
    have am : ∀ τ : bm_S, Kp σ τ → bm_call S (d + 20) 272 [.ref 218, .int (nI k), .int j, .int x, .int y] τ = bm_run S (d + 20) 272 38 [some (.ref 218), some (.int (nI k)), some (.int j), some (.int x), some (.int y), none] [] (bm_wi τ 218 0 0) := by
      intro τ kp
      rcases ha with rfl | ⟨a, ha, rfl⟩
      · simp (decide := true) only [e272, g272_0, g272_11, g272_14, bm_run_ite, Option.toList_some, Option.bind_some, Option.toList_some, Option.toList_none, List.cons_append, List.nil_append, List.append_nil, eq_self, not_true_eq_false, not_false_eq_true, ite_true, ite_false, ↓reduceIte, Nat.reduceLT, Nat.reduceEqDiff, Nat.reduceAdd, or_true, true_or, or_false, false_or, km τ kp, bI_ite]
      · obtain ⟨w1, w2, w3⟩ := w1019 a ha
        simp (decide := true) only [e272, g272_0, g272_11, g272_14, g272_19, g272_31, bm_run_ite, Option.toList_some, Option.bind_some, Option.toList_some, Option.toList_none, List.cons_append, List.nil_append, List.append_nil, eq_self, not_true_eq_false, not_false_eq_true, ite_true, ite_false, ↓reduceIte, Nat.reduceLT, Nat.reduceEqDiff, Nat.reduceAdd, or_true, true_or, or_false, false_or, km τ kp, bI_ite, c163, w1, w2]
    rcases bW_01 j.toInt64 1 999 with q | q
    · refine PR.ofk (v := .long (Int64.ofInt (-3))) h ⟨σ, ac.trans (by simp (decide := true) only [g142_35, g142_44, g142_59, bm_run_ite, Option.toList_some, Option.bind_some, Option.toList_some, Option.toList_none, List.cons_append, List.nil_append, List.append_nil, eq_self, not_true_eq_false, not_false_eq_true, ite_true, ite_false, ↓reduceIte, Nat.reduceLT, Nat.reduceEqDiff, Nat.reduceAdd, or_true, true_or, or_false, false_or, c157, q]), Kp.rfl σ⟩ ?_
      intro τ k
      exact ⟨_, (am τ k).trans (by simp (decide := true) only [g272_38, g272_47, g272_62, bm_run_ite, Option.toList_some, Option.bind_some, Option.toList_some, Option.toList_none, List.cons_append, List.nil_append, List.append_nil, eq_self, not_true_eq_false, not_false_eq_true, ite_true, ite_false, ↓reduceIte, Nat.reduceLT, Nat.reduceEqDiff, Nat.reduceAdd, or_true, true_or, or_false, false_or, c163, q]), kp_t0 τ⟩
    obtain ⟨c, hc0, hc, rfl⟩ := bW_of (a := 1) (b := 999) (by decide +kernel) (by decide +kernel) (by decide) q
    rcases bW_01 x.toInt64 0 9 with q2 | q2
    · refine PR.ofk (v := .long (Int64.ofInt (-3))) h ⟨σ, ac.trans (by simp (decide := true) only [g142_35, g142_44, g142_47, g142_56, g142_59, bm_run_ite, Option.toList_some, Option.bind_some, Option.toList_some, Option.toList_none, List.cons_append, List.nil_append, List.append_nil, eq_self, not_true_eq_false, not_false_eq_true, ite_true, ite_false, ↓reduceIte, Nat.reduceLT, Nat.reduceEqDiff, Nat.reduceAdd, or_true, true_or, or_false, false_or, c157, q, q2]), Kp.rfl σ⟩ ?_
      intro τ k
      exact ⟨_, (am τ k).trans (by simp (decide := true) only [g272_38, g272_47, g272_50, g272_59, g272_62, bm_run_ite, Option.toList_some, Option.bind_some, Option.toList_some, Option.toList_none, List.cons_append, List.nil_append, List.append_nil, eq_self, not_true_eq_false, not_false_eq_true, ite_true, ite_false, ↓reduceIte, Nat.reduceLT, Nat.reduceEqDiff, Nat.reduceAdd, or_true, true_or, or_false, false_or, c163, q, q2]), kp_t0 τ⟩
    obtain ⟨n, hn0, hn, rfl⟩ := bW_of (a := 0) (b := 9) (by decide +kernel) (by decide +kernel) (by decide) q2
    obtain ⟨σ1, k1, kp1, o1, pa1⟩ := c21 (S := S) (d := d + 13) hb hl n2 n1 n4 hn hk hc
    refine PR.ofk (v := .long (chV B C n k c y)) h ⟨σ1, ac.trans ?_, kp1⟩ ?_
    · unfold chV
      rw [g142_35]
      rcases ha with rfl | ⟨a, ha, rfl⟩
      · simp (decide := true) only [bm_run_ite, Option.toList_some, Option.bind_some, Option.toList_some, Option.toList_none, List.cons_append, List.nil_append, List.append_nil, eq_self, not_true_eq_false, not_false_eq_true, ite_true, ite_false, ↓reduceIte, Nat.reduceLT, Nat.reduceEqDiff, Nat.reduceAdd, or_true, true_or, or_false, false_or, c157, q, g142_44, g142_47, q2, g142_56, g142_63, f3, k1, g142_84, g142_89, o1]
      · obtain ⟨w1, w2, w3⟩ := w1019 a ha
        by_cases q3 : nI n < nI a
        · simp (decide := true) only [bm_run_ite, Option.toList_some, Option.bind_some, Option.toList_some, Option.toList_none, List.cons_append, List.nil_append, List.append_nil, eq_self, not_true_eq_false, not_false_eq_true, ite_true, ite_false, ↓reduceIte, Nat.reduceLT, Nat.reduceEqDiff, Nat.reduceAdd, or_true, true_or, or_false, false_or, c157, q, g142_44, g142_47, q2, g142_56, g142_63, f3, k1, g142_84, w2, g142_97, w3, q3, g142_125, g142_128]
        · have an : a ≤ n := by
            rcases Nat.lt_or_ge n a with z | z
            · exact absurd (nI_lt z (by omega)) q3
            · exact z
          have a6 : bm_call S (d + 19) 158 [.ref 178, .int (nI a)] σ1 = some (some (.int (nI (ptF (wN B) C n (n + 1) 0 k c a))), σ1) := by rw [at_row t176 l176 ha (by decide), pa1 a an]
          simp (decide := true) only [bm_run_ite, Option.toList_some, Option.bind_some, Option.toList_some, Option.toList_none, List.cons_append, List.nil_append, List.append_nil, eq_self, not_true_eq_false, not_false_eq_true, ite_true, ite_false, ↓reduceIte, Nat.reduceLT, Nat.reduceEqDiff, Nat.reduceAdd, or_true, true_or, or_false, false_or, c157, q, g142_44, g142_47, q2, g142_56, g142_63, f3, k1, g142_84, w2, g142_97, w3, q3, g142_106, a6, g142_121, g142_128, nI_clamp2 (show a < 2147483648 by omega)]
    · intro τ kp
      have b0 : (bm_wi τ 218 0 0).1 219 = B := by rw [wi_n _ (by decide), kp.at s7 (by omega)]; exact hB
      obtain ⟨s1, e1, p1, p2⟩ := loop_ex (fun l (s : bm_S) => bm_run S (d + 20) 272 69 [some (.ref 218), some (.int (nI k)), some (.int (nI c)), some (.int (nI n)), some (.int y), some (.int (nI l))] [] s) (fun l s => Kp τ s ∧ ∀ q, q < l → s.2 231 q = Int64.ofInt (-1)) 40 (bm_wi τ 218 0 0) ⟨kp_t0 τ, fun q hq => absurd hq (by omega)⟩ (by
        intro l s hl hs
        have l40 : ¬ (40 : Int32) ≤ nI l := nI_ge (b := 40) hl (by decide)
        refine ⟨bm_wl s 231 l (Int64.ofInt (-1)), ?_, hs.1.tr ⟨fun _ _ _ => rfl, fun _ _ => rfl, fun a ha => wl_n _ (by omega) _ _⟩, fun q hq => ?_⟩
        · rw [g272_69]
          simp (disch := omega) only [bm_run_ite, Option.toList_some, Option.bind_some, Option.toList_some, Option.toList_none, List.cons_append, List.nil_append, List.append_nil, eq_self, not_true_eq_false, not_false_eq_true, ite_true, ite_false, ↓reduceIte, Nat.reduceLT, Nat.reduceEqDiff, Nat.reduceAdd, or_true, true_or, or_false, false_or, nI_clamp2, nI_lt0F, nI_leT, nI_leF, nI_ltT, nI_ltF, n_leF, n_leT, nI_1, kA6, kA8, kA10, kA22, kA26, kA32, kA44, kA56, kA68, kA80, kA93, kA163, kA794, not_or, or_self, and_self, and_true, true_and, l40, g272_76]
        · rw [wl_s]
          by_cases e : q = l
          · subst e; exact if_pos rfl
          · exact (if_neg e).trans (hs.2 q (by omega)))
      have vb := vF_le (W := wN B) (n := n) n2 (fun j hj => (wN_4 B n j hj).2) (n + 1) 0 k c (by omega) (show c ≤ 1000000000 by omega)
      have kps : Kp τ (bm_wl s1 218 33 (Int64.ofInt (-1))) := p1.tr ⟨fun _ _ _ => rfl, fun _ _ => rfl, fun a ha => wl_n _ (by omega) _ _⟩
      have bs : (bm_wl s1 218 33 (Int64.ofInt (-1))).1 219 = B := by rw [(kp.tr kps).at s7 (by omega)]; exact hB
      have lo : LoS (wN B) C n (vF (wN B) C n (n + 1) 0 k c) 0 (bm_wl s1 218 33 (Int64.ofInt (-1))) := LoS_m1 n2 hn (fun q hq => by rw [wl_n _ (by decide)]; exact p2 q hq)
      have bl : BLo (vF (wN B) C n (n + 1) 0 k c) (bm_wl s1 218 33 (Int64.ofInt (-1))) := Or.inl (by rw [wl_s]; exact if_pos rfl)
      obtain ⟨s2, k2, rc⟩ := Mode_all (S := S) (d := d + 16 - n) hl n2 n1 n3 hn vb n 0 k c (bm_wl s1 218 33 (Int64.ofInt (-1))) (by omega) bs hk (by omega)
      rw [show d + 16 - n + n + 3 = d + 19 by omega] at k2
      obtain ⟨r1, _, _, _, rB, _⟩ := rc
      obtain ⟨z1, _, z3⟩ := rB lo bl rfl
      replace k2 : bm_call S (d + 19) 271 [.ref 218, .int 0, .int (nI n), .int (nI k), .long (qL c)] (bm_wl s1 218 33 (Int64.ofInt (-1))) = some (none, s2) := k2
      refine ⟨s2, (am τ kp).trans ?_, kps.tr r1⟩
      have go : bm_run S (d + 20) 272 38 [some (.ref 218), some (.int (nI k)), some (.int (nI c)), some (.int (nI n)), some (.int y), none] [] (bm_wi τ 218 0 0) = bm_run S (d + 20) 272 108 [some (.ref 218), some (.int (nI k)), some (.int (nI c)), some (.int (nI n)), some (.int y), some (.int (nI 40))] [] s2 := by
        rw [g272_38]
        simp (decide := true) only [bm_run_ite, Option.toList_some, Option.bind_some, Option.toList_some, Option.toList_none, List.cons_append, List.nil_append, List.append_nil, eq_self, not_true_eq_false, not_false_eq_true, ite_true, ite_false, ↓reduceIte, Nat.reduceLT, Nat.reduceEqDiff, Nat.reduceAdd, or_true, true_or, or_false, false_or, c163, q, g272_47, g272_50, q2, g272_59, g272_66]
        refine (show bm_run S (d + 20) 272 69 [some (.ref 218), some (.int (nI k)), some (.int (nI c)), some (.int (nI n)), some (.int y), some (.int (nI 0))] [] (bm_wi τ 218 0 0) = _ from e1).trans ?_
        have l40 : (40 : Int32) ≤ nI 40 := by decide
        rw [g272_69]
        simp (decide := true) only [bm_run_ite, Option.toList_some, Option.bind_some, Option.toList_some, Option.toList_none, List.cons_append, List.nil_append, List.append_nil, eq_self, not_true_eq_false, not_false_eq_true, ite_true, ite_false, ↓reduceIte, Nat.reduceLT, Nat.reduceEqDiff, Nat.reduceAdd, or_true, true_or, or_false, false_or, l40, g272_92, qL_nI (show c < 2147483648 by omega), k2]
      refine go.trans ?_
      unfold chV
      rw [g272_108]
      rcases ha with rfl | ⟨a, ha, rfl⟩
      · simp (decide := true) only [bm_run_ite, Option.toList_some, Option.bind_some, Option.toList_some, Option.toList_none, List.cons_append, List.nil_append, List.append_nil, eq_self, not_true_eq_false, not_false_eq_true, ite_true, ite_false, ↓reduceIte, Nat.reduceLT, Nat.reduceEqDiff, Nat.reduceAdd, or_true, true_or, or_false, false_or, g272_113, g272_146, z1]
      · obtain ⟨w1, w2, w3⟩ := w1019 a ha
        by_cases q3 : nI n < nI a
        · simp (decide := true) only [bm_run_ite, Option.toList_some, Option.bind_some, Option.toList_some, Option.toList_none, List.cons_append, List.nil_append, List.append_nil, eq_self, not_true_eq_false, not_false_eq_true, ite_true, ite_false, ↓reduceIte, Nat.reduceLT, Nat.reduceEqDiff, Nat.reduceAdd, or_true, true_or, or_false, false_or, w2, g272_120, w3, q3, g272_143, g272_146]
        · have an : a ≤ n := by
            rcases Nat.lt_or_ge n a with z | z
            · exact absurd (nI_lt z (by omega)) q3
            · exact z
          have bd : ¬ (nI a < 0 ∨ 10 ≤ a) := by rintro (z | z); exact nI_pos (by omega) z; omega
          simp (decide := true) only [bm_run_ite, Option.toList_some, Option.bind_some, Option.toList_some, Option.toList_none, List.cons_append, List.nil_append, List.append_nil, eq_self, not_true_eq_false, not_false_eq_true, ite_true, ite_false, ↓reduceIte, Nat.reduceLT, Nat.reduceEqDiff, Nat.reduceAdd, or_true, true_or, or_false, false_or, w2, g272_120, w3, q3, g272_129, nI_clamp2 (show a < 2147483648 by omega), bd, z3 a (Nat.zero_le _) an, g272_146]
  · have y0 : ¬ y = 0 := fun z => ha (Or.inl z)
    have w : bW y.toInt64 10 19 = 0 := bW_n (fun z => by
      obtain ⟨b, b1, b2, rfl⟩ := bW_of (a := 10) (b := 19) (by decide +kernel) (by decide +kernel) (by decide) z
      exact ha (Or.inr ⟨b - 10, by omega, by rw [show 10 + (b - 10) = b by omega]⟩))
    refine PR.ofk (v := .long (Int64.ofInt (-2))) h ⟨σ, by simp (decide := true) only [e142, g142_0, g142_8, g142_11, g142_16, g142_28, g142_31, bm_run_ite, Option.toList_some, Option.bind_some, Option.toList_some, Option.toList_none, List.cons_append, List.nil_append, List.append_nil, eq_self, not_true_eq_false, not_false_eq_true, ite_true, ite_false, ↓reduceIte, Nat.reduceLT, Nat.reduceEqDiff, Nat.reduceAdd, or_true, true_or, or_false, false_or, kc3, bI_ite, y0, c157, w], Kp.rfl σ⟩ ?_
    intro τ k
    exact ⟨_, by simp (decide := true) only [e272, g272_0, g272_11, g272_14, g272_19, g272_31, g272_34, bm_run_ite, Option.toList_some, Option.bind_some, Option.toList_some, Option.toList_none, List.cons_append, List.nil_append, List.append_nil, eq_self, not_true_eq_false, not_false_eq_true, ite_true, ite_false, ↓reduceIte, Nat.reduceLT, Nat.reduceEqDiff, Nat.reduceAdd, or_true, true_or, or_false, false_or, km τ k, bI_ite, y0, c163, w], kp_t0 τ⟩
end CHNG
