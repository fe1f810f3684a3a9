section CLIN3
variable {S : am_S} {d : Nat} {σ : bm_S} {T : Nat → Int32} {n K : Nat} {R : Nat → Int32} {C : List Int32}
theorem c58 (hK : tkK (qN T n) K) (hKn : K ≤ 900) {i : Nat} (hi : i < K) (c : ClT T n K i σ) (cc : ClC C σ) (w : CWR R σ) : ∃ b σ1, bm_call S (d + 2) 58 [.ref 25] σ = some (some (.int b), σ1) ∧ Fln σ σ1 ∧ LCO T n K (frz (qN T n) (vN T n) i R C) b σ1 := by
  unfold frz
  obtain ⟨σ1, k1, x1, f1, y1, y2, _⟩ := c51c (S := S) (d := d + 1) hKn hi c
  obtain ⟨b, σ2, k2, f2, x2, hb, hv⟩ := c54 (S := S) (d := d) hK hKn (lo := 0) (up := 999) (show i + 1 ≤ K by omega) x1
  cases hx : nmx (qN T n) (vN T n) 0 999 (Sum.inl (i + 1)) with
  | inr e =>
    obtain ⟨w2, j⟩ := e
    rw [hx] at x2
    obtain ⟨rfl, x3⟩ := x2
    refine ⟨0, σ2, ?_, (f1.tr f2).ln, rfl, x3⟩
    simp (decide := true) only [e58, g58_0, g58_4, g58_12, g58_15, bm_run_ite, Option.toList_some, Option.bind_some, Option.toList_some, Option.toList_none, List.cons_append, List.nil_append, List.append_nil, eq_self, not_true_eq_false, not_false_eq_true, ite_true, ite_false, ↓reduceIte, Nat.reduceLT, Nat.reduceEqDiff, Nat.reduceAdd, or_true, true_or, or_false, false_or, k1, k2]
  | inl j =>
    rw [hx] at x2
    obtain ⟨rfl, x3⟩ := x2
    obtain ⟨z1, z2, z3⟩ := hv rfl
    have w2 := (w.rd f1).rd f2
    have cc2 : ClC C σ2 := (cc.rd f1 (by rw [y1]) y2).rd f2 (by rw [z1]) z2
    obtain ⟨M2, L, ⟨a1, a2, a3, a4⟩, ⟨b1, b2, b3, b4, b5⟩, g1, g2, g3, g4, g5, g6, g7⟩ := w2
    have rn : ∀ k, k ≠ 22 → upd R 22 (vN T n (i + 1)) k = R k := fun k h1 => upd_n _ _ h1
    have sn : ∀ a, a ≠ 29 → (bm_wi σ2 29 3 (vN T n (i + 1))).1 a = σ2.1 a := fun a h1 => wi_n _ h1 _ _
    have s9 : ∀ k, k ≠ 3 → (bm_wi σ2 29 3 (vN T n (i + 1))).1 29 k = σ2.1 29 k := fun k hk => by rw [wi_s, upd_n _ _ hk]
    refine ⟨1, bm_wi σ2 29 3 (vN T n (i + 1)), ?_, (f1.tr f2).ln.wi (by omega) _ _, rfl, ?_, ?_, M2, L, ⟨a1, a2, by rw [rn 3 (by decide)]; exact a3, by rw [rn 25 (by decide)]; exact a4⟩, ⟨by rw [s9 0 (by decide)]; exact b1, by rw [s9 1 (by decide)]; exact b2, by rw [s9 2 (by decide)]; exact b3, by rw [wi_s, upd_s, upd_s], by rw [s9 4 (by decide)]; exact b5⟩, fun m hm => ?_, fun l hl => ?_, ?_, ?_, ?_, ?_, ?_⟩
    · simp (decide := true) only [e58, g58_0, g58_4, g58_12, g58_17, bm_run_ite, Option.toList_some, Option.bind_some, Option.toList_some, Option.toList_none, List.cons_append, List.nil_append, List.append_nil, eq_self, not_true_eq_false, not_false_eq_true, ite_true, ite_false, ↓reduceIte, Nat.reduceLT, Nat.reduceEqDiff, Nat.reduceAdd, or_true, true_or, or_false, false_or, k1, k2, z3]
    · exact ⟨TAx_w x3.1 (fun b _ => by rw [sn 25 (by decide)]) (fun a ha => sn a (by omega)), by rw [sn 25 (by decide)]; exact x3.2.1, by rw [sn 25 (by decide)]; exact x3.2.2⟩
    · exact ⟨by rw [sn 26 (by decide)]; exact cc2.1, fun m hm => by rw [sn 27 (by decide)]; exact cc2.2 m hm⟩
    · rw [sn 30 (by decide), rn _ (by omega)]; exact g1 m hm
    · rw [sn 31 (by decide), sn 32 (by decide), sn 33 (by decide), sn 34 (by decide), sn 35 (by decide), sn 36 (by decide), rn _ (by omega), rn _ (by omega), rn _ (by omega), rn _ (by omega), rn _ (by omega), rn _ (by omega)]
      exact g2 l hl
    · rw [sn 26 (by decide), rn 1 (by decide), rn 2 (by decide), rn 0 (by decide)]; exact g3
    · rw [sn 26 (by decide), rn 4 (by decide)]; exact g4
    · rw [sn 26 (by decide), rn 4 (by decide), rn 6 (by decide), rn 8 (by decide)]; exact g5
    · rw [sn 26 (by decide), rn 5 (by decide)]; exact g6
    · rw [sn 26 (by decide), rn 5 (by decide), rn 7 (by decide), rn 9 (by decide)]; exact g7
/-- the law's line, as far as its code -/
theorem c59r (hK : tkK (qN T n) K) (hKn : K ≤ 900) (hv : ∀ i, i ≤ K → qN T n i = 20 → trI (vN T n i) = vN T n i) {i : Nat} (time : Bool) (hi : i < K) (hC : C.length ≤ i) (c : ClT T n K i σ) (cc : ClC C σ) (w : CWR R σ) : ∃ σ1, Fln σ σ1 ∧ CWR R σ1 ∧ ((∃ e, lwz time (qN T n) (vN T n) K i R C = Sum.inr e ∧ bm_call S (d + 71) 59 [.ref 25, .int (bI time)] σ = some (some (.int 0), σ1) ∧ ClF T n e.1 e.2 σ1) ∨ ∃ j C2, lwz time (qN T n) (vN T n) K i R C = Sum.inl (j, upd (upd (upd R (4 + (if time = true then 1 else 0)) 1) (6 + (if time = true then 1 else 0)) (nI C.length)) (8 + (if time = true then 1 else 0)) (nI C2.length - nI C.length), C2) ∧ bm_call S (d + 71) 59 [.ref 25, .int (bI time)] σ = bm_run S (d + 71) 59 47 [some (.ref 25), some (.int (bI time)), some (.int (nI C.length))] [] σ1 ∧ ClT T n K j σ1 ∧ ClC C2 σ1) := by
  have v24 : kcT 24 = 58 := by decide +kernel
  obtain ⟨σ1, k1, x1, f1, y1, y2, _⟩ := c51c (S := S) (d := d + 70) hKn hi c
  have cc1 := cc.rd f1 (by rw [y1]) y2
  obtain ⟨b2, σ2, k2, f2, o2⟩ := c53 (S := S) (d := d + 69) hK hKn (show i + 1 ≤ K by omega) (w := 24) (by decide) (by decide) (by omega) x1 cc1
  rw [v24] at k2
  have w2 := (w.rd f1).rd f2
  have tk : tkx (qN T n) 24 (Sum.inl (i + 1)) = if qN T n (i + 1) = 24 then Sum.inl (i + 2) else rfx (qN T n) (i + 1) 2 := rfl
  unfold tkz at o2
  by_cases q : qN T n (i + 1) = 24
  · rw [if_pos q] at o2 tk
    obtain ⟨rfl, t2, cc2, l2⟩ := o2
    have i2 := lt_K hK (show i + 1 ≤ K by omega) (by rw [q]; decide)
    have f3 : ∀ a, a ≠ 25 → (bm_wi σ2 25 11 (bI time)).1 a = σ2.1 a := fun a ha => wi_n _ ha _ _
    have t3 : ClT T n K (i + 2) (bm_wi σ2 25 11 (bI time)) := ⟨TAx_w t2.1 (fun b hb => by rw [wi_s, upd_n _ _ (by omega)]) (fun a ha => f3 a (by omega)), by rw [wi_s, upd_n _ _ (by decide)]; exact t2.2.1, by rw [wi_s, upd_n _ _ (by decide)]; exact t2.2.2⟩
    have cc3 : ClC C (bm_wi σ2 25 11 (bI time)) := ⟨by rw [f3 26 (by decide)]; exact cc2.1, fun m hm => by rw [f3 27 (by decide)]; exact cc2.2 m hm⟩
    obtain ⟨b4, σ4, k4, f4, o4⟩ := ClRd (S := S) (σ := bm_wi σ2 25 11 (bI time)) (T := T) (n := n) (K := K) (time := time) hK hKn hv 31 d (if time = true then 0 else 3) 0 (i + 2) C (by split <;> omega) (by omega) (by unfold muz; split <;> omega) (by omega) (by omega) t3 cc3 (by rw [wi_s, upd_s])
    have w3 : CWR R (bm_wi σ2 25 11 (bI time)) := by
      obtain ⟨M2, L, a, b, g1, g2, g3, g4, g5, g6, g7⟩ := w2
      exact ⟨M2, L, a, by rw [f3 29 (by decide)]; exact b, by rw [f3 30 (by decide)]; exact g1, by rw [f3 31 (by decide), f3 32 (by decide), f3 33 (by decide), f3 34 (by decide), f3 35 (by decide), f3 36 (by decide)]; exact g2, by rw [f3 26 (by decide)]; exact g3, by rw [f3 26 (by decide)]; exact g4, by rw [f3 26 (by decide)]; exact g5, by rw [f3 26 (by decide)]; exact g6, by rw [f3 26 (by decide)]; exact g7⟩
    have fl : Fln σ σ4 := ((f1.tr f2).ln.wi (a := 25) (by omega) 11 (bI time)).tr f4.ln
    have e26 : (bm_wi σ2 25 11 (bI time)).1 26 4 = nI C.length := cc3.1
    refine ⟨σ4, fl, w3.rd f4, ?_⟩
    unfold lwz
    rw [tk]
    simp only
    have go : bm_call S (d + 71) 59 [.ref 25, .int (bI time)] σ = bm_run S (d + 71) 59 42 [some (.ref 25), some (.int (bI time)), some (.int (nI C.length))] [.int b4] σ4 := by
      cases time
      · replace k4 : bm_call S (d + 70) 60 [.ref 25, .int 2, .int 0] (bm_wi σ2 25 11 0) = some (some (.int b4), σ4) := k4
        have e26b : (bm_wi σ2 25 11 0).1 26 4 = nI C.length := e26
        show bm_call S (d + 71) 59 [.ref 25, .int 0] σ = bm_run S (d + 71) 59 42 [some (.ref 25), some (.int 0), some (.int (nI C.length))] [.int b4] σ4
        simp (decide := true) only [e59, g59_0, g59_4, g59_10, g59_15, g59_37, g59_38, bm_run_ite, Option.toList_some, Option.bind_some, Option.toList_some, Option.toList_none, List.cons_append, List.nil_append, List.append_nil, eq_self, not_true_eq_false, not_false_eq_true, ite_true, ite_false, ↓reduceIte, Nat.reduceLT, Nat.reduceEqDiff, Nat.reduceAdd, or_true, true_or, or_false, false_or, k1, k2, e26b, k4, if_true]
      · replace k4 : bm_call S (d + 70) 60 [.ref 25, .int 0, .int 0] (bm_wi σ2 25 11 1) = some (some (.int b4), σ4) := k4
        have e26b : (bm_wi σ2 25 11 1).1 26 4 = nI C.length := e26
        show bm_call S (d + 71) 59 [.ref 25, .int 1] σ = bm_run S (d + 71) 59 42 [some (.ref 25), some (.int 1), some (.int (nI C.length))] [.int b4] σ4
        simp (decide := true) only [e59, g59_0, g59_4, g59_10, g59_15, g59_33, g59_38, bm_run_ite, Option.toList_some, Option.bind_some, Option.toList_some, Option.toList_none, List.cons_append, List.nil_append, List.append_nil, eq_self, not_true_eq_false, not_false_eq_true, ite_true, ite_false, ↓reduceIte, Nat.reduceLT, Nat.reduceEqDiff, Nat.reduceAdd, or_true, true_or, or_false, false_or, k1, k2, e26b, k4, if_true]
    cases hy : pz time (qN T n) (vN T n) (K + 1) 31 (if time = true then 0 else 3) 0 (i + 2) C with
    | inr e =>
      obtain ⟨w9, j⟩ := e
      rw [hy] at o4
      obtain ⟨rfl, x4⟩ := o4
      refine Or.inl ⟨(w9, j), rfl, go.trans ?_, x4⟩
      rw [g59_42]
      simp (decide := true) only [bm_run_ite, Option.toList_some, Option.bind_some, Option.toList_some, Option.toList_none, List.cons_append, List.nil_append, List.append_nil, eq_self, not_true_eq_false, not_false_eq_true, ite_true, ite_false, ↓reduceIte, Nat.reduceLT, Nat.reduceEqDiff, Nat.reduceAdd, or_true, true_or, or_false, false_or, g59_45]
    | inl p =>
      obtain ⟨j, C2⟩ := p
      rw [hy] at o4
      obtain ⟨rfl, x4, x5, x6⟩ := o4
      refine Or.inr ⟨j, C2, rfl, go.trans ?_, x4, x5⟩
      rw [g59_42]
      simp (decide := true) only [bm_run_ite, Option.toList_some, Option.bind_some, Option.toList_some, Option.toList_none, List.cons_append, List.nil_append, List.append_nil, eq_self, not_true_eq_false, not_false_eq_true, ite_true, ite_false, ↓reduceIte, Nat.reduceLT, Nat.reduceEqDiff, Nat.reduceAdd, or_true, true_or, or_false, false_or]
  · rw [if_neg q] at o2 tk
    obtain ⟨rfl, x2⟩ := o2
    refine ⟨σ2, (f1.tr f2).ln, w2, Or.inl ⟨(if qN T n (i + 1) = 22 then 1 else 2, i + 1), by unfold lwz; rw [tk]; rfl, ?_, x2⟩⟩
    simp (decide := true) only [e59, g59_0, g59_4, g59_10, g59_13, bm_run_ite, Option.toList_some, Option.bind_some, Option.toList_some, Option.toList_none, List.cons_append, List.nil_append, List.append_nil, eq_self, not_true_eq_false, not_false_eq_true, ite_true, ite_false, ↓reduceIte, Nat.reduceLT, Nat.reduceEqDiff, Nat.reduceAdd, or_true, true_or, or_false, false_or, k1, k2]
end CLIN3
