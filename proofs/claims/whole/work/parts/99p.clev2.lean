theorem bdz_as (x : pzR) (g h : Nat → List Int32 → pzR) : bdz (bdz x g) h = bdz x (fun j C => bdz (g j C) h) := by
  rcases x with ⟨j, C⟩ | ⟨w, j⟩ <;> rfl
theorem bdz_id (x : pzR) : bdz x (fun j C => Sum.inl (j, C)) = x := by
  rcases x with ⟨j, C⟩ | ⟨w, j⟩ <;> rfl
theorem pz_nots {time : Bool} {q : Nat → Nat} {v : Nat → Int32} {R f : Nat} : ∀ k op i C, op + k ≤ 6 → (∀ l, l < k → q (i + l) = 18) → pz time q v R (f + k) 2 op i C = bdz (pz time q v R f 2 (op + k) (i + k) C) (fun j C1 => Sum.inl (j, C1 ++ List.replicate k 3006)) := by
  intro k
  induction k with
  | zero =>
    intro op i C _ _
    have : (fun (j : Nat) (C1 : List Int32) => (Sum.inl (j, C1 ++ List.replicate 0 3006) : pzR)) = fun j C1 => Sum.inl (j, C1) := by
      funext j C1; simp
    rw [this, bdz_id]
    rfl
  | succ k ih =>
    intro op i C ho hq
    have q0 : q i = 18 := hq 0 (by omega)
    rw [show f + (k + 1) = (f + k) + 1 by omega, pz, if_neg (by decide), if_pos rfl, if_pos q0, if_neg (by omega), ih (op + 1) (i + 1) C (by omega) (fun l hl => by rw [show i + 1 + l = i + (l + 1) by omega]; exact hq (l + 1) (by omega)), bdz_as, show op + 1 + k = op + (k + 1) by omega, show i + 1 + k = i + (k + 1) by omega]
    congr 1
    funext j C1
    rw [bdz_inl, List.append_assoc]
    congr 3
    exact (List.replicate_succ' (n := k) (a := (3006 : Int32))).symm
section CLEW
variable {S : am_S} {σ : bm_S} {T : Nat → Int32} {n K : Nat} {time : Bool}
theorem c63n (hK : tkK (qN T n) K) (hKn : K ≤ 900) {op i D : Nat} {C : List Int32} {σ0 : bm_S} (ho : op ≤ 6) : ∀ r k σ, op + k + r = 6 → i + k ≤ K → ClT T n K (i + k) σ → ClC C σ → (∀ l, l < k → qN T n (i + l) = 18) → Frd σ0 σ → ∃ k2 σ1, bm_run S (D + 1) 63 2 [some (.ref 25), some (.int (nI op)), some (.int (nI k)), none, none] [] σ = bm_run S (D + 1) 63 30 [some (.ref 25), some (.int (nI op)), some (.int (nI k2)), none, none] [] σ1 ∧ op + k2 ≤ 6 ∧ i + k2 ≤ K ∧ ClT T n K (i + k2) σ1 ∧ ClC C σ1 ∧ (∀ l, l < k2 → qN T n (i + l) = 18) ∧ Frd σ0 σ1 ∧ (op + k2 = 6 ∨ ¬ qN T n (i + k2) = 18) := by
  have v18 : kcT 18 = 217 := by decide +kernel
  intro r
  induction r with
  | zero =>
    intro k σ hk hi c cc hq fr
    have le : (6 : Int32) ≤ nI (op + k) := nI_le (a := 6) (by omega) (by omega)
    refine ⟨k, σ, ?_, by omega, hi, c, cc, hq, fr, Or.inl (by omega)⟩
    rw [g63_2]
    simp only [bm_run_ite, Option.toList_some, Option.bind_some, Option.toList_some, Option.toList_none, List.cons_append, List.nil_append, List.append_nil, eq_self, not_true_eq_false, not_false_eq_true, ite_true, ite_false, ↓reduceIte, Nat.reduceLT, Nat.reduceEqDiff, Nat.reduceAdd, or_true, true_or, or_false, false_or, nI_add, le]
  | succ r ih =>
    intro k σ hk hi c cc hq fr
    have le : ¬ (6 : Int32) ≤ nI (op + k) := nI_ge (b := 6) (by omega) (by decide)
    have c9 := c.2.2
    by_cases q : qN T n (i + k) = 18
    · rw [q, v18] at c9
      obtain ⟨σ2, k51, c2, f2, y2⟩ := c51 (S := S) (d := D) hKn (lt_K hK hi (by rw [q]; decide)) c
      obtain ⟨k2, σ3, e3, x1, x2, x3, x4, x5, x6, x7⟩ := ih (k + 1) σ2 (by omega) (by have := lt_K hK hi (by rw [q]; decide); omega) c2 (y2 C cc) (fun l hl => by
        by_cases e : l = k
        · subst e; exact q
        · exact hq l (by omega)) (fr.tr f2)
      refine ⟨k2, σ3, ?_, x1, x2, x3, x4, x5, x6, x7⟩
      rw [← e3, g63_2]
      simp (decide := true) only [bm_run_ite, Option.toList_some, Option.bind_some, Option.toList_some, Option.toList_none, List.cons_append, List.nil_append, List.append_nil, eq_self, not_true_eq_false, not_false_eq_true, ite_true, ite_false, ↓reduceIte, Nat.reduceLT, Nat.reduceEqDiff, Nat.reduceAdd, or_true, true_or, or_false, false_or, nI_add, le, g63_10, c9, g63_20, k51, g63_24, nI_1]
    · have ne : ¬ σ.1 25 9 = 217 := by rw [c9, ← v18]; exact fun z => q ((kc_inj _ q_lt 18 (by decide)).mp z)
      refine ⟨k, σ, ?_, by omega, hi, c, cc, hq, fr, Or.inr q⟩
      rw [g63_2]
      simp (decide := true) only [bm_run_ite, Option.toList_some, Option.bind_some, Option.toList_some, Option.toList_none, List.cons_append, List.nil_append, List.append_nil, eq_self, not_true_eq_false, not_false_eq_true, ite_true, ite_false, ↓reduceIte, Nat.reduceLT, Nat.reduceEqDiff, Nat.reduceAdd, or_true, true_or, or_false, false_or, nI_add, le, g63_10, ne]
/-- the nots are laid down behind -/
theorem c63a (hKn : K ≤ 900) {op j nt D : Nat} {C : List Int32} (hl : C.length + nt ≤ j) (hj : j ≤ K) (hn6 : nt ≤ 6) : ∀ r k σ o3, k + r = nt → ClT T n K j σ → ClC (C ++ List.replicate k 3006) σ → ∃ σ1, bm_run S (D + 1) 63 189 [some (.ref 25), some (.int (nI op)), some (.int (nI nt)), o3, some (.int (nI k))] [] σ = some (some (.int 1), σ1) ∧ Frd σ σ1 ∧ ClT T n K j σ1 ∧ ClC (C ++ List.replicate nt 3006) σ1 := by
  have t6 : trI 3006 = Int32.ofInt (-6) := by decide
  intro r
  induction r with
  | zero =>
    intro k σ o3 hk c cc
    have e : k = nt := by omega
    subst e
    have le : nI k ≤ nI k := Int32.le_refl _
    refine ⟨σ, ?_, Frd.rfl σ, c, cc⟩
    rw [g63_189]
    simp (decide := true) only [bm_run_ite, Option.toList_some, Option.bind_some, Option.toList_some, Option.toList_none, List.cons_append, List.nil_append, List.append_nil, eq_self, not_true_eq_false, not_false_eq_true, ite_true, ite_false, ↓reduceIte, Nat.reduceLT, Nat.reduceEqDiff, Nat.reduceAdd, or_true, true_or, or_false, false_or, le, g63_210]
  | succ r ih =>
    intro k σ o3 hk c cc
    have le : ¬ nI nt ≤ nI k := nI_ge (by omega) (by omega)
    obtain ⟨σ2, k4, c4b, f4, y4⟩ := c4 (S := S) (d := D) (T := T) (n := n) (K := K) cc (by rw [List.length_append, List.length_replicate]; omega) 3006
    rw [List.append_assoc, ← List.replicate_succ'] at c4b
    rw [t6] at k4
    obtain ⟨σ3, e3, f3, x1, x2⟩ := ih (k + 1) σ2 (am_clr o3) (by omega) (y4 j c) c4b
    refine ⟨σ3, ?_, f4.tr f3, x1, x2⟩
    rw [← e3, g63_189]
    simp (decide := true) only [bm_run_ite, Option.toList_some, Option.bind_some, Option.toList_some, Option.toList_none, List.cons_append, List.nil_append, List.append_nil, eq_self, not_true_eq_false, not_false_eq_true, ite_true, ite_false, ↓reduceIte, Nat.reduceLT, Nat.reduceEqDiff, Nat.reduceAdd, or_true, true_or, or_false, false_or, le, g63_195, k4, g63_204, nI_1]
theorem c63t (hK : tkK (qN T n) K) (hKn : K ≤ 900) {D F op i : Nat} {C : List Int32} {σ : bm_S} (hD : 3 ≤ D) (ho : op ≤ 6) (hF : muz 2 op < F) (hi : i ≤ K) (hCi : C.length ≤ i) (c : ClT T n K i σ) (cc : ClC C σ) (ht : σ.1 25 11 = bI time) (hc : ∀ f lvl op i C σ, f < F → lvl = 0 ∨ lvl = 3 → op ≤ 6 → muz lvl op < f → i ≤ K → C.length ≤ i → ClT T n K i σ → ClC C σ → σ.1 25 11 = bI time → ClM S D T n K 60 [.ref 25, .int (nI (ofz lvl)), .int (nI op)] (pz time (qN T n) (vN T n) (K + 1) f lvl op i C) σ) : ClM S (D + 1) T n K 63 [.ref 25, .int (nI op)] (pz time (qN T n) (vN T n) (K + 1) F 2 op i C) σ := by
  obtain ⟨D, rfl⟩ : ∃ e, D = e + 3 := ⟨D - 3, by omega⟩
  have kv : kcT 18 = 217 ∧ kcT 30 = 91 ∧ kcT 31 = 93 ∧ kcT 32 = 61 ∧ kcT 33 = 60 ∧ kcT 34 = 62 := by decide +kernel
  obtain ⟨v18, v30, v31, v32, v33, v34⟩ := kv
  obtain ⟨k, σ1, e1, x1, x2, x3, x4, x5, x6, x7⟩ := c63n (S := S) (D := D + 3) (σ0 := σ) hK hKn (i := i) (op := op) (C := C) ho (6 - op) 0 σ (by omega) (by omega) c cc (fun l hl => absurd hl (by omega)) (Frd.rfl σ)
  unfold muz at hF
  obtain ⟨f, rfl⟩ : ∃ f, F = (f + 1) + k := ⟨F - k - 1, by omega⟩
  rw [pz_nots k op i C x1 x5]
  have go : bm_call S (D + 4) 63 [.ref 25, .int (nI op)] σ = bm_run S (D + 4) 63 30 [some (.ref 25), some (.int (nI op)), some (.int (nI k)), none, none] [] σ1 := by
    rw [e63, g63_0]
    exact e1
  have c9 := x3.2.2
  have ht1 := x6.t ht
  have ne : ∀ w, w < 35 → ¬ qN T n (i + k) = w → ¬ kcT (qN T n (i + k)) = kcT w := fun w hw a z => a ((kc_inj _ q_lt w hw).mp z)
  have hCk : C.length ≤ i + k := by omega
  -- the end: the nots
  have fin : ∀ (j : Nat) (C2 : List Int32) (σ2 : bm_S) (o3 o4 : Option Value), j ≤ K → C2.length + k ≤ j → ClT T n K j σ2 → ClC C2 σ2 → Frd σ σ2 → bm_call S (D + 4) 63 [.ref 25, .int (nI op)] σ = bm_run S (D + 4) 63 186 [some (.ref 25), some (.int (nI op)), some (.int (nI k)), o3, o4] [] σ2 → ClM S (D + 4) T n K 63 [.ref 25, .int (nI op)] (Sum.inl (j, C2 ++ List.replicate k 3006)) σ := by
    intro j C2 σ2 o3 o4 hj hl c2 cc2 f2 run
    obtain ⟨σ3, e3, f3, y1, y2⟩ := c63a (S := S) (D := D + 3) (op := op) (nt := k) hKn hl hj (by omega) k 0 σ2 (am_clr o3) (by omega) c2 (by simpa using cc2)
    refine ⟨1, σ3, run.trans ?_, f2.tr f3, rfl, y1, y2, by rw [List.length_append, List.length_replicate]; exact hl⟩
    rw [g63_186]
    exact e3
  rw [pz, if_neg (by decide), if_pos rfl]
  by_cases q : qN T n (i + k) = 18
  · have o6 : op + k = 6 := by
      rcases x7 with z | z
      · exact z
      · exact absurd q z
    rw [if_pos q, if_pos (by omega), bdz_inr]
    rw [q, v18] at c9
    obtain ⟨σ4, k4, y4, f4⟩ := c52 (S := S) (d := D + 3) (w := 4) hKn x2 x3
    rw [if_neg (by rw [q]; decide)] at y4
    refine ⟨0, σ4, go.trans ?_, x6.tr f4, rfl, y4⟩
    rw [g63_30]
    simp (decide := true) only [bm_run_ite, Option.toList_some, Option.bind_some, Option.toList_some, Option.toList_none, List.cons_append, List.nil_append, List.append_nil, eq_self, not_true_eq_false, not_false_eq_true, ite_true, ite_false, ↓reduceIte, Nat.reduceLT, Nat.reduceEqDiff, Nat.reduceAdd, or_true, true_or, or_false, false_or, c9, g63_44, k4, g63_49, if_true]
  have n18 := ne 18 (by decide) q
  rw [v18, ← c9] at n18
  rw [if_neg q]
  by_cases q2 : qN T n (i + k) = 30
  · rw [if_pos q2]
    rw [q2, v30] at c9
    have iK : i + k < K := lt_K hK x2 (by rw [q2]; decide)
    by_cases o6 : 6 ≤ op + k
    · rw [if_pos o6, bdz_inr]
      have n6 : ¬ nI (op + k) < 6 := nI_nlt (b := 6) o6 (by omega)
      obtain ⟨σ4, k4, y4, f4⟩ := c52 (S := S) (d := D + 3) (w := 4) hKn x2 x3
      rw [if_neg (by rw [q2]; decide)] at y4
      refine ⟨0, σ4, go.trans ?_, x6.tr f4, rfl, y4⟩
      rw [g63_30]
      simp (decide := true) only [bm_run_ite, Option.toList_some, Option.bind_some, Option.toList_some, Option.toList_none, List.cons_append, List.nil_append, List.append_nil, eq_self, not_true_eq_false, not_false_eq_true, ite_true, ite_false, ↓reduceIte, Nat.reduceLT, Nat.reduceEqDiff, Nat.reduceAdd, or_true, true_or, or_false, false_or, c9, g63_50, nI_add, g63_59, n6, g63_65, k4, g63_70, if_true]
    · rw [if_neg o6]
      have n6 : nI (op + k) < 6 := nI_lt (b := 6) (by omega) (by decide)
      obtain ⟨σ2, k51, c2, f2, y2⟩ := c51 (S := S) (d := D + 3) hKn iK x3
      obtain ⟨b, σ3, k60, f3, o3⟩ := hc f 0 (op + k + 1) (i + k + 1) C σ2 (by omega) (Or.inl rfl) (by omega) (by unfold muz; omega) (by omega) (by omega) c2 (y2 C x4) (f2.t ht1)
      replace k60 : bm_call S (D + 3) 60 [.ref 25, .int 0, .int (nI (op + k + 1))] σ2 = some (some (.int b), σ3) := k60
      cases hx : pz time (qN T n) (vN T n) (K + 1) f 0 (op + k + 1) (i + k + 1) C with
      | inl a =>
        obtain ⟨j2, C2⟩ := a
        rw [hx] at o3
        obtain ⟨rfl, n1, n2, n3⟩ := o3
        obtain ⟨z1, z2, E, z3, z4⟩ := pz_gr (time := time) (v := vN T n) (R := K + 1) hK f 0 (op + k + 1) (i + k + 1) C (by omega) j2 C2 hx
        have lC : C2.length + k + 1 ≤ j2 := by rw [z3, List.length_append]; omega
        obtain ⟨b4, σ4, k53, f4, o4⟩ := c53 (S := S) (d := D + 2) hK hKn z2 (w := 31) (by decide) (by decide) n3 n1 n2
        rw [v31] at k53
        rw [bdz_inl]
        unfold tkz at o4 ⊢
        by_cases q4 : qN T n j2 = 31
        · rw [if_pos q4] at o4 ⊢
          obtain ⟨rfl, w1, w2, w3⟩ := o4
          rw [bdz_inl]
          refine fin (j2 + 1) C2 σ4 (some (.int (nI (op + k)))) none (by have := lt_K hK z2 (by rw [q4]; decide); omega) (by omega) w1 w2 (((x6.tr f2).tr f3).tr f4) (go.trans ?_)
          rw [g63_30]
          simp (decide := true) only [bm_run_ite, Option.toList_some, Option.bind_some, Option.toList_some, Option.toList_none, List.cons_append, List.nil_append, List.append_nil, eq_self, not_true_eq_false, not_false_eq_true, ite_true, ite_false, ↓reduceIte, Nat.reduceLT, Nat.reduceEqDiff, Nat.reduceAdd, or_true, true_or, or_false, false_or, c9, g63_50, nI_add, g63_59, n6, g63_71, k51, g63_75, nI_1, k60, g63_83, g63_86, k53, g63_92]
        · rw [if_neg q4] at o4 ⊢
          obtain ⟨rfl, w1⟩ := o4
          refine ⟨0, σ4, go.trans ?_, ((x6.tr f2).tr f3).tr f4, rfl, w1⟩
          rw [g63_30]
          simp (decide := true) only [bm_run_ite, Option.toList_some, Option.bind_some, Option.toList_some, Option.toList_none, List.cons_append, List.nil_append, List.append_nil, eq_self, not_true_eq_false, not_false_eq_true, ite_true, ite_false, ↓reduceIte, Nat.reduceLT, Nat.reduceEqDiff, Nat.reduceAdd, or_true, true_or, or_false, false_or, c9, g63_50, nI_add, g63_59, n6, g63_71, k51, g63_75, nI_1, k60, g63_83, g63_86, k53, g63_92, g63_95]
      | inr a =>
        obtain ⟨w, j2⟩ := a
        rw [hx] at o3
        obtain ⟨rfl, n1⟩ := o3
        refine ⟨0, σ3, go.trans ?_, (x6.tr f2).tr f3, rfl, n1⟩
        rw [g63_30]
        simp (decide := true) only [bm_run_ite, Option.toList_some, Option.bind_some, Option.toList_some, Option.toList_none, List.cons_append, List.nil_append, List.append_nil, eq_self, not_true_eq_false, not_false_eq_true, ite_true, ite_false, ↓reduceIte, Nat.reduceLT, Nat.reduceEqDiff, Nat.reduceAdd, or_true, true_or, or_false, false_or, c9, g63_50, nI_add, g63_59, n6, g63_71, k51, g63_75, nI_1, k60, g63_83, g63_95]
  have n30 := ne 30 (by decide) q2
  rw [v30, ← c9] at n30
  rw [if_neg q2]
  obtain ⟨b, σ3, k60, f3, o3⟩ := hc f 3 (op + k) (i + k) C σ1 (by omega) (Or.inr rfl) (by omega) (by unfold muz; omega) x2 hCk x3 x4 ht1
  replace k60 : bm_call S (D + 3) 60 [.ref 25, .int 2, .int (nI (op + k))] σ1 = some (some (.int b), σ3) := k60
  cases hx : pz time (qN T n) (vN T n) (K + 1) f 3 (op + k) (i + k) C with
  | inr a =>
    obtain ⟨w, j2⟩ := a
    rw [hx] at o3
    obtain ⟨rfl, n1⟩ := o3
    refine ⟨0, σ3, go.trans ?_, x6.tr f3, rfl, n1⟩
    rw [g63_30]
    simp (decide := true) only [bm_run_ite, Option.toList_some, Option.bind_some, Option.toList_some, Option.toList_none, List.cons_append, List.nil_append, List.append_nil, eq_self, not_true_eq_false, not_false_eq_true, ite_true, ite_false, ↓reduceIte, Nat.reduceLT, Nat.reduceEqDiff, Nat.reduceAdd, or_true, true_or, or_false, false_or, n18, g63_50, n30, nI_add, g63_97, k60, g63_103, g63_106]
  | inl a =>
    obtain ⟨j2, C2⟩ := a
    rw [hx] at o3
    obtain ⟨rfl, n1, n2, n3⟩ := o3
    obtain ⟨z1, z2, E, z3, z4⟩ := pz_gr (time := time) (v := vN T n) (R := K + 1) hK f 3 (op + k) (i + k) C x2 j2 C2 hx
    rw [bdz_inl]
    have d9 := n1.2.2
    have ne2 : ∀ w, w < 35 → ¬ qN T n j2 = w → ¬ kcT (qN T n j2) = kcT w := fun w hw a z => a ((kc_inj _ q_lt w hw).mp z)
    have g0 : bm_call S (D + 4) 63 [.ref 25, .int (nI op)] σ = bm_run S (D + 4) 63 108 [some (.ref 25), some (.int (nI op)), some (.int (nI k)), some (.int (nI (op + k))), none] [] σ3 := by
      refine go.trans ?_
      rw [g63_30]
      simp (decide := true) only [bm_run_ite, Option.toList_some, Option.bind_some, Option.toList_some, Option.toList_none, List.cons_append, List.nil_append, List.append_nil, eq_self, not_true_eq_false, not_false_eq_true, ite_true, ite_false, ↓reduceIte, Nat.reduceLT, Nat.reduceEqDiff, Nat.reduceAdd, or_true, true_or, or_false, false_or, n18, g63_50, n30, nI_add, g63_97, k60, g63_103]
    have cmp : ∀ code : Int32, cpz (qN T n j2) = code → ¬ code = 0 → ¬ qN T n j2 = 21 → bm_run S (D + 4) 63 108 [some (.ref 25), some (.int (nI op)), some (.int (nI k)), some (.int (nI (op + k))), none] [] σ3 = bm_run S (D + 4) 63 162 [some (.ref 25), some (.int (nI op)), some (.int (nI k)), some (.int (nI (op + k))), some (.int (trI code))] [] σ3 → ClM S (D + 4) T n K 63 [.ref 25, .int (nI op)] (bdz (if cpz (qN T n j2) = 0 then rfz (qN T n) j2 2 else bdz (pz time (qN T n) (vN T n) (K + 1) f 3 (op + k) (j2 + 1) C2) (fun j2b C2b => Sum.inl (j2b, C2b ++ [cpz (qN T n j2)]))) (fun j C1 => Sum.inl (j, C1 ++ List.replicate k 3006))) σ := by
      intro code e0 e1 e21 run
      have jK : j2 < K := lt_K hK z2 e21
      obtain ⟨σ4, k51, cT4, f4, y4⟩ := c51 (S := S) (d := D + 3) hKn jK n1
      obtain ⟨b5, σ5, k65, f5, o5⟩ := hc f 3 (op + k) (j2 + 1) C2 σ4 (by omega) (Or.inr rfl) (by omega) (by unfold muz; omega) (by omega) (by omega) cT4 (y4 C2 n2) (f4.t (f3.t ht1))
      replace k65 : bm_call S (D + 3) 60 [.ref 25, .int 2, .int (nI (op + k))] σ4 = some (some (.int b5), σ5) := k65
      rw [e0, if_neg e1]
      cases hy : pz time (qN T n) (vN T n) (K + 1) f 3 (op + k) (j2 + 1) C2 with
      | inr a =>
        obtain ⟨w, j3⟩ := a
        rw [hy] at o5
        obtain ⟨rfl, w1⟩ := o5
        refine ⟨0, σ5, g0.trans (run.trans ?_), ((x6.tr f3).tr f4).tr f5, rfl, w1⟩
        rw [g63_162]
        simp (decide := true) only [bm_run_ite, Option.toList_some, Option.bind_some, Option.toList_some, Option.toList_none, List.cons_append, List.nil_append, List.append_nil, eq_self, not_true_eq_false, not_false_eq_true, ite_true, ite_false, ↓reduceIte, Nat.reduceLT, Nat.reduceEqDiff, Nat.reduceAdd, or_true, true_or, or_false, false_or, k51, g63_166, k65, g63_172, g63_175]
      | inl a =>
        obtain ⟨j3, C3⟩ := a
        rw [hy] at o5
        obtain ⟨rfl, w1, w2, w3⟩ := o5
        obtain ⟨y5, y6, E2, y7, y8⟩ := pz_gr (time := time) (v := vN T n) (R := K + 1) hK f 3 (op + k) (j2 + 1) C2 (by omega) j3 C3 hy
        have lC : C3.length + 1 + k ≤ j3 := by rw [y7, z3]; simp only [List.length_append]; omega
        obtain ⟨σ6, k4, c6, f6, y9⟩ := c4 (S := S) (d := D + 3) (T := T) (n := n) (K := K) w2 (by omega) code
        rw [bdz_inl, bdz_inl]
        refine fin j3 (C3 ++ [code]) σ6 (some (.int (nI (op + k)))) (some (.int (trI code))) y6 (by rw [List.length_append]; exact lC) (y9 j3 w1) c6 ((((x6.tr f3).tr f4).tr f5).tr f6) (g0.trans (run.trans ?_))
        rw [g63_162]
        simp (decide := true) only [bm_run_ite, Option.toList_some, Option.bind_some, Option.toList_some, Option.toList_none, List.cons_append, List.nil_append, List.append_nil, eq_self, not_true_eq_false, not_false_eq_true, ite_true, ite_false, ↓reduceIte, Nat.reduceLT, Nat.reduceEqDiff, Nat.reduceAdd, or_true, true_or, or_false, false_or, k51, g63_166, k65, g63_172, g63_177, k4]
    have q3 : trI 3003 = Int32.ofInt (-13) := by decide
    have q4 : trI 3004 = Int32.ofInt (-14) := by decide
    have q5 : trI 3005 = Int32.ofInt (-15) := by decide
    by_cases a1 : qN T n j2 = 32
    · rw [a1, v32] at d9
      refine cmp 3003 (by rw [a1]; decide) (by decide) (by rw [a1]; decide) ?_
      rw [g63_108, q3]
      simp (decide := true) only [bm_run_ite, Option.toList_some, Option.bind_some, Option.toList_some, Option.toList_none, List.cons_append, List.nil_append, List.append_nil, eq_self, not_true_eq_false, not_false_eq_true, ite_true, ite_false, ↓reduceIte, Nat.reduceLT, Nat.reduceEqDiff, Nat.reduceAdd, or_true, true_or, or_false, false_or, d9, g63_117, g63_138]
    have m1 := ne2 32 (by decide) a1
    rw [v32, ← d9] at m1
    by_cases a2 : qN T n j2 = 33
    · rw [a2, v33] at d9
      refine cmp 3004 (by rw [a2]; decide) (by decide) (by rw [a2]; decide) ?_
      rw [g63_108, q4]
      simp (decide := true) only [bm_run_ite, Option.toList_some, Option.bind_some, Option.toList_some, Option.toList_none, List.cons_append, List.nil_append, List.append_nil, eq_self, not_true_eq_false, not_false_eq_true, ite_true, ite_false, ↓reduceIte, Nat.reduceLT, Nat.reduceEqDiff, Nat.reduceAdd, or_true, true_or, or_false, false_or, d9, g63_122, g63_131, g63_138]
    have m2 := ne2 33 (by decide) a2
    rw [v33, ← d9] at m2
    by_cases a3 : qN T n j2 = 34
    · rw [a3, v34] at d9
      refine cmp 3005 (by rw [a3]; decide) (by decide) (by rw [a3]; decide) ?_
      rw [g63_108, q5]
      simp (decide := true) only [bm_run_ite, Option.toList_some, Option.bind_some, Option.toList_some, Option.toList_none, List.cons_append, List.nil_append, List.append_nil, eq_self, not_true_eq_false, not_false_eq_true, ite_true, ite_false, ↓reduceIte, Nat.reduceLT, Nat.reduceEqDiff, Nat.reduceAdd, or_true, true_or, or_false, false_or, d9, g63_122, g63_136, g63_138, g63_147]
    have m3 := ne2 34 (by decide) a3
    rw [v34, ← d9] at m3
    have e0 : cpz (qN T n j2) = 0 := by unfold cpz; rw [if_neg a1, if_neg a2, if_neg a3]
    obtain ⟨σ4, k52, y4, f4⟩ := c52 (S := S) (d := D + 3) (w := 2) hKn z2 n1
    rw [if_pos e0]
    refine ⟨0, σ4, g0.trans ?_, (x6.tr f3).tr f4, rfl, y4⟩
    rw [g63_108]
    simp (decide := true) only [bm_run_ite, Option.toList_some, Option.bind_some, Option.toList_some, Option.toList_none, List.cons_append, List.nil_append, List.append_nil, eq_self, not_true_eq_false, not_false_eq_true, ite_true, ite_false, ↓reduceIte, Nat.reduceLT, Nat.reduceEqDiff, Nat.reduceAdd, or_true, true_or, or_false, false_or, m1, g63_122, m2, g63_136, g63_138, g63_147, m3, g63_156, k52, g63_161, if_true]
/-- the class reads as both read -/
theorem ClRd (hK : tkK (qN T n) K) (hKn : K ≤ 900) (hv : ∀ i, i ≤ K → qN T n i = 20 → trI (vN T n i) = vN T n i) : ∀ f d lvl op i C σ, lvl = 0 ∨ lvl = 1 ∨ lvl = 3 ∨ lvl = 4 → op ≤ 6 → muz lvl op < f → i ≤ K → C.length ≤ i → ClT T n K i σ → ClC C σ → σ.1 25 11 = bI time → ClM S (d + 2 * f + 8) T n K 60 [.ref 25, .int (nI (ofz lvl)), .int (nI op)] (pz time (qN T n) (vN T n) (K + 1) f lvl op i C) σ := by
  intro f
  induction f using Nat.strongRecOn with
  | _ f ih =>
    intro d lvl op i C σ hl ho hf hi hC c cc ht
    cases f with
    | zero => exact absurd hf (Nat.not_lt_zero _)
    | succ f =>
      -- a part
      have part : ∀ i C σ, i ≤ K → C.length ≤ i → ClT T n K i σ → ClC C σ → σ.1 25 11 = bI time → ClM S (d + 2 * f + 9) T n K 62 [.ref 25, .int (nI (ofz lvl)), .int (nI op)] (pz time (qN T n) (vN T n) (K + 1) f (lvl + 1) op i C) σ := by
        intro i C σ hi hC c cc ht
        have lift : ∀ m As (pc : Nat), ClM S (d + 2 * f + 8) T n K m As (pz time (qN T n) (vN T n) (K + 1) f (lvl + 1) op i C) σ → (∀ b σ1, b = 0 ∨ b = 1 → bm_call S (d + 2 * f + 8) m As σ = some (some (.int b), σ1) → bm_call S (d + 2 * f + 9) 62 [.ref 25, .int (nI (ofz lvl)), .int (nI op)] σ = some (some (.int b), σ1)) → ClM S (d + 2 * f + 9) T n K 62 [.ref 25, .int (nI (ofz lvl)), .int (nI op)] (pz time (qN T n) (vN T n) (K + 1) f (lvl + 1) op i C) σ := by
          rintro m As _ ⟨b, σ1, k1, f1, o1⟩ run
          have bb : b = 0 ∨ b = 1 := by
            cases hx : pz time (qN T n) (vN T n) (K + 1) f (lvl + 1) op i C with
            | inl a => rw [hx] at o1; exact Or.inr o1.1
            | inr a => rw [hx] at o1; exact Or.inl o1.1
          exact ⟨b, σ1, run b σ1 bb k1, f1, o1⟩
        unfold muz at hf
        rcases hl with rfl | rfl | rfl | rfl
        · refine lift 60 _ 0 (ih f (by omega) d 1 op i C σ (by omega) ho (by unfold muz; omega) hi hC c cc ht) (fun b σ1 bb k1 => ?_)
          replace k1 : bm_call S (d + 2 * f + 8) 60 [.ref 25, .int 1, .int (nI op)] σ = some (some (.int b), σ1) := k1
          show bm_call S (d + 2 * f + 9) 62 [.ref 25, .int 0, .int (nI op)] σ = _
          simp (decide := true) only [e62, g62_0, g62_28, g62_34, bm_run_ite, Option.toList_some, Option.bind_some, Option.toList_some, Option.toList_none, List.cons_append, List.nil_append, List.append_nil, eq_self, not_true_eq_false, not_false_eq_true, ite_true, ite_false, ↓reduceIte, Nat.reduceLT, Nat.reduceEqDiff, Nat.reduceAdd, or_true, true_or, or_false, false_or, k1, bb, if_true]
        · obtain ⟨g, rfl⟩ : ∃ g, f = g + 1 := ⟨f - 1, by omega⟩
          refine lift 63 [.ref 25, .int (nI op)] 0 (c63t (D := d + 2 * (g + 1) + 7) hK hKn (by omega) ho (by unfold muz; omega) hi hC c cc ht (fun f2 lvl op i C σ h1 h2 h3 h4 h5 h6 h7 h8 h9 => ?_)) (fun b σ1 bb k1 => ?_)
          · have := ih f2 (by omega) (d + 2 * (g + 1) + 7 - (2 * f2 + 8)) lvl op i C σ (by omega) h3 h4 h5 h6 h7 h8 h9
            rw [show d + 2 * (g + 1) + 7 - (2 * f2 + 8) + 2 * f2 + 8 = d + 2 * (g + 1) + 7 by omega] at this
            exact this
          · show bm_call S (d + 2 * (g + 1) + 9) 62 [.ref 25, .int 1, .int (nI op)] σ = _
            simp (decide := true) only [e62, g62_0, g62_35, g62_40, bm_run_ite, Option.toList_some, Option.bind_some, Option.toList_some, Option.toList_none, List.cons_append, List.nil_append, List.append_nil, eq_self, not_true_eq_false, not_false_eq_true, ite_true, ite_false, ↓reduceIte, Nat.reduceLT, Nat.reduceEqDiff, Nat.reduceAdd, or_true, true_or, or_false, false_or, k1, bb, if_true]
        · refine lift 60 _ 0 (ih f (by omega) d 4 op i C σ (by omega) ho (by unfold muz; omega) hi hC c cc ht) (fun b σ1 bb k1 => ?_)
          replace k1 : bm_call S (d + 2 * f + 8) 60 [.ref 25, .int 3, .int (nI op)] σ = some (some (.int b), σ1) := k1
          show bm_call S (d + 2 * f + 9) 62 [.ref 25, .int 2, .int (nI op)] σ = _
          simp (decide := true) only [e62, g62_0, g62_41, g62_47, bm_run_ite, Option.toList_some, Option.bind_some, Option.toList_some, Option.toList_none, List.cons_append, List.nil_append, List.append_nil, eq_self, not_true_eq_false, not_false_eq_true, ite_true, ite_false, ↓reduceIte, Nat.reduceLT, Nat.reduceEqDiff, Nat.reduceAdd, or_true, true_or, or_false, false_or, k1, bb, if_true]
        · obtain ⟨g, rfl⟩ : ∃ g, f = g + 1 := ⟨f - 1, by omega⟩
          refine lift 64 [.ref 25, .int (nI op)] 0 (c64t (D := d + 2 * (g + 1) + 7) hK hKn (by omega) ho hi hC c cc ht (fun o6 i C σ h5 h6 h7 h8 h9 => ?_) hv) (fun b σ1 bb k1 => ?_)
          · have := ih g (by omega) (d + 1) 3 (op + 1) i C σ (by omega) (by omega) (by unfold muz; omega) h5 h6 h7 h8 h9
            rw [show d + 1 + 2 * g + 8 = d + 2 * (g + 1) + 7 by omega] at this
            exact this
          · show bm_call S (d + 2 * (g + 1) + 9) 62 [.ref 25, .int 3, .int (nI op)] σ = _
            simp (decide := true) only [e62, g62_0, g62_48, g62_53, bm_run_ite, Option.toList_some, Option.bind_some, Option.toList_some, Option.toList_none, List.cons_append, List.nil_append, List.append_nil, eq_self, not_true_eq_false, not_false_eq_true, ite_true, ite_false, ↓reduceIte, Nat.reduceLT, Nat.reduceEqDiff, Nat.reduceAdd, or_true, true_or, or_false, false_or, k1, bb, if_true]
      obtain ⟨b, σ1, k1, f1, o1⟩ := part i C σ hi hC c cc ht
      have gr : ∀ i C, i ≤ K → grz i C K (pz time (qN T n) (vN T n) (K + 1) f (lvl + 1) op i C) := fun i C hi => pz_gr hK f (lvl + 1) op i C hi
      rw [pz, if_neg (by omega), if_neg (by omega)]
      cases hx : pz time (qN T n) (vN T n) (K + 1) f (lvl + 1) op i C with
      | inl a =>
        obtain ⟨j, C1⟩ := a
        rw [hx] at o1
        obtain ⟨rfl, n1, n2, n3⟩ := o1
        obtain ⟨z1, z2, _⟩ := gr i C hi j C1 hx
        obtain ⟨b2, σ2, k2, f2, o2⟩ := c60l (D := d + 2 * f + 9) hK hKn hl (by omega) gr part (K + 1) j C1 σ1 j none z2 (by omega) (Nat.le_refl _) n3 n1 n2 (f1.t ht)
        refine ⟨b2, σ2, ?_, f1.tr f2, o2⟩
        have e8 := n1.2.1
        show bm_call S (d + 2 * f + 10) 60 _ σ = _
        rw [← k2]
        simp (decide := true) only [e60, g60_0, g60_6, g60_11, bm_run_ite, Option.toList_some, Option.bind_some, Option.toList_some, Option.toList_none, List.cons_append, List.nil_append, List.append_nil, eq_self, not_true_eq_false, not_false_eq_true, ite_true, ite_false, ↓reduceIte, Nat.reduceLT, Nat.reduceEqDiff, Nat.reduceAdd, or_true, true_or, or_false, false_or, k1, e8]
      | inr a =>
        obtain ⟨w, j⟩ := a
        rw [hx] at o1
        obtain ⟨rfl, n1⟩ := o1
        refine ⟨0, σ1, ?_, f1, rfl, n1⟩
        show bm_call S (d + 2 * f + 10) 60 _ σ = _
        simp (decide := true) only [e60, g60_0, g60_6, g60_9, bm_run_ite, Option.toList_some, Option.bind_some, Option.toList_some, Option.toList_none, List.cons_append, List.nil_append, List.append_nil, eq_self, not_true_eq_false, not_false_eq_true, ite_true, ite_false, ↓reduceIte, Nat.reduceLT, Nat.reduceEqDiff, Nat.reduceAdd, or_true, true_or, or_false, false_or, k1]
end CLEW
