theorem bdz_inl {j : Nat} {C : List Int32} (g : Nat → List Int32 → pzR) : bdz (Sum.inl (j, C)) g = g j C := rfl
theorem bdz_inr {w : Int32} {j : Nat} (g : Nat → List Int32 → pzR) : bdz (Sum.inr (w, j)) g = Sum.inr (w, j) := rfl
section CLEV
variable {S : am_S} {σ : bm_S} {T : Nat → Int32} {n K : Nat} {time : Bool}
theorem trop {lvl q : Nat} (h : ¬ opz lvl q = 0) : ¬ trI (opz lvl q) = Int32.ofInt (-1) := by
  have : opz lvl q = 0 ∨ opz lvl q = 3008 ∨ opz lvl q = 3007 ∨ opz lvl q = 3000 ∨ opz lvl q = 3001 ∨ opz lvl q = 3002 := by
    unfold opz
    (repeat' split) <;> simp
  rcases this with z | z | z | z | z | z <;> first | exact absurd z h | (rw [z]; decide)
/-- parts of one kind, joined: the class's loop -/
theorem c60l (hK : tkK (qN T n) K) (hKn : K ≤ 900) {lvl op D : Nat} {gc : Nat → List Int32 → pzR} (hl : lvl = 0 ∨ lvl = 1 ∨ lvl = 3 ∨ lvl = 4) (hD : 1 ≤ D) (gr : ∀ i C, i ≤ K → grz i C K (gc i C)) (hc : ∀ i C σ, i ≤ K → C.length ≤ i → ClT T n K i σ → ClC C σ → σ.1 25 11 = bI time → ClM S D T n K 62 [.ref 25, .int (nI (ofz lvl)), .int (nI op)] (gc i C) σ) : ∀ R j C σ cnt o4, j ≤ K → K + 1 ≤ j + R → cnt ≤ j → C.length ≤ j → ClT T n K j σ → ClC C σ → σ.1 25 11 = bI time → ∃ b σ1, bm_run S (D + 1) 60 16 [some (.ref 25), some (.int (nI (ofz lvl))), some (.int (nI op)), some (.int (nI cnt)), o4] [] σ = some (some (.int b), σ1) ∧ Frd σ σ1 ∧ ClO T n K (lpz (qN T n) lvl gc R j C) b σ1 := by
  obtain ⟨D, rfl⟩ : ∃ e, D = e + 1 := ⟨D - 1, by omega⟩
  intro R
  induction R with
  | zero => intro j C σ cnt o4 hj hR; omega
  | succ R ih =>
    intro j C σ cnt o4 hj hR hcn hC c cc ht
    have lt : ¬ nI (K + 1) ≤ nI cnt := nI_ge (by omega) (by omega)
    have k61 := c61 (S := S) (d := D + 1) hl c
    have e7 := c.1.1.1
    by_cases q : opz lvl (qN T n j) = 0
    · rw [if_pos q] at k61
      rw [lpz, if_pos q]
      refine ⟨1, σ, ?_, Frd.rfl σ, rfl, c, cc, hC⟩
      rw [g60_16]
      simp (decide := true) only [bm_run_ite, Option.toList_some, Option.bind_some, Option.toList_some, Option.toList_none, List.cons_append, List.nil_append, List.append_nil, eq_self, not_true_eq_false, not_false_eq_true, ite_true, ite_false, ↓reduceIte, Nat.reduceLT, Nat.reduceEqDiff, Nat.reduceAdd, or_true, true_or, or_false, false_or, e7, lt, g60_24, k61, g60_29, g60_37, g60_70]
    · have jK : j < K := lt_K hK hj (fun z => q (by rw [z]; exact opz_21 lvl))
      have nm := trop q
      rw [if_neg q] at k61
      obtain ⟨σ2, k51, c2, f2, y2⟩ := c51 (S := S) (d := D + 1) hKn jK c
      obtain ⟨b, σ3, k62, f3, o3⟩ := hc (j + 1) C σ2 (by omega) (by omega) c2 (y2 C cc) (f2.t ht)
      have gj := gr (j + 1) C (by omega)
      rw [lpz, if_neg q]
      generalize hop : opz lvl (qN T n j) = code at *
      cases hx : gc (j + 1) C with
      | inl a =>
        obtain ⟨j2, C2⟩ := a
        rw [hx] at o3
        obtain ⟨rfl, n1, n2, n3⟩ := o3
        obtain ⟨z1, z2, E, z3, z4⟩ := gj j2 C2 hx
        have lC : C2.length + 1 ≤ j2 := by rw [z3, List.length_append]; omega
        obtain ⟨σ4, k4, c4b, f4, y4⟩ := c4 (S := S) (d := D + 1) (T := T) (n := n) (K := K) n2 (by omega) code
        obtain ⟨b5, σ5, k5, f5, o5⟩ := ih j2 (C2 ++ [code]) σ4 (cnt + 1) (some (.int (trI code))) z2 (by omega) (by omega) (by rw [List.length_append]; exact lC) (y4 j2 n1) c4b (f4.t (f3.t (f2.t ht)))
        refine ⟨b5, σ5, ?_, ((f2.tr f3).tr f4).tr f5, o5⟩
        rw [← k5, g60_16]
        simp (decide := true) only [bm_run_ite, Option.toList_some, Option.bind_some, Option.toList_some, Option.toList_none, List.cons_append, List.nil_append, List.append_nil, eq_self, not_true_eq_false, not_false_eq_true, ite_true, ite_false, ↓reduceIte, Nat.reduceLT, Nat.reduceEqDiff, Nat.reduceAdd, or_true, true_or, or_false, false_or, e7, lt, g60_24, k61, g60_29, nm, g60_40, k51, g60_44, k62, g60_50, g60_55, k4, g60_64, nI_1]
      | inr a =>
        obtain ⟨w, j2⟩ := a
        rw [hx] at o3
        obtain ⟨rfl, n1⟩ := o3
        refine ⟨0, σ3, ?_, f2.tr f3, rfl, n1⟩
        rw [g60_16]
        simp (decide := true) only [bm_run_ite, Option.toList_some, Option.bind_some, Option.toList_some, Option.toList_none, List.cons_append, List.nil_append, List.append_nil, eq_self, not_true_eq_false, not_false_eq_true, ite_true, ite_false, ↓reduceIte, Nat.reduceLT, Nat.reduceEqDiff, Nat.reduceAdd, or_true, true_or, or_false, false_or, e7, lt, g60_24, k61, g60_29, nm, g60_40, k51, g60_44, k62, g60_50, g60_53]
/-- an atom, in the class -/
theorem c64t (hK : tkK (qN T n) K) (hKn : K ≤ 900) {D f op i : Nat} {C : List Int32} {σ : bm_S} (hD : 3 ≤ D) (ho : op ≤ 6) (hi : i ≤ K) (hCi : C.length ≤ i) (c : ClT T n K i σ) (cc : ClC C σ) (ht : σ.1 25 11 = bI time) (hc : op < 6 → ∀ i C σ, i ≤ K → C.length ≤ i → ClT T n K i σ → ClC C σ → σ.1 25 11 = bI time → ClM S D T n K 60 [.ref 25, .int 2, .int (nI (op + 1))] (pz time (qN T n) (vN T n) (K + 1) f 3 (op + 1) i C) σ) (hv : ∀ i, i ≤ K → qN T n i = 20 → trI (vN T n i) = vN T n i) : ClM S (D + 1) T n K 64 [.ref 25, .int (nI op)] (pz time (qN T n) (vN T n) (K + 1) (f + 1) 5 op i C) σ := by
  obtain ⟨D, rfl⟩ : ∃ e, D = e + 3 := ⟨D - 3, by omega⟩
  have c9 := c.2.2
  have hq := q_lt (T := T) (n := n) (i := i)
  have kv : kcT 20 = 2 ∧ kcT 28 = 40 ∧ kcT 10 = 211 ∧ kcT 11 = 212 ∧ kcT 12 = 213 ∧ kcT 13 = 214 ∧ kcT 14 = 215 ∧ kcT 15 = 216 ∧ kcT 29 = 41 := by decide +kernel
  obtain ⟨v20, v28, v10, v11, v12, v13, v14, v15, v29⟩ := kv
  obtain ⟨⟨_, _⟩, ⟨b1, b2⟩, _⟩ := t39
  have ne : ∀ w, w < 35 → ¬ qN T n i = w → ¬ kcT (qN T n i) = kcT w := fun w hw a z => a ((kc_inj _ hq w hw).mp z)
  obtain ⟨σr, kr, xr, fr⟩ := c52 (S := S) (d := D + 3) (w := 2) hKn hi c
  have ref : bm_call S (D + 4) 64 [.ref 25, .int (nI op)] σ = some (some (.int 0), σr) → ClM S (D + 4) T n K 64 [.ref 25, .int (nI op)] (rfz (qN T n) i 2) σ := fun run => ⟨0, σr, run, fr, rfl, xr⟩
  have tk : ∀ x : Int32, ¬ qN T n i = 21 → (∀ σ1, bm_call S (D + 3) 65 [.ref 25, .int (trI x)] σ = some (some (.int 1), σ1) → bm_call S (D + 4) 64 [.ref 25, .int (nI op)] σ = some (some (.int 1), σ1)) → ClM S (D + 4) T n K 64 [.ref 25, .int (nI op)] (Sum.inl (i + 1, C ++ [x])) σ := by
    intro x h21 run
    obtain ⟨b, σ1, k1, f1, o1⟩ := c65 (S := S) (d := D + 2) hKn (lt_K hK hi h21) hCi c cc x
    obtain ⟨rfl, o2⟩ := o1
    exact ⟨1, σ1, run σ1 k1, f1, rfl, o2⟩
  have tr0 : trI 1000 = Int32.ofInt (-1) := by decide
  have tr1 : trI 1001 = Int32.ofInt (-2) := by decide
  have tr2 : trI 1002 = Int32.ofInt (-3) := by decide
  have tr3 : trI 1003 = Int32.ofInt (-3) := by decide
  have tr4 : trI 1004 = Int32.ofInt (-4) := by decide
  have tr5 : trI 1005 = Int32.ofInt (-5) := by decide
  rw [pz, if_pos rfl]
  by_cases a20 : qN T n i = 20
  · rw [if_pos a20]
    rw [a20, v20] at c9
    have e40 : bm_call S (D + 3) 158 [.ref 40, .int (nI i)] σ = some (some (.int (vN T n i)), σ) := by rw [at_row b1 b2 (by omega) (by decide), (c.1.2 i (by omega)).2.1]; rfl
    have e8 := c.2.1
    refine tk (vN T n i) (by rw [a20]; decide) (fun σ1 k1 => ?_)
    rw [hv i hi a20] at k1
    simp (decide := true) only [e64, g64_0, g64_122, g64_134, g64_137, bm_run_ite, Option.toList_some, Option.bind_some, Option.toList_some, Option.toList_none, List.cons_append, List.nil_append, List.append_nil, eq_self, not_true_eq_false, not_false_eq_true, ite_true, ite_false, ↓reduceIte, Nat.reduceLT, Nat.reduceEqDiff, Nat.reduceAdd, or_true, true_or, or_false, false_or, c9, e8, e40, k1, if_true]
  rw [if_neg a20]
  by_cases a10 : qN T n i = 10
  · rw [a10, v10] at c9
    have ea : awz time (qN T n i) = 1000 := by rw [a10]; rfl
    rw [ea, if_pos (by decide)]
    refine tk 1000 (by rw [a10]; decide) (fun σ1 k1 => ?_)
    rw [tr0] at k1
    simp (decide := true) only [e64, g64_0, g64_138, g64_143, bm_run_ite, Option.toList_some, Option.bind_some, Option.toList_some, Option.toList_none, List.cons_append, List.nil_append, List.append_nil, eq_self, not_true_eq_false, not_false_eq_true, ite_true, ite_false, ↓reduceIte, Nat.reduceLT, Nat.reduceEqDiff, Nat.reduceAdd, or_true, true_or, or_false, false_or, c9, k1, if_true]
  by_cases a11 : qN T n i = 11
  · rw [a11, v11] at c9
    have ea : awz time (qN T n i) = 1001 := by rw [a11]; rfl
    rw [ea, if_pos (by decide)]
    refine tk 1001 (by rw [a11]; decide) (fun σ1 k1 => ?_)
    rw [tr1] at k1
    simp (decide := true) only [e64, g64_0, g64_144, g64_150, bm_run_ite, Option.toList_some, Option.bind_some, Option.toList_some, Option.toList_none, List.cons_append, List.nil_append, List.append_nil, eq_self, not_true_eq_false, not_false_eq_true, ite_true, ite_false, ↓reduceIte, Nat.reduceLT, Nat.reduceEqDiff, Nat.reduceAdd, or_true, true_or, or_false, false_or, c9, k1, if_true]
  by_cases a12 : qN T n i = 12
  · rw [a12, v12] at c9
    cases time
    · have ea : awz false (qN T n i) = 1002 := by rw [a12]; rfl
      rw [ea, if_pos (by decide)]
      refine tk 1002 (by rw [a12]; decide) (fun σ1 k1 => ?_)
      rw [tr2] at k1
      simp (decide := true) only [e64, g64_0, g64_151, g64_166, g64_172, bm_run_ite, Option.toList_some, Option.bind_some, Option.toList_some, Option.toList_none, List.cons_append, List.nil_append, List.append_nil, eq_self, not_true_eq_false, not_false_eq_true, ite_true, ite_false, ↓reduceIte, Nat.reduceLT, Nat.reduceEqDiff, Nat.reduceAdd, or_true, true_or, or_false, false_or, c9, ht, bI_ite, k1, if_true]
    · have ea : awz true (qN T n i) = 0 := by rw [a12]; rfl
      rw [ea, if_neg (by decide), if_neg (by rw [a12]; decide)]
      refine ref ?_
      simp (decide := true) only [e64, g64_0, g64_151, g64_158, g64_163, g64_172, bm_run_ite, Option.toList_some, Option.bind_some, Option.toList_some, Option.toList_none, List.cons_append, List.nil_append, List.append_nil, eq_self, not_true_eq_false, not_false_eq_true, ite_true, ite_false, ↓reduceIte, Nat.reduceLT, Nat.reduceEqDiff, Nat.reduceAdd, or_true, true_or, or_false, false_or, c9, ht, bI_ite, kr, if_true]
  by_cases a13 : qN T n i = 13
  · rw [a13, v13] at c9
    cases time
    · have ea : awz false (qN T n i) = 0 := by rw [a13]; rfl
      rw [ea, if_neg (by decide), if_neg (by rw [a13]; decide)]
      refine ref ?_
      simp (decide := true) only [e64, g64_0, g64_173, g64_189, g64_194, bm_run_ite, Option.toList_some, Option.bind_some, Option.toList_some, Option.toList_none, List.cons_append, List.nil_append, List.append_nil, eq_self, not_true_eq_false, not_false_eq_true, ite_true, ite_false, ↓reduceIte, Nat.reduceLT, Nat.reduceEqDiff, Nat.reduceAdd, or_true, true_or, or_false, false_or, c9, ht, bI_ite, kr, if_true]
    · have ea : awz true (qN T n i) = 1003 := by rw [a13]; rfl
      rw [ea, if_pos (by decide)]
      refine tk 1003 (by rw [a13]; decide) (fun σ1 k1 => ?_)
      rw [tr3] at k1
      simp (decide := true) only [e64, g64_0, g64_173, g64_180, g64_186, g64_194, bm_run_ite, Option.toList_some, Option.bind_some, Option.toList_some, Option.toList_none, List.cons_append, List.nil_append, List.append_nil, eq_self, not_true_eq_false, not_false_eq_true, ite_true, ite_false, ↓reduceIte, Nat.reduceLT, Nat.reduceEqDiff, Nat.reduceAdd, or_true, true_or, or_false, false_or, c9, ht, bI_ite, k1, if_true]
  by_cases a14 : qN T n i = 14
  · rw [a14, v14] at c9
    cases time
    · have ea : awz false (qN T n i) = 0 := by rw [a14]; rfl
      rw [ea, if_neg (by decide), if_neg (by rw [a14]; decide)]
      refine ref ?_
      simp (decide := true) only [e64, g64_0, g64_195, g64_211, g64_216, bm_run_ite, Option.toList_some, Option.bind_some, Option.toList_some, Option.toList_none, List.cons_append, List.nil_append, List.append_nil, eq_self, not_true_eq_false, not_false_eq_true, ite_true, ite_false, ↓reduceIte, Nat.reduceLT, Nat.reduceEqDiff, Nat.reduceAdd, or_true, true_or, or_false, false_or, c9, ht, bI_ite, kr, if_true]
    · have ea : awz true (qN T n i) = 1004 := by rw [a14]; rfl
      rw [ea, if_pos (by decide)]
      refine tk 1004 (by rw [a14]; decide) (fun σ1 k1 => ?_)
      rw [tr4] at k1
      simp (decide := true) only [e64, g64_0, g64_195, g64_202, g64_208, g64_216, bm_run_ite, Option.toList_some, Option.bind_some, Option.toList_some, Option.toList_none, List.cons_append, List.nil_append, List.append_nil, eq_self, not_true_eq_false, not_false_eq_true, ite_true, ite_false, ↓reduceIte, Nat.reduceLT, Nat.reduceEqDiff, Nat.reduceAdd, or_true, true_or, or_false, false_or, c9, ht, bI_ite, k1, if_true]
  by_cases a15 : qN T n i = 15
  · rw [a15, v15] at c9
    cases time
    · have ea : awz false (qN T n i) = 0 := by rw [a15]; rfl
      rw [ea, if_neg (by decide), if_neg (by rw [a15]; decide)]
      refine ref ?_
      simp (decide := true) only [e64, g64_0, g64_217, g64_233, g64_238, bm_run_ite, Option.toList_some, Option.bind_some, Option.toList_some, Option.toList_none, List.cons_append, List.nil_append, List.append_nil, eq_self, not_true_eq_false, not_false_eq_true, ite_true, ite_false, ↓reduceIte, Nat.reduceLT, Nat.reduceEqDiff, Nat.reduceAdd, or_true, true_or, or_false, false_or, c9, ht, bI_ite, kr, if_true]
    · have ea : awz true (qN T n i) = 1005 := by rw [a15]; rfl
      rw [ea, if_pos (by decide)]
      refine tk 1005 (by rw [a15]; decide) (fun σ1 k1 => ?_)
      rw [tr5] at k1
      simp (decide := true) only [e64, g64_0, g64_217, g64_224, g64_230, g64_238, bm_run_ite, Option.toList_some, Option.bind_some, Option.toList_some, Option.toList_none, List.cons_append, List.nil_append, List.append_nil, eq_self, not_true_eq_false, not_false_eq_true, ite_true, ite_false, ↓reduceIte, Nat.reduceLT, Nat.reduceEqDiff, Nat.reduceAdd, or_true, true_or, or_false, false_or, c9, ht, bI_ite, k1, if_true]
  have ea : awz time (qN T n i) = 0 := by unfold awz; simp [a10, a11, a12, a13, a14, a15]
  rw [ea, if_neg (by decide)]
  by_cases a28 : qN T n i = 28
  · rw [if_pos a28]
    rw [a28, v28] at c9
    have iK : i < K := lt_K hK hi (by rw [a28]; decide)
    by_cases o6 : 6 ≤ op
    · rw [if_pos o6]
      have n6 : ¬ nI op < 6 := nI_nlt (b := 6) o6 (by omega)
      obtain ⟨σ4, k4, x4, f4⟩ := c52 (S := S) (d := D + 3) (w := 4) hKn hi c
      rw [if_neg (by rw [a28]; decide)] at x4
      refine ⟨0, σ4, ?_, f4, rfl, x4⟩
      simp (decide := true) only [e64, g64_0, g64_80, g64_86, g64_91, bm_run_ite, Option.toList_some, Option.bind_some, Option.toList_some, Option.toList_none, List.cons_append, List.nil_append, List.append_nil, eq_self, not_true_eq_false, not_false_eq_true, ite_true, ite_false, ↓reduceIte, Nat.reduceLT, Nat.reduceEqDiff, Nat.reduceAdd, or_true, true_or, or_false, false_or, c9, n6, k4, if_true]
    · rw [if_neg o6]
      have n6 : nI op < 6 := nI_lt (b := 6) (by omega) (by decide)
      obtain ⟨σ2, k51, c2, f2, y2⟩ := c51 (S := S) (d := D + 3) hKn iK c
      obtain ⟨b, σ3, k60, f3, o3⟩ := hc (by omega) (i + 1) C σ2 (by omega) (by omega) c2 (y2 C cc) (f2.t ht)
      cases hx : pz time (qN T n) (vN T n) (K + 1) f 3 (op + 1) (i + 1) C with
      | inl a =>
        obtain ⟨j2, C2⟩ := a
        rw [hx] at o3
        obtain ⟨rfl, n1, n2, n3⟩ := o3
        obtain ⟨z1, z2, _⟩ := pz_gr (time := time) (v := vN T n) (R := K + 1) hK f 3 (op + 1) (i + 1) C (by omega) j2 C2 hx
        obtain ⟨b4, σ4, k53, f4, o4⟩ := c53 (S := S) (d := D + 2) hK hKn z2 (w := 29) (by decide) (by decide) n3 n1 n2
        rw [v29] at k53
        rw [bdz_inl]
        have bb : b4 = 0 ∨ b4 = 1 := by
          unfold tkz at o4
          split at o4
          · exact Or.inr o4.1
          · exact Or.inl o4.1
        refine ⟨b4, σ4, ?_, (f2.tr f3).tr f4, o4⟩
        rcases bb with rfl | rfl <;> simp (decide := true) only [e64, g64_0, g64_80, g64_92, g64_96, g64_104, g64_107, g64_113, g64_116, g64_120, g64_121, bm_run_ite, Option.toList_some, Option.bind_some, Option.toList_some, Option.toList_none, List.cons_append, List.nil_append, List.append_nil, eq_self, not_true_eq_false, not_false_eq_true, ite_true, ite_false, ↓reduceIte, Nat.reduceLT, Nat.reduceEqDiff, Nat.reduceAdd, or_true, true_or, or_false, false_or, c9, n6, k51, nI_1, k60, k53, if_true]
      | inr a =>
        obtain ⟨w, j2⟩ := a
        rw [hx] at o3
        obtain ⟨rfl, n1⟩ := o3
        rw [bdz_inr]
        refine ⟨0, σ3, ?_, f2.tr f3, rfl, n1⟩
        simp (decide := true) only [e64, g64_0, g64_80, g64_92, g64_96, g64_104, g64_120, g64_121, bm_run_ite, Option.toList_some, Option.bind_some, Option.toList_some, Option.toList_none, List.cons_append, List.nil_append, List.append_nil, eq_self, not_true_eq_false, not_false_eq_true, ite_true, ite_false, ↓reduceIte, Nat.reduceLT, Nat.reduceEqDiff, Nat.reduceAdd, or_true, true_or, or_false, false_or, c9, n6, k51, nI_1, k60, if_true]
  · rw [if_neg a28]
    have b1 := ne 20 (by decide) a20
    have b2 := ne 28 (by decide) a28
    have b3 := ne 10 (by decide) a10
    have b4 := ne 11 (by decide) a11
    have b5 := ne 12 (by decide) a12
    have b6 := ne 13 (by decide) a13
    have b7 := ne 14 (by decide) a14
    have b8 := ne 15 (by decide) a15
    rw [v20] at b1
    rw [v28] at b2
    rw [v10] at b3
    rw [v11] at b4
    rw [v12] at b5
    rw [v13] at b6
    rw [v14] at b7
    rw [v15] at b8
    refine ref ?_
    simp (decide := true) only [e64, g64_0, g64_239, g64_244, bm_run_ite, Option.toList_some, Option.bind_some, Option.toList_some, Option.toList_none, List.cons_append, List.nil_append, List.append_nil, eq_self, not_true_eq_false, not_false_eq_true, ite_true, ite_false, ↓reduceIte, Nat.reduceLT, Nat.reduceEqDiff, Nat.reduceAdd, or_true, true_or, or_false, false_or, c9, b1, b2, b3, b4, b5, b6, b7, b8, kr, if_true]
end CLEV
