section CLOOP
variable {S : am_S} {d : Nat} {σ : bm_S} {T : Nat → Int32} {n K : Nat} {R : Nat → Int32} {C : List Int32}
/-- one line, in the class -/
theorem c45d (hK : tkK (qN T n) K) (hKn : K ≤ 900) (hv : ∀ i, i ≤ K → qN T n i = 20 → trI (vN T n i) = vN T n i) {i : Nat} {o1 o2 o4 : Option Value} {i3 : Int32} (k : RK K i R C) (hq : ¬ qN T n i = 21) (c : ClT T n K i σ) (cc : ClC C σ) (w : CWR R σ) (e80 : ∀ l, l < 12 → R (80 + l) = 0) : ∃ b σ1, bm_run S (d + 72) 45 70 [some (.ref 25), o1, o2, some (.int i3), o4] [] σ = bm_run S (d + 72) 45 178 [some (.ref 25), o1, o2, some (.int i3), some (.int b)] [] σ1 ∧ Fln σ σ1 ∧ LCO T n K (lnz (qN T n) (vN T n) K i R C) b σ1 := by
  have kv : kcT 2 = 203 ∧ kcT 3 = 204 ∧ kcT 8 = 209 ∧ kcT 9 = 210 ∧ kcT 10 = 211 := by decide +kernel
  obtain ⟨v2, v3, v8, v9, v10⟩ := kv
  obtain ⟨⟨M, hM, eM⟩, ⟨L, hL, eL⟩, hC, hi⟩ := k
  have iK := lt_K hK hi hq
  have cM : cN (R 3) = M := by rw [eM]; exact cN_nI (by omega)
  have cL : cN (R 25) = L := by rw [eL]; exact cN_nI (by omega)
  have e9 := c.2.2
  have ne : ∀ x, x < 35 → ¬ qN T n i = x → ¬ σ.1 25 9 = kcT x := fun x hx a z => a ((kc_inj _ q_lt x hx).mp (e9.symm.trans z))
  unfold lnz
  rw [cM, cL]
  by_cases a2 : qN T n i = 2
  · rw [a2, v2] at e9
    obtain ⟨b, σ1, k1, f1, ox⟩ := c56 (S := S) (d := d + 69) (C := C) hK hKn hM iK (by rw [a2]; decide) c cc w eM
    rw [if_pos a2]
    refine ⟨b, σ1, ?_, f1, ox⟩
    rw [g45_70]
    simp (decide := true) only [bm_run_ite, Option.toList_some, Option.bind_some, Option.toList_some, Option.toList_none, List.cons_append, List.nil_append, List.append_nil, eq_self, not_true_eq_false, not_false_eq_true, ite_true, ite_false, ↓reduceIte, Nat.reduceLT, Nat.reduceEqDiff, Nat.reduceAdd, or_true, true_or, or_false, false_or, e9, g45_124, k1, g45_128]
  rw [if_neg a2]
  by_cases a3 : qN T n i = 3
  · rw [a3, v3] at e9
    obtain ⟨b, σ1, k1, f1, ox⟩ := c57 (S := S) (d := d + 69) (C := C) hK hKn hM hL iK (by rw [a3]; decide) c cc w eM eL e80
    rw [if_pos a3]
    refine ⟨b, σ1, ?_, f1, ox⟩
    rw [g45_70]
    simp (decide := true) only [bm_run_ite, Option.toList_some, Option.bind_some, Option.toList_some, Option.toList_none, List.cons_append, List.nil_append, List.append_nil, eq_self, not_true_eq_false, not_false_eq_true, ite_true, ite_false, ↓reduceIte, Nat.reduceLT, Nat.reduceEqDiff, Nat.reduceAdd, or_true, true_or, or_false, false_or, e9, g45_133, k1, g45_137]
  rw [if_neg a3]
  by_cases a8 : qN T n i = 8
  · rw [a8, v8] at e9
    obtain ⟨b, σ1, k1, f1, ox⟩ := c59 (S := S) (d := d) (C := C) hK hKn hv false iK hC c cc w
    replace k1 : bm_call S (d + 71) 59 [.ref 25, .int 0] σ = some (some (.int b), σ1) := k1
    rw [if_pos a8]
    refine ⟨b, σ1, ?_, f1, ox⟩
    rw [g45_70]
    simp (decide := true) only [bm_run_ite, Option.toList_some, Option.bind_some, Option.toList_some, Option.toList_none, List.cons_append, List.nil_append, List.append_nil, eq_self, not_true_eq_false, not_false_eq_true, ite_true, ite_false, ↓reduceIte, Nat.reduceLT, Nat.reduceEqDiff, Nat.reduceAdd, or_true, true_or, or_false, false_or, e9, g45_142, k1, g45_147]
  rw [if_neg a8]
  by_cases a9 : qN T n i = 9
  · rw [a9, v9] at e9
    obtain ⟨b, σ1, k1, f1, ox⟩ := c59 (S := S) (d := d) (C := C) hK hKn hv true iK hC c cc w
    replace k1 : bm_call S (d + 71) 59 [.ref 25, .int 1] σ = some (some (.int b), σ1) := k1
    rw [if_pos a9]
    refine ⟨b, σ1, ?_, f1, ox⟩
    rw [g45_70]
    simp (decide := true) only [bm_run_ite, Option.toList_some, Option.bind_some, Option.toList_some, Option.toList_none, List.cons_append, List.nil_append, List.append_nil, eq_self, not_true_eq_false, not_false_eq_true, ite_true, ite_false, ↓reduceIte, Nat.reduceLT, Nat.reduceEqDiff, Nat.reduceAdd, or_true, true_or, or_false, false_or, e9, g45_152, k1, g45_157]
  rw [if_neg a9]
  by_cases a10 : qN T n i = 10
  · rw [a10, v10] at e9
    obtain ⟨b, σ1, k1, f1, ox⟩ := c58 (S := S) (d := d + 69) (C := C) hK hKn iK c cc w
    rw [if_pos a10]
    refine ⟨b, σ1, ?_, f1, ox⟩
    rw [g45_70]
    simp (decide := true) only [bm_run_ite, Option.toList_some, Option.bind_some, Option.toList_some, Option.toList_none, List.cons_append, List.nil_append, List.append_nil, eq_self, not_true_eq_false, not_false_eq_true, ite_true, ite_false, ↓reduceIte, Nat.reduceLT, Nat.reduceEqDiff, Nat.reduceAdd, or_true, true_or, or_false, false_or, e9, g45_162, k1, g45_166]
  rw [if_neg a10]
  obtain ⟨σ1, k1, x1, f1⟩ := c52 (S := S) (d := d + 71) (w := 2) hKn hi c
  have n2 := ne 2 (by decide) a2
  have n3 := ne 3 (by decide) a3
  have n8 := ne 8 (by decide) a8
  have n9 := ne 9 (by decide) a9
  have n10 := ne 10 (by decide) a10
  rw [v2] at n2
  rw [v3] at n3
  rw [v8] at n8
  rw [v9] at n9
  rw [v10] at n10
  refine ⟨0, σ1, ?_, f1.ln, rfl, x1⟩
  rw [g45_70]
  simp (decide := true) only [bm_run_ite, Option.toList_some, Option.bind_some, Option.toList_some, Option.toList_none, List.cons_append, List.nil_append, List.append_nil, eq_self, not_true_eq_false, not_false_eq_true, ite_true, ite_false, ↓reduceIte, Nat.reduceLT, Nat.reduceEqDiff, Nat.reduceAdd, or_true, true_or, or_false, false_or, n2, n3, n8, n9, n10, ite_self, g45_171, k1, g45_176]
end CLOOP
