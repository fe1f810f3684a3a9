/-! nets -/
def cN (x : Int32) : Nat := x.toNatClampNeg
theorem cN_nI {k : Nat} (h : k < 2147483648) : cN (nI k) = k := nI_clamp h
def netF (D : Nat → Bool) (B : Nat → Int32) : Nat → Nat → Int32
  | 0 => fun _ => 0
  | n + 1 => if D n = true then upd (upd (netF D B n) (cN (B (32 + n))) (netF D B n (cN (B (32 + n))) - B (56 + n))) (cN (B (44 + n))) (upd (netF D B n) (cN (B (32 + n))) (netF D B n (cN (B (32 + n))) - B (56 + n)) (cN (B (44 + n))) + B (56 + n)) else netF D B n
/-- who owes and whom, as they must be -/
def GO (M L : Nat) (B : Nat → Int32) : Prop := ∀ l, l < L → ∃ a b, a < M ∧ b < M ∧ a ≠ b ∧ B (32 + l) = nI a ∧ B (44 + l) = nI b
def coF (g : Nat → Int32) : Nat → Int32 := smS (fun m => if g m < 0 then -(g m) else 0)
theorem netF_cg {D E : Nat → Bool} {B C : Nat → Int32} : ∀ {n : Nat}, (∀ l, l < n → D l = E l) → (∀ l, l < n → B (32 + l) = C (32 + l) ∧ B (44 + l) = C (44 + l) ∧ B (56 + l) = C (56 + l)) → netF D B n = netF E C n := by
  intro n
  induction n with
  | zero => intro _ _; rfl
  | succ n ih =>
    intro h1 h2
    obtain ⟨e1, e2, e3⟩ := h2 n (by omega)
    rw [netF, netF, ih (fun l hl => h1 l (by omega)) (fun l hl => h2 l (by omega)), h1 n (by omega), e1, e2, e3]
theorem wi_row (σ : bm_S) (a k : Nat) (g : Nat → Int32) (x : Int32) : bm_wi (bm_row σ a g) a k x = bm_row σ a (upd g k x) := by
  rw [bm_wi_def, bm_row_1s, bm_row_row]
theorem row_row1 (σ : bm_S) (a : Nat) (g : Nat → Int32) : (bm_row σ a g).1 a = g := bm_row_1s σ a g
section NETS
variable {S : am_S} {d : Nat} {σ : bm_S} {M L w : Nat} {B : Nat → Int32}
theorem RW.row8 (h : RW M L σ w B) (g : Nat → Int32) : RW M L (bm_row σ (w + 8) g) w B := h.of (fun b h1 h2 => bm_row_1n σ g (by omega))
theorem RW.row9 (h : RW M L σ w B) (g : Nat → Int32) : RW M L (bm_row σ (w + 9) g) w B := h.of (fun b h1 h2 => bm_row_1n σ g (by omega))
theorem c87 (h : RW M L σ w B) (g : GO M L B) (f wo : Int32) : ∃ g1, bm_call S (d + 2) 87 [.ref w, .int f, .int wo] σ = some (none, bm_row σ (w + 8) g1) ∧ ∀ i, i < M → g1 i = netF (fun l => !decide (nI l = wo) && dB B f l) B L i := by
  have hM := h.M6
  have hL := h.L12
  obtain ⟨g0, e0, p0⟩ := loop_ex (fun k (s : Nat → Int32) => bm_run S (d + 2) 87 2 [some (.ref w), some (.int f), some (.int wo), some (.int (nI k)), none, none, none] [] (bm_row σ (w + 8) s)) (fun k s => ∀ i, i < k → s i = 0) M (σ.1 (w + 8)) (fun i hi => absurd hi (by omega)) (by
    intro k s hk hp
    have h1 := h.row8 s
    refine ⟨upd s k 0, ?_, ?_⟩
    · rw [g87_2]
      simp (disch := omega) only [bm_run_ite, Option.toList_some, Option.bind_some, Option.toList_some, Option.toList_none, List.cons_append, List.nil_append, List.append_nil, eq_self, not_true_eq_false, not_false_eq_true, ite_true, ite_false, ↓reduceIte, Nat.reduceLT, Nat.reduceEqDiff, Nat.reduceAdd, or_true, true_or, or_false, false_or, nI_clamp2, nI_lt0F, nI_leT, nI_leF, nI_ltT, nI_ltF, n_leF, n_leT, nI_1, kA6, kA8, kA10, kA22, kA26, kA32, kA44, kA56, kA68, kA80, kA93, kA163, kA794, not_or, or_self, and_self, and_true, true_and, g87_0, g87_10, g87_19, g87_25, g87_27, g87_35, g87_40, g87_46, g87_49, g87_52, g87_60, g87_70, g87_80, g87_97, g87_103, g87_118, g87_124, g87_130, h1.t, h1.f0, h1.s8, wi_row]
    · intro i hi
      by_cases e : i = k
      · subst e; rw [upd_s]
      · rw [upd_n _ _ e]; exact hp i (by omega))
  obtain ⟨⟨o1, g1⟩, e1, p1⟩ := loop_ex (fun k (s : (Option Value × Option Value × Option Value) × (Nat → Int32)) => bm_run S (d + 2) 87 27 [some (.ref w), some (.int f), some (.int wo), some (.int (nI k)), s.1.1, s.1.2.1, s.1.2.2] [] (bm_row σ (w + 8) s.2)) (fun k s => ∀ i, i < M → s.2 i = netF (fun l => !decide (nI l = wo) && dB B f l) B k i) L ((none, none, none), g0) p0 (by
    intro k s hk hp
    have h1 := h.row8 s.2
    obtain ⟨a, b, ha, hb, hab, ea, eb⟩ := g k hk
    by_cases e : nI k = wo
    · subst e
      refine ⟨s, ?_, ?_⟩
      · rw [g87_27]
        simp (disch := omega) only [bm_run_ite, Option.toList_some, Option.bind_some, Option.toList_some, Option.toList_none, List.cons_append, List.nil_append, List.append_nil, eq_self, not_true_eq_false, not_false_eq_true, ite_true, ite_false, ↓reduceIte, Nat.reduceLT, Nat.reduceEqDiff, Nat.reduceAdd, or_true, true_or, or_false, false_or, nI_clamp2, nI_lt0F, nI_leT, nI_leF, nI_ltT, nI_ltF, n_leF, n_leT, nI_1, kA6, kA8, kA10, kA22, kA26, kA32, kA44, kA56, kA68, kA80, kA93, kA163, kA794, not_or, or_self, and_self, and_true, true_and, g87_0, g87_2, g87_10, g87_19, g87_25, g87_35, g87_40, g87_46, g87_49, g87_52, g87_60, g87_70, g87_80, g87_97, g87_103, g87_118, g87_124, g87_130, h1.t, h1.f1]
      · simp only [netF, eq_self, decide_true, Bool.not_true, Bool.false_and, Bool.false_eq_true, ite_false]; exact hp
    · cases hd : dB B f k
      · refine ⟨s, ?_, ?_⟩
        · rw [g87_27]
          simp (disch := omega) only [bm_run_ite, Option.toList_some, Option.bind_some, Option.toList_some, Option.toList_none, List.cons_append, List.nil_append, List.append_nil, eq_self, not_true_eq_false, not_false_eq_true, ite_true, ite_false, ↓reduceIte, Nat.reduceLT, Nat.reduceEqDiff, Nat.reduceAdd, or_true, true_or, or_false, false_or, nI_clamp2, nI_lt0F, nI_leT, nI_leF, nI_ltT, nI_ltF, n_leF, n_leT, nI_1, kA6, kA8, kA10, kA22, kA26, kA32, kA44, kA56, kA68, kA80, kA93, kA163, kA794, not_or, or_self, and_self, and_true, true_and, g87_0, g87_2, g87_10, g87_19, g87_25, g87_35, g87_40, g87_46, g87_49, g87_52, g87_60, g87_70, g87_80, g87_97, g87_103, g87_118, g87_124, g87_130, h1.t, h1.f1, e, c82n h1, hd, bI, Bool.false_eq_true]
        · simp only [netF, e, hd, Bool.and_false, Bool.false_eq_true, ite_false]; exact hp
      · refine ⟨((some (.int (B (56 + k))), some (.int (nI a)), some (.int (nI b))), upd (upd s.2 a (s.2 a - B (56 + k))) b (upd s.2 a (s.2 a - B (56 + k)) b + B (56 + k))), ?_, ?_⟩
        · have h2 := h.row8 (upd s.2 a (s.2 a - B (56 + k)))
          have e9 : ¬ (1 : Int32) = 0 := by decide
          rw [g87_27]
          simp (disch := omega) only [bm_run_ite, Option.toList_some, Option.bind_some, Option.toList_some, Option.toList_none, List.cons_append, List.nil_append, List.append_nil, eq_self, not_true_eq_false, not_false_eq_true, ite_true, ite_false, ↓reduceIte, Nat.reduceLT, Nat.reduceEqDiff, Nat.reduceAdd, or_true, true_or, or_false, false_or, nI_clamp2, nI_lt0F, nI_leT, nI_leF, nI_ltT, nI_ltF, n_leF, n_leT, nI_1, kA6, kA8, kA10, kA22, kA26, kA32, kA44, kA56, kA68, kA80, kA93, kA163, kA794, not_or, or_self, and_self, and_true, true_and, g87_0, g87_2, g87_10, g87_19, g87_25, g87_35, g87_40, g87_46, g87_49, g87_52, g87_60, g87_70, g87_80, g87_97, g87_103, g87_118, g87_124, g87_130, h1.t, h1.f1, e, c82n h1, hd, bI, e9, h1.a4, h1.a2, h1.a3, h1.a8, h1.s8, ea, eb, wi_row, row_row1, h2.t, h2.a8, h2.s8, row_row1]
        · intro i hi
          simp only [netF, e, hd, decide_false, Bool.not_false, Bool.and_self, ite_true, ea, eb, cN_nI (show a < 2147483648 by omega), cN_nI (show b < 2147483648 by omega)]
          have q1 := hp a ha
          have q2 := hp b hb
          have q3 := hp i hi
          simp only [upd]
          simp only [q1, q2, q3])
  refine ⟨g1, ?_, p1⟩
  have e2 : bm_row σ (w + 8) (σ.1 (w + 8)) = σ := bm_row_self σ _
  rw [e2] at e0
  have h2 := h.row8 g0
  have h3 := h.row8 g1
  rw [e87, g87_0]
  refine (show bm_run S (d + 2) 87 2 [some (.ref w), some (.int f), some (.int wo), some (.int (nI 0)), none, none, none] [] σ = _ from e0).trans ?_
  simp (disch := omega) only [g87_2, g87_25, bm_run_ite, Option.toList_some, Option.bind_some, Option.toList_some, Option.toList_none, List.cons_append, List.nil_append, List.append_nil, eq_self, not_true_eq_false, not_false_eq_true, ite_true, ite_false, ↓reduceIte, Nat.reduceLT, Nat.reduceEqDiff, Nat.reduceAdd, or_true, true_or, or_false, false_or, nI_clamp2, nI_lt0F, nI_leT, nI_leF, nI_ltT, nI_ltF, n_leF, n_leT, nI_1, kA6, kA8, kA10, kA22, kA26, kA32, kA44, kA56, kA68, kA80, kA93, kA163, kA794, not_or, or_self, and_self, and_true, true_and, h2.t, h2.f0]
  refine (show bm_run S (d + 2) 87 27 [some (.ref w), some (.int f), some (.int wo), some (.int (nI 0)), none, none, none] [] _ = _ from e1).trans ?_
  simp (disch := omega) only [g87_27, g87_130, bm_run_ite, Option.toList_some, Option.bind_some, Option.toList_some, Option.toList_none, List.cons_append, List.nil_append, List.append_nil, eq_self, not_true_eq_false, not_false_eq_true, ite_true, ite_false, ↓reduceIte, Nat.reduceLT, Nat.reduceEqDiff, Nat.reduceAdd, or_true, true_or, or_false, false_or, nI_clamp2, nI_lt0F, nI_leT, nI_leF, nI_ltT, nI_ltF, n_leF, n_leT, nI_1, kA6, kA8, kA10, kA22, kA26, kA32, kA44, kA56, kA68, kA80, kA93, kA163, kA794, not_or, or_self, and_self, and_true, true_and, h3.t, h3.f1]
theorem c88 (h : RW M L σ w B) (g : GO M L B) (f wo : Int32) : ∃ g1, bm_call S (d + 3) 88 [.ref w, .int f, .int wo] σ = some (some (.int (coF (netF (fun l => !decide (nI l = wo) && dB B f l) B L) M)), bm_row σ (w + 8) g1) := by
  have hM := h.M6
  obtain ⟨g1, e1, p1⟩ := c87 (S := S) (d := d) h g f wo
  refine ⟨g1, ?_⟩
  have h1 := h.row8 g1
  simp only [e88, g88_0, bm_run_ite, Option.toList_some, Option.bind_some, Option.toList_some, Option.toList_none, List.cons_append, List.nil_append, List.append_nil, eq_self, not_true_eq_false, not_false_eq_true, ite_true, ite_false, ↓reduceIte, Nat.reduceLT, Nat.reduceEqDiff, Nat.reduceAdd, or_true, true_or, or_false, false_or, h.t, e1, g88_6]
  refine (loop_eq (fun k => bm_run S (d + 3) 88 11 [some (.ref w), some (.int f), am_clr (some (.int wo)), some (.int (coF (netF (fun l => !decide (nI l = wo) && dB B f l) B L) k)), some (.int (nI k))] [] (bm_row σ (w + 8) g1)) M ?_).trans ?_
  · intro k hk
    rw [g88_11]
    simp (disch := omega) only [bm_run_ite, Option.toList_some, Option.bind_some, Option.toList_some, Option.toList_none, List.cons_append, List.nil_append, List.append_nil, eq_self, not_true_eq_false, not_false_eq_true, ite_true, ite_false, ↓reduceIte, Nat.reduceLT, Nat.reduceEqDiff, Nat.reduceAdd, or_true, true_or, or_false, false_or, nI_clamp2, nI_lt0F, nI_leT, nI_leF, nI_ltT, nI_ltF, n_leF, n_leT, nI_1, kA6, kA8, kA10, kA22, kA26, kA32, kA44, kA56, kA68, kA80, kA93, kA163, kA794, not_or, or_self, and_self, and_true, true_and, g88_0, g88_6, g88_20, g88_31, g88_34, g88_42, h1.t, h1.f0, h1.a8, c291, row_row1, p1 k hk]
    have e : ∀ x y : Int32, x - (if y < 0 then y else 0) = x + (if y < 0 then -y else 0) := by
      intro x y
      by_cases q : y < 0
      · rw [if_pos q, if_pos q, Int32.sub_eq_add_neg]
      · rw [if_neg q, if_neg q, Int32.sub_zero, Int32.add_zero]
    rw [e]
    rfl
  · simp (disch := omega) only [bm_run_ite, Option.toList_some, Option.bind_some, Option.toList_some, Option.toList_none, List.cons_append, List.nil_append, List.append_nil, eq_self, not_true_eq_false, not_false_eq_true, ite_true, ite_false, ↓reduceIte, Nat.reduceLT, Nat.reduceEqDiff, Nat.reduceAdd, or_true, true_or, or_false, false_or, nI_clamp2, nI_lt0F, nI_leT, nI_leF, nI_ltT, nI_ltF, n_leF, n_leT, nI_1, kA6, kA8, kA10, kA22, kA26, kA32, kA44, kA56, kA68, kA80, kA93, kA163, kA794, not_or, or_self, and_self, and_true, true_and, g88_0, g88_6, g88_11, g88_20, g88_31, g88_34, g88_42, h1.t, h1.f0]
end NETS
