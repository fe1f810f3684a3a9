/-! the class's deeds in a world -/
def Fw (w : Nat) (σ τ : bm_S) : Prop := (∀ a, (a < w ∨ w + 9 < a) → τ.1 a = σ.1 a) ∧ τ.2 = σ.2
theorem Fw.rfl (w : Nat) (σ : bm_S) : Fw w σ σ := ⟨fun _ _ => Eq.refl _, Eq.refl _⟩
theorem Fw.tr {w : Nat} {σ τ ρ : bm_S} (h : Fw w σ τ) (h1 : Fw w τ ρ) : Fw w σ ρ := ⟨fun a ha => (h1.1 a ha).trans (h.1 a ha), h1.2.trans h.2⟩
theorem Fw.wi {w : Nat} {σ τ : bm_S} (h : Fw w σ τ) {a : Nat} (h0 : w ≤ a) (h1 : a ≤ w + 9) (k : Nat) (x : Int32) : Fw w σ (bm_wi τ a k x) := ⟨fun b hb => (wi_n τ (by omega) k x).trans (h.1 b hb), h.2⟩
theorem Fw.row {w : Nat} {σ τ : bm_S} (h : Fw w σ τ) {a : Nat} (h0 : w ≤ a) (h1 : a ≤ w + 9) (g : Nat → Int32) : Fw w σ (bm_row τ a g) := ⟨fun b hb => (bm_row_1n τ g (by omega)).trans (h.1 b hb), h.2⟩
theorem loop_all {β : Type} (F : Nat → β) (ok : Nat → Bool) (n : Nat) (b : β) (hs : ∀ k, k < n → F k = if ok k = true then F (k + 1) else b) : F 0 = if (List.range n).all ok = true then F n else b := by
  induction n with
  | zero => rfl
  | succ n ih =>
    rw [ih (fun k hk => hs k (by omega)), List.range_succ, List.all_append, hs n (by omega)]
    cases (List.range n).all ok
    · simp
    · simp
def GC (M : Nat) (B : Nat → Int32) : Prop := ∀ m, m < M → ∃ k, k ≤ 999999 ∧ B (26 + m) = nI k
def GM (L : Nat) (B : Nat → Int32) : Prop := ∀ l, l < L → ∃ k, k ≤ 999 ∧ B (56 + l) = nI k
theorem nI_sub {a b : Nat} (h : b ≤ a) : nI a - nI b = nI (a - b) := by
  obtain ⟨c, rfl⟩ : ∃ c, a = b + c := ⟨a - b, by omega⟩
  rw [← nI_add, Nat.add_sub_cancel_left, Int32.add_comm, Int32.add_sub_cancel]
theorem nI_toInt2 {n : Nat} (h : n < 2147483648) : (nI n).toInt = (n : Int) := nI_toInt h
/-- a number taken away leaves the cash within its bounds -/
theorem mn_sub {a b : Nat} (h : a ≤ 999999) (hb : b ≤ 999999) : mn (nI a + -(nI b)) = nI a - nI b := by
  rw [← Int32.sub_eq_add_neg]
  unfold mn
  rw [if_pos]
  have e : (999999 : Int32).toInt = 999999 := by decide +kernel
  rw [Int32.le_iff_toInt_le, Int32.toInt_sub, nI_toInt2 (by omega), nI_toInt2 (by omega), e, Int.bmod_eq_of_le (by omega) (by omega)]
  omega
def gvB (B : Nat → Int32) (a b : Nat) (n : Int32) : Nat → Int32 := upd (upd B (26 + a) (B (26 + a) - n)) (26 + b) (mn (upd B (26 + a) (B (26 + a) - n) (26 + b) + n))
def pyB (B : Nat → Int32) (l : Nat) : Nat → Int32 := upd (gvB B (cN (B (32 + l))) (cN (B (44 + l))) (B (56 + l))) (80 + l) 1
def wpB (B : Nat → Int32) (L : Nat) (i : Int32) : Int32 := if hasI i L = true then (if oB B (cN i) = true then (if B (26 + cN (B (32 + cN i))) < B (56 + cN i) then 3 else 0) else 2) else 1
def wlB (B : Nat → Int32) (M : Nat) (i j n : Int32) : Int32 := if hasI i M = true ∧ hasI j M = true ∧ i ≠ j ∧ bW n.toInt64 1 999 = 1 then (if tb (B 24) (cN i) = true ∨ tb (B 24) (cN j) = true then 2 else if B (26 + cN i) < n then 3 else 0) else 1
section DEEDS
variable {S : am_S} {d : Nat} {σ : bm_S} {M L w : Nat} {B : Nat → Int32}
theorem c93 (h : RW M L σ w B) {m : Nat} (hm : m < M) (n : Int32) : bm_call S (d + 1) 93 [.ref w, .int (nI m), .int n] σ = some (none, bm_wi σ (w + 1) m (mn (B (26 + m) + n))) := by
  have hM := h.M6
  simp (disch := omega) only [bm_run_ite, Option.toList_some, Option.bind_some, Option.toList_some, Option.toList_none, List.cons_append, List.nil_append, List.append_nil, eq_self, not_true_eq_false, not_false_eq_true, ite_true, ite_false, ↓reduceIte, Nat.reduceLT, Nat.reduceEqDiff, Nat.reduceAdd, or_true, true_or, or_false, false_or, nI_clamp2, nI_lt0F, nI_leT, nI_leF, nI_ltT, nI_ltF, n_leF, n_leT, nI_1, kA6, kA8, kA10, kA22, kA26, kA32, kA44, kA56, kA68, kA80, kA93, kA163, kA794, not_or, or_self, and_self, and_true, true_and, e93, g93_0, g93_15, g93_20, g93_23, h.t, h.a1, c291, h.s1]
  have e : (if B (26 + m) + n < 999999 then B (26 + m) + n else 999999) = mn (B (26 + m) + n) := by
    unfold mn
    by_cases q : B (26 + m) + n < 999999
    · rw [if_pos q, if_pos (Int32.le_of_lt q)]
    · rw [if_neg q]
      by_cases q1 : B (26 + m) + n ≤ 999999
      · rw [if_pos q1]; exact (Int32.le_antisymm q1 (Int32.not_lt.mp q)).symm
      · rw [if_neg q1]
  rw [e]
theorem c94 (h : RW M L σ w B) {a b : Nat} (ha : a < M) (hb : b < M) (n : Int32) (hn : mn (B (26 + a) + -n) = B (26 + a) - n) : ∃ σ1, bm_call S (d + 2) 94 [.ref w, .int (nI a), .int (nI b), .int n] σ = some (none, σ1) ∧ RW M L σ1 w (gvB B a b n) ∧ Fw w σ σ1 := by
  have h1 := h.w1 ha (B (26 + a) - n)
  refine ⟨_, ?_, h1.w1 hb _, ((Fw.rfl w σ).wi (by omega) (by omega) _ _).wi (by omega) (by omega) _ _⟩
  simp only [e94, g94_0, g94_7, g94_13, bm_run_ite, Option.toList_some, Option.bind_some, Option.toList_some, Option.toList_none, List.cons_append, List.nil_append, List.append_nil, eq_self, not_true_eq_false, not_false_eq_true, ite_true, ite_false, ↓reduceIte, Nat.reduceLT, Nat.reduceEqDiff, Nat.reduceAdd, or_true, true_or, or_false, false_or, h.t, c93 h ha, hn, c93 h1 hb, h1.t]
theorem c95 (h : RW M L σ w B) (g : GO M L B) (i : Int32) : bm_call S (d + 2) 95 [.ref w, .int i] σ = some (some (.int (wpB B L i)), σ) := by
  have hL := h.L12
  have hM := h.M6
  unfold wpB
  cases hi : hasI i L
  · simp only [e95, g95_0, g95_5, g95_8, g95_10, g95_15, g95_18, g95_20, g95_32, g95_35, g95_43, g95_46, g95_50, g95_51, bm_run_ite, Option.toList_some, Option.bind_some, Option.toList_some, Option.toList_none, List.cons_append, List.nil_append, List.append_nil, eq_self, not_true_eq_false, not_false_eq_true, ite_true, ite_false, ↓reduceIte, Nat.reduceLT, Nat.reduceEqDiff, Nat.reduceAdd, or_true, true_or, or_false, false_or, h.t, c79 h, hi, bI_itn, Bool.false_eq_true]
  · obtain ⟨l, hl, rfl⟩ := hasI_of hi (by omega)
    obtain ⟨a, b, ha, hb, hab, ea, eb⟩ := g l hl
    rw [cN_nI (show l < 2147483648 by omega)]
    cases ho : oB B l
    · simp only [e95, g95_0, g95_5, g95_8, g95_10, g95_15, g95_18, g95_20, g95_32, g95_35, g95_43, g95_46, g95_50, g95_51, bm_run_ite, Option.toList_some, Option.bind_some, Option.toList_some, Option.toList_none, List.cons_append, List.nil_append, List.append_nil, eq_self, not_true_eq_false, not_false_eq_true, ite_true, ite_false, ↓reduceIte, Nat.reduceLT, Nat.reduceEqDiff, Nat.reduceAdd, or_true, true_or, or_false, false_or, h.t, c79 h, hi, bI_itn, c81n h hl, ho, Bool.false_eq_true]
    · simp only [e95, g95_0, g95_5, g95_8, g95_10, g95_15, g95_18, g95_20, g95_32, g95_35, g95_43, g95_46, g95_50, g95_51, bm_run_ite, Option.toList_some, Option.bind_some, Option.toList_some, Option.toList_none, List.cons_append, List.nil_append, List.append_nil, eq_self, not_true_eq_false, not_false_eq_true, ite_true, ite_false, ↓reduceIte, Nat.reduceLT, Nat.reduceEqDiff, Nat.reduceAdd, or_true, true_or, or_false, false_or, h.t, c79 h, hi, bI_itn, c81n h hl, ho, h.a2 hl, h.a4 hl, ea, h.a1 ha, cN_nI (show a < 2147483648 by omega)]
      by_cases q : B (26 + a) < B (56 + l)
      · simp [q, Int32.not_le.mpr q]
      · simp [q, Int32.not_lt.mp q]
theorem c96 (h : RW M L σ w B) (g : GO M L B) (gc : GC M B) (gm : GM L B) {l : Nat} (hl : l < L) : ∃ σ1, bm_call S (d + 3) 96 [.ref w, .int (nI l)] σ = some (none, σ1) ∧ RW M L σ1 w (pyB B l) ∧ Fw w σ σ1 := by
  have hM := h.M6
  obtain ⟨a, b, ha, hb, hab, ea, eb⟩ := g l hl
  obtain ⟨x, hx, ex⟩ := gc a ha
  obtain ⟨y, hy, ey⟩ := gm l hl
  obtain ⟨σ1, e1, h1, f1⟩ := c94 (S := S) (d := d) h ha hb (B (56 + l)) (by rw [ex, ey]; exact mn_sub hx (by omega))
  refine ⟨_, ?_, ?_, f1.wi (a := w + 6) (by omega) (by omega) l 1⟩
  · simp only [e96, g96_0, g96_9, g96_17, g96_25, g96_28, g96_37, bm_run_ite, Option.toList_some, Option.bind_some, Option.toList_some, Option.toList_none, List.cons_append, List.nil_append, List.append_nil, eq_self, not_true_eq_false, not_false_eq_true, ite_true, ite_false, ↓reduceIte, Nat.reduceLT, Nat.reduceEqDiff, Nat.reduceAdd, or_true, true_or, or_false, false_or, h.t, h.a2 hl, h.a3 hl, h.a4 hl, ea, eb, e1, h1.t, h1.s6 hl]
  · unfold pyB
    rw [ea, eb, cN_nI (by omega), cN_nI (by omega)]
    exact h1.w6 hl 1
theorem c97 (h : RW M L σ w B) (i j n : Int32) : bm_call S (d + 1) 97 [.ref w, .int i, .int j, .int n] σ = some (some (.int (wlB B M i j n)), σ) := by
  have hM := h.M6
  unfold wlB
  cases hi : hasI i M
  · simp only [e97, g97_0, g97_5, g97_8, g97_13, g97_16, g97_21, g97_30, g97_33, g97_35, g97_40, g97_43, g97_48, g97_51, g97_53, g97_61, g97_65, g97_69, g97_70, bm_run_ite, Option.toList_some, Option.bind_some, Option.toList_some, Option.toList_none, List.cons_append, List.nil_append, List.append_nil, eq_self, not_true_eq_false, not_false_eq_true, ite_true, ite_false, ↓reduceIte, Nat.reduceLT, Nat.reduceEqDiff, Nat.reduceAdd, or_true, true_or, or_false, false_or, h.t, c78 h, hi, bI_ite, Bool.false_eq_true, false_and]
  · cases hj : hasI j M
    · simp only [e97, g97_0, g97_5, g97_8, g97_13, g97_16, g97_21, g97_30, g97_33, g97_35, g97_40, g97_43, g97_48, g97_51, g97_53, g97_61, g97_65, g97_69, g97_70, bm_run_ite, Option.toList_some, Option.bind_some, Option.toList_some, Option.toList_none, List.cons_append, List.nil_append, List.append_nil, eq_self, not_true_eq_false, not_false_eq_true, ite_true, ite_false, ↓reduceIte, Nat.reduceLT, Nat.reduceEqDiff, Nat.reduceAdd, or_true, true_or, or_false, false_or, h.t, c78 h, hi, hj, bI_ite, Bool.false_eq_true, false_and, and_false]
    · by_cases hij : i = j
      · simp only [e97, g97_0, g97_5, g97_8, g97_13, g97_16, g97_21, g97_30, g97_33, g97_35, g97_40, g97_43, g97_48, g97_51, g97_53, g97_61, g97_65, g97_69, g97_70, bm_run_ite, Option.toList_some, Option.bind_some, Option.toList_some, Option.toList_none, List.cons_append, List.nil_append, List.append_nil, eq_self, not_true_eq_false, not_false_eq_true, ite_true, ite_false, ↓reduceIte, Nat.reduceLT, Nat.reduceEqDiff, Nat.reduceAdd, or_true, true_or, or_false, false_or, h.t, c78 h, hi, hj, bI_ite, hij, ne_eq, false_and, and_false]
      · rcases bW_01 n.toInt64 1 999 with hw | hw
        · have e9 : ¬ (0 : Int32) = 1 := by decide
          simp only [e97, g97_0, g97_5, g97_8, g97_13, g97_16, g97_21, g97_30, g97_33, g97_35, g97_40, g97_43, g97_48, g97_51, g97_53, g97_61, g97_65, g97_69, g97_70, bm_run_ite, Option.toList_some, Option.bind_some, Option.toList_some, Option.toList_none, List.cons_append, List.nil_append, List.append_nil, eq_self, not_true_eq_false, not_false_eq_true, ite_true, ite_false, ↓reduceIte, Nat.reduceLT, Nat.reduceEqDiff, Nat.reduceAdd, or_true, true_or, or_false, false_or, h.t, c78 h, hi, hj, bI_ite, hij, ne_eq, false_and, and_false, c157, hw, e9]
        · have e9 : ¬ (1 : Int32) = 0 := by decide
          obtain ⟨a, ha, rfl⟩ := hasI_of hi (by omega)
          obtain ⟨b, hb, rfl⟩ := hasI_of hj (by omega)
          simp only [e97, g97_0, g97_5, g97_8, g97_13, g97_16, g97_21, g97_30, g97_33, g97_35, g97_40, g97_43, g97_48, g97_51, g97_53, g97_61, g97_65, g97_69, g97_70, bm_run_ite, Option.toList_some, Option.bind_some, Option.toList_some, Option.toList_none, List.cons_append, List.nil_append, List.append_nil, eq_self, not_true_eq_false, not_false_eq_true, ite_true, ite_false, ↓reduceIte, Nat.reduceLT, Nat.reduceEqDiff, Nat.reduceAdd, or_true, true_or, or_false, false_or, h.t, c78 h, hi, hj, bI_ite, bI_itn, hij, ne_eq, and_self, c157, hw, e9, c80 h (show a < 32 by omega), c80 h (show b < 32 by omega), h.a1 ha, cN_nI (show a < 2147483648 by omega), cN_nI (show b < 2147483648 by omega)]
          cases tb (B 24) a
          · cases tb (B 24) b
            · by_cases q : B (26 + a) < n
              · simp [q, Int32.not_le.mpr q]
              · simp [q, Int32.not_lt.mp q]
            · simp
          · simp
def drB (B : Nat → Int32) : Nat → Int32 := upd B 23 ((1103515245 : Int32) * B 23 + 12345)
theorem c100 (h : RW M L σ w B) : bm_call S d 100 [.ref w] σ = some (some (.int (am_ush (drB B 23) 16)), bm_wi σ w 4 (drB B 23)) := by
  simp only [e100, g100_0, bm_run_ite, Option.toList_some, Option.bind_some, Option.toList_some, Option.toList_none, List.cons_append, List.nil_append, List.append_nil, eq_self, not_true_eq_false, not_false_eq_true, ite_true, ite_false, ↓reduceIte, Nat.reduceLT, Nat.reduceEqDiff, Nat.reduceAdd, or_true, true_or, or_false, false_or, h.t, wi_s, upd_s, h.f4, drB]
theorem c103 (h : RW M L σ w B) {l : Nat} (hl : l < L) : bm_call S (d + 1) 103 [.ref w, .int (nI l)] σ = some (none, bm_wi σ (w + 5) l (B (68 + l) + 1)) := by
  simp only [e103, g103_0, g103_13, g103_18, bm_run_ite, Option.toList_some, Option.bind_some, Option.toList_some, Option.toList_none, List.cons_append, List.nil_append, List.append_nil, eq_self, not_true_eq_false, not_false_eq_true, ite_true, ite_false, ↓reduceIte, Nat.reduceLT, Nat.reduceEqDiff, Nat.reduceAdd, or_true, true_or, or_false, false_or, h.t, h.a5 hl, h.s5 hl]
end DEEDS
