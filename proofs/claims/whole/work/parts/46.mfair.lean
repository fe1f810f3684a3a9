/-! THE REFERENCE's fair -/
def Fp (σ τ : bm_S) : Prop := (∀ a, a ≠ 218 → a ≠ 219 → τ.1 a = σ.1 a) ∧ (∀ b, b ≠ 21 → τ.1 218 b = σ.1 218 b) ∧ τ.2 = σ.2
theorem Fp.rfl (σ : bm_S) : Fp σ σ := ⟨fun _ _ _ => Eq.refl _, fun _ _ => Eq.refl _, Eq.refl _⟩
theorem Fp.tr {σ τ ρ : bm_S} (h : Fp σ τ) (h1 : Fp τ ρ) : Fp σ ρ := ⟨fun a x y => (h1.1 a x y).trans (h.1 a x y), fun b x => (h1.2.1 b x).trans (h.2.1 b x), h1.2.2.trans h.2.2⟩
theorem Fp.w17 {σ τ : bm_S} (h : Fp σ τ) (k : Nat) (x : Int32) : Fp σ (bm_wi τ 219 k x) := h.tr ⟨fun a _ y => wi_n _ y k x, fun b _ => by rw [wi_n _ (by decide)], Eq.refl _⟩
theorem Fp.r17 {σ τ : bm_S} (h : Fp σ τ) (g : Nat → Int32) : Fp σ (bm_row τ 219 g) := h.tr ⟨fun a _ y => bm_row_1n _ _ y, fun b _ => by rw [bm_row_1n _ _ (by decide)], Eq.refl _⟩
theorem Fp.w16 {σ τ : bm_S} (h : Fp σ τ) (x : Int32) : Fp σ (bm_wi τ 218 21 x) := h.tr ⟨fun a y _ => wi_n _ y 21 x, fun b y => by rw [wi_s, upd_n _ _ y], Eq.refl _⟩
def Fq (σ τ : bm_S) : Prop := (∀ a, a ≠ 218 → a ≠ 219 → (a < 223 ∨ 227 < a) → τ.1 a = σ.1 a) ∧ (∀ b, b ≠ 21 → τ.1 218 b = σ.1 218 b) ∧ τ.2 = σ.2
theorem Fq.rfl (σ : bm_S) : Fq σ σ := ⟨fun _ _ _ _ => Eq.refl _, fun _ _ => Eq.refl _, Eq.refl _⟩
theorem Fq.tr {σ τ ρ : bm_S} (h : Fq σ τ) (h1 : Fq τ ρ) : Fq σ ρ := ⟨fun a x y z => (h1.1 a x y z).trans (h.1 a x y z), fun b x => (h1.2.1 b x).trans (h.2.1 b x), h1.2.2.trans h.2.2⟩
theorem Fp.q {σ τ : bm_S} (h : Fp σ τ) : Fq σ τ := ⟨fun a x y _ => h.1 a x y, h.2.1, h.2.2⟩
theorem Fq.row {σ τ : bm_S} (h : Fq σ τ) {k : Nat} (h0 : 223 ≤ k) (h1 : k ≤ 227) (g : Nat → Int32) : Fq σ (bm_row τ k g) := h.tr ⟨fun a _ _ z => bm_row_1n _ _ (by omega), fun b _ => by rw [bm_row_1n _ _ (by omega)], Eq.refl _⟩
def bcF (x : Int32) : Int32 := smS (fun k => bI (tb x k)) 12
theorem tb_clr (X : Int32) {k l : Nat} (hk : k < 32) (hl : l < 32) : tb (X &&& (bt k ^^^ Int32.ofInt (-1))) l = (tb X l && !decide (l = k)) := by
  rw [tb_and, tb_xor, tb_bt k hk l hl, tb_m1 l hl]; simp
theorem ptB_cg {B : Nat → Int32} {D E : Nat → Bool} {m : Nat} : ∀ {n : Nat}, (∀ l, l < n → D l = E l) → ptB B D m n = ptB B E m n := by
  intro n
  induction n with
  | zero => intro _; rfl
  | succ n ih =>
    intro h
    show ptS D _ (ptB B D m n) n = ptS E _ (ptB B E m n) n
    rw [ih (fun l hl => h l (by omega))]
    unfold ptS
    rw [h n (by omega)]
section MFAIR
variable {S : am_S} {d : Nat} {σ : bm_S} {M L : Nat}
theorem m197 (x : Int32) : bm_call S d 197 [.int x] σ = some (some (.int (bcF x)), σ) := by
  simp only [e197, g197_0]
  refine (loop_eq (fun k => bm_run S d 197 4 [some (.int x), some (.int (smS (fun k => bI (tb x k)) k)), some (.int (nI k))] [] σ) 12 ?_).trans ?_
  · intro k hk
    rw [g197_4]
    simp (disch := omega) only [bm_run_ite, Option.toList_some, Option.bind_some, Option.toList_some, Option.toList_none, List.cons_append, List.nil_append, List.append_nil, eq_self, not_true_eq_false, not_false_eq_true, ite_true, ite_false, ↓reduceIte, Nat.reduceLT, Nat.reduceEqDiff, Nat.reduceAdd, or_true, true_or, or_false, false_or, nI_clamp2, nI_lt0F, nI_leT, nI_leF, nI_ltT, nI_ltF, n_leF, n_leT, nI_1, kA6, kA8, kA10, kA22, kA26, kA32, kA44, kA56, kA68, kA80, kA93, kA163, kA794, not_or, or_self, and_self, and_true, true_and, g197_0, g197_10, g197_24, kI12, sh1 x (show k < 32 by omega), smS]
  · rw [g197_4]
    simp (disch := omega) only [bm_run_ite, Option.toList_some, Option.bind_some, Option.toList_some, Option.toList_none, List.cons_append, List.nil_append, List.append_nil, eq_self, not_true_eq_false, not_false_eq_true, ite_true, ite_false, ↓reduceIte, Nat.reduceLT, Nat.reduceEqDiff, Nat.reduceAdd, or_true, true_or, or_false, false_or, nI_clamp2, nI_lt0F, nI_leT, nI_leF, nI_ltT, nI_ltF, n_leF, n_leT, nI_1, kA6, kA8, kA10, kA22, kA26, kA32, kA44, kA56, kA68, kA80, kA93, kA163, kA794, not_or, or_self, and_self, and_true, true_and, g197_0, g197_10, g197_24, kI12, bcF]
theorem m209 (h : MR M L σ) {m : Nat} (hm : m < 6) {D : Nat → Bool} (hD : ∀ l, l < L → tb (σ.1 218 21) l = D l) : ∃ σ1, bm_call S (d + 1) 209 [.ref 218, .int (nI m)] σ = some (none, σ1) ∧ σ1.1 219 = brB (σ.1 219) m L ∧ (∀ l, l < L → tb (σ1.1 218 21) l = brD (σ.1 219) m D l) ∧ Fp σ σ1 := by
  have hL := h.L12
  generalize hB : σ.1 219 = B at *
  obtain ⟨σ1, e1, h1, d1, f1⟩ := loop_ex (fun k s => bm_run S (d + 1) 209 15 [some (.ref 218), some (.int (nI m)), some (.int (nI k))] [] s) (fun k s => s.1 219 = brB B m k ∧ (∀ l, l < L → tb (s.1 218 21) l = if l < k then brD B m D l else D l) ∧ Fp σ s) L (bm_wi σ 219 24 (B 24 ||| bt m)) ⟨by rw [wi_s, hB]; rfl, fun l hl => by rw [wi_n _ (by decide), if_neg (by omega)]; exact hD l hl, (Fp.rfl σ).w17 _ _⟩ (by
    intro k s hk hp
    obtain ⟨h1, d1, f1⟩ := hp
    have o1 : brB B m k 25 = nI L := by rw [brB_out (by omega) (by omega), ← hB]; exact h.l
    have eo : oB (brB B m k) k = oB B k := by unfold oB; rw [brB_out (by omega) (by omega)]
    have et : tou (brB B m k) (nI m) k = tou B (nI m) k := by unfold tou; rw [brB_out (by omega) (by omega), brB_out (by omega) (by omega)]
    have es : brB B m (k + 1) = brS (nI m) (brB B m k) k := rfl
    have stay : (oB B k && tou B (nI m) k) = false → ∀ l, l < L → tb (s.1 218 21) l = if l < k + 1 then brD B m D l else D l := by
      intro z l hl
      rw [d1 l hl]
      by_cases e : l = k
      · subst e; simp [brD, z]
      · by_cases e1 : l < k
        · rw [if_pos e1, if_pos (by omega)]
        · rw [if_neg e1, if_neg (by omega)]
    rw [es]
    generalize brB B m k = C at h1 o1 eo et
    unfold brS
    rw [eo, et]
    have m2 : bm_call S d 202 [.ref 218, .int (nI k)] s = some (some (.int (bI (oB B k))), s) := by rw [m202 (by omega), h1, eo]
    cases ho : oB B k
    · refine ⟨s, ?_, by simpa using h1, stay (by simp [ho]), f1⟩
      rw [g209_15]
      simp (disch := omega) only [bm_run_ite, Option.toList_some, Option.bind_some, Option.toList_some, Option.toList_none, List.cons_append, List.nil_append, List.append_nil, eq_self, not_true_eq_false, not_false_eq_true, ite_true, ite_false, ↓reduceIte, Nat.reduceLT, Nat.reduceEqDiff, Nat.reduceAdd, or_true, true_or, or_false, false_or, nI_clamp2, nI_lt0F, nI_leT, nI_leF, nI_ltT, nI_ltF, n_leF, n_leT, nI_1, kA6, kA8, kA10, kA22, kA26, kA32, kA44, kA56, kA68, kA80, kA93, kA163, kA794, not_or, or_self, and_self, and_true, true_and, g209_0, g209_26, g209_31, g209_34, g209_47, g209_60, g209_63, g209_87, g209_93, h1, o1, m2, ho, bI_ite, Bool.false_eq_true]
    · cases hq : tou B (nI m) k
      · have q1 : ¬ C (32 + k) = nI m := by intro z; rw [← et] at hq; simp [tou, z] at hq
        have q2 : ¬ C (44 + k) = nI m := by intro z; rw [← et] at hq; simp [tou, z] at hq
        refine ⟨s, ?_, by simpa using h1, stay (by simp [hq]), f1⟩
        rw [g209_15]
        simp (disch := omega) only [bm_run_ite, Option.toList_some, Option.bind_some, Option.toList_some, Option.toList_none, List.cons_append, List.nil_append, List.append_nil, eq_self, not_true_eq_false, not_false_eq_true, ite_true, ite_false, ↓reduceIte, Nat.reduceLT, Nat.reduceEqDiff, Nat.reduceAdd, or_true, true_or, or_false, false_or, nI_clamp2, nI_lt0F, nI_leT, nI_leF, nI_ltT, nI_ltF, n_leF, n_leT, nI_1, kA6, kA8, kA10, kA22, kA26, kA32, kA44, kA56, kA68, kA80, kA93, kA163, kA794, not_or, or_self, and_self, and_true, true_and, g209_0, g209_26, g209_31, g209_34, g209_47, g209_60, g209_63, g209_87, g209_93, h1, o1, m2, ho, bI_ite, q1, q2]
      · refine ⟨bm_wi (bm_wi s 219 (80 + k) 2) 218 21 (s.1 218 21 &&& (bt k ^^^ Int32.ofInt (-1))), ?_, ?_, ?_, (f1.w17 _ _).w16 _⟩
        · have bk : (1 : Int32) <<< (nI k &&& 31) = bt k := rfl
          have r16 : (bm_wi s 219 (80 + k) 2).1 218 = s.1 218 := wi_n _ (by decide) _ _
          rw [g209_15]
          by_cases q1 : C (32 + k) = nI m
          · simp (disch := omega) only [bm_run_ite, Option.toList_some, Option.bind_some, Option.toList_some, Option.toList_none, List.cons_append, List.nil_append, List.append_nil, eq_self, not_true_eq_false, not_false_eq_true, ite_true, ite_false, ↓reduceIte, Nat.reduceLT, Nat.reduceEqDiff, Nat.reduceAdd, or_true, true_or, or_false, false_or, nI_clamp2, nI_lt0F, nI_leT, nI_leF, nI_ltT, nI_ltF, n_leF, n_leT, nI_1, kA6, kA8, kA10, kA22, kA26, kA32, kA44, kA56, kA68, kA80, kA93, kA163, kA794, not_or, or_self, and_self, and_true, true_and, g209_0, g209_26, g209_31, g209_34, g209_47, g209_60, g209_63, g209_87, g209_93, h1, o1, m2, ho, bI_ite, q1, bk, r16]
          · have q2 : C (44 + k) = nI m := by rw [← et] at hq; simpa [tou, q1] using hq
            simp (disch := omega) only [bm_run_ite, Option.toList_some, Option.bind_some, Option.toList_some, Option.toList_none, List.cons_append, List.nil_append, List.append_nil, eq_self, not_true_eq_false, not_false_eq_true, ite_true, ite_false, ↓reduceIte, Nat.reduceLT, Nat.reduceEqDiff, Nat.reduceAdd, or_true, true_or, or_false, false_or, nI_clamp2, nI_lt0F, nI_leT, nI_leF, nI_ltT, nI_ltF, n_leF, n_leT, nI_1, kA6, kA8, kA10, kA22, kA26, kA32, kA44, kA56, kA68, kA80, kA93, kA163, kA794, not_or, or_self, and_self, and_true, true_and, g209_0, g209_26, g209_31, g209_34, g209_47, g209_60, g209_63, g209_87, g209_93, h1, o1, m2, ho, bI_ite, q1, q2, bk, r16]
        · rw [wi_n _ (by decide), wi_s, h1]; rfl
        · intro l hl
          rw [wi_s, upd_s, tb_clr _ (by omega) (by omega), d1 l hl]
          by_cases e : l = k
          · subst e; simp [brD, ho, hq]
          · by_cases e1 : l < k
            · rw [if_pos e1, if_pos (by omega)]; simp [e]
            · rw [if_neg e1, if_neg (by omega)]; simp [e])
  refine ⟨σ1, ?_, h1, fun l hl => by rw [d1 l hl, if_pos hl], f1⟩
  have o1 : brB B m L 25 = nI L := by rw [brB_out (by omega) (by omega), ← hB]; exact h.l
  have bm1 : (1 : Int32) <<< (nI m &&& 31) = bt m := rfl
  rw [e209, g209_0, hB, bm1]
  refine (show bm_run S (d + 1) 209 15 [some (.ref 218), some (.int (nI m)), some (.int (nI 0))] [] _ = _ from e1).trans ?_
  rw [g209_15]
  simp (disch := omega) only [bm_run_ite, Option.toList_some, Option.bind_some, Option.toList_some, Option.toList_none, List.cons_append, List.nil_append, List.append_nil, eq_self, not_true_eq_false, not_false_eq_true, ite_true, ite_false, ↓reduceIte, Nat.reduceLT, Nat.reduceEqDiff, Nat.reduceAdd, or_true, true_or, or_false, false_or, nI_clamp2, nI_lt0F, nI_leT, nI_leF, nI_ltT, nI_ltF, n_leF, n_leT, nI_1, kA6, kA8, kA10, kA22, kA26, kA32, kA44, kA56, kA68, kA80, kA93, kA163, kA794, not_or, or_self, and_self, and_true, true_and, g209_93, h1, o1]
theorem m210 (h : MR M L σ) {m : Nat} {D : Nat → Bool} (hD : ∀ l, l < L → tb (σ.1 218 21) l = D l) : ∃ σ1, bm_call S (d + 1) 210 [.ref 218, .int (nI m)] σ = some (none, σ1) ∧ σ1.1 219 = ptB (σ.1 219) D m L ∧ (∀ l, l < L → tb (σ1.1 218 21) l = ptD (σ.1 219) m D l) ∧ Fp σ σ1 := by
  have hL := h.L12
  generalize hB : σ.1 219 = B at *
  obtain ⟨σ1, e1, h1, d1, f1⟩ := loop_ex (fun k s => bm_run S (d + 1) 210 2 [some (.ref 218), some (.int (nI m)), some (.int (nI k))] [] s) (fun k s => s.1 219 = ptB B D m k ∧ (∀ l, l < L → tb (s.1 218 21) l = if l < k then ptD B m D l else D l) ∧ Fp σ s) L σ ⟨hB, fun l hl => by rw [if_neg (by omega)]; exact hD l hl, Fp.rfl σ⟩ (by
    intro k s hk hp
    obtain ⟨h1, d1, f1⟩ := hp
    have o1 : ptB B D m k 25 = nI L := by rw [ptB_out (by omega), ← hB]; exact h.l
    have eo : ptB B D m k (32 + k) = B (32 + k) := ptB_out (by omega)
    have es : ptB B D m (k + 1) = ptS D (nI m) (ptB B D m k) k := rfl
    have dk : tb (s.1 218 21) k = D k := by rw [d1 k hk, if_neg (by omega)]
    have stay : (D k && decide (B (32 + k) = nI m)) = false → ∀ l, l < L → tb (s.1 218 21) l = if l < k + 1 then ptD B m D l else D l := by
      intro z l hl
      rw [d1 l hl]
      by_cases e : l = k
      · subst e
        rw [if_neg (by omega), if_pos (by omega)]
        unfold ptD
        cases hx : D l
        · rfl
        · rw [hx] at z; simp at z; simp [z]
      · by_cases e1 : l < k
        · rw [if_pos e1, if_pos (by omega)]
        · rw [if_neg e1, if_neg (by omega)]
    rw [es]
    generalize ptB B D m k = C at h1 o1 eo
    unfold ptS
    rw [eo]
    cases hd : D k
    · rw [hd] at dk
      refine ⟨s, ?_, by simpa using h1, stay (by simp [hd]), f1⟩
      rw [g210_2]
      simp (disch := omega) only [bm_run_ite, Option.toList_some, Option.bind_some, Option.toList_some, Option.toList_none, List.cons_append, List.nil_append, List.append_nil, eq_self, not_true_eq_false, not_false_eq_true, ite_true, ite_false, ↓reduceIte, Nat.reduceLT, Nat.reduceEqDiff, Nat.reduceAdd, or_true, true_or, or_false, false_or, nI_clamp2, nI_lt0F, nI_leT, nI_leF, nI_ltT, nI_ltF, n_leF, n_leT, nI_1, kA6, kA8, kA10, kA22, kA26, kA32, kA44, kA56, kA68, kA80, kA93, kA163, kA794, not_or, or_self, and_self, and_true, true_and, g210_0, g210_13, g210_22, g210_25, g210_38, g210_41, g210_68, g210_74, h1, o1, m176 _ (show k < 32 by omega), dk, bI_ite, Bool.false_eq_true]
    · rw [hd] at dk
      by_cases q : B (32 + k) = nI m
      · refine ⟨bm_wi (bm_wi s 219 (68 + k) (C (68 + k) + 1)) 218 21 (s.1 218 21 &&& (bt k ^^^ Int32.ofInt (-1))), ?_, ?_, ?_, (f1.w17 _ _).w16 _⟩
        · have bk : (1 : Int32) <<< (nI k &&& 31) = bt k := rfl
          have r16 : ∀ x, (bm_wi s 219 (68 + k) x).1 218 = s.1 218 := fun x => wi_n _ (by decide) _ _
          rw [g210_2]
          simp (disch := omega) only [bm_run_ite, Option.toList_some, Option.bind_some, Option.toList_some, Option.toList_none, List.cons_append, List.nil_append, List.append_nil, eq_self, not_true_eq_false, not_false_eq_true, ite_true, ite_false, ↓reduceIte, Nat.reduceLT, Nat.reduceEqDiff, Nat.reduceAdd, or_true, true_or, or_false, false_or, nI_clamp2, nI_lt0F, nI_leT, nI_leF, nI_ltT, nI_ltF, n_leF, n_leT, nI_1, kA6, kA8, kA10, kA22, kA26, kA32, kA44, kA56, kA68, kA80, kA93, kA163, kA794, not_or, or_self, and_self, and_true, true_and, g210_0, g210_13, g210_22, g210_25, g210_38, g210_41, g210_68, g210_74, h1, o1, m176 _ (show k < 32 by omega), dk, bI_ite, eo, q, bk, r16]
        · rw [wi_n _ (by decide), wi_s, h1]; simp [q]
        · intro l hl
          rw [wi_s, upd_s, tb_clr _ (by omega) (by omega), d1 l hl]
          by_cases e : l = k
          · subst e; simp [ptD, q]
          · by_cases e1 : l < k
            · rw [if_pos e1, if_pos (by omega)]; simp [e]
            · rw [if_neg e1, if_neg (by omega)]; simp [e]
      · refine ⟨s, ?_, by simpa [q] using h1, stay (by simp [q]), f1⟩
        rw [g210_2]
        simp (disch := omega) only [bm_run_ite, Option.toList_some, Option.bind_some, Option.toList_some, Option.toList_none, List.cons_append, List.nil_append, List.append_nil, eq_self, not_true_eq_false, not_false_eq_true, ite_true, ite_false, ↓reduceIte, Nat.reduceLT, Nat.reduceEqDiff, Nat.reduceAdd, or_true, true_or, or_false, false_or, nI_clamp2, nI_lt0F, nI_leT, nI_leF, nI_ltT, nI_ltF, n_leF, n_leT, nI_1, kA6, kA8, kA10, kA22, kA26, kA32, kA44, kA56, kA68, kA80, kA93, kA163, kA794, not_or, or_self, and_self, and_true, true_and, g210_0, g210_13, g210_22, g210_25, g210_38, g210_41, g210_68, g210_74, h1, o1, m176 _ (show k < 32 by omega), dk, bI_ite, eo, q])
  refine ⟨σ1, ?_, h1, fun l hl => by rw [d1 l hl, if_pos hl], f1⟩
  have o1 : ptB B D m L 25 = nI L := by rw [ptB_out (by omega), ← hB]; exact h.l
  rw [e210, g210_0]
  refine (show bm_run S (d + 1) 210 2 [some (.ref 218), some (.int (nI m)), some (.int (nI 0))] [] _ = _ from e1).trans ?_
  rw [g210_2]
  simp (disch := omega) only [bm_run_ite, Option.toList_some, Option.bind_some, Option.toList_some, Option.toList_none, List.cons_append, List.nil_append, List.append_nil, eq_self, not_true_eq_false, not_false_eq_true, ite_true, ite_false, ↓reduceIte, Nat.reduceLT, Nat.reduceEqDiff, Nat.reduceAdd, or_true, true_or, or_false, false_or, nI_clamp2, nI_lt0F, nI_leT, nI_leF, nI_ltT, nI_ltF, n_leF, n_leT, nI_1, kA6, kA8, kA10, kA22, kA26, kA32, kA44, kA56, kA68, kA80, kA93, kA163, kA794, not_or, or_self, and_self, and_true, true_and, g210_74, h1, o1]
end MFAIR
