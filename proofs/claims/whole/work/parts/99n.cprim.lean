/-- the tokens told, and no fault yet -/
def TAx (T : Nat → Int32) (n k : Nat) (σ : bm_S) : Prop := (σ.1 25 7 = nI k ∧ σ.1 25 2 = 0 ∧ σ.1 25 3 = Int32.ofInt (-1)) ∧ ∀ i, i < k → σ.1 39 i = kcT (tkN T n i).1 ∧ σ.1 40 i = (tkN T n i).2.1 ∧ σ.1 41 i = nI (tkN T n i).2.2.1
def ClT (T : Nat → Int32) (n K i : Nat) (σ : bm_S) : Prop := TAx T n (K + 1) σ ∧ σ.1 25 8 = nI i ∧ σ.1 25 9 = kcT (qN T n i)
def ClC (C : List Int32) (σ : bm_S) : Prop := σ.1 26 4 = nI C.length ∧ ∀ m, m < C.length → σ.1 27 m = trI (C.getD m 0)
def ClF (T : Nat → Int32) (n : Nat) (w : Int32) (i : Nat) (σ : bm_S) : Prop := σ.1 25 2 = w ∧ σ.1 25 3 = nI (sN T n i)
def Frd (σ τ : bm_S) : Prop := (∀ a, a ≠ 25 → a ≠ 26 → a ≠ 27 → τ.1 a = σ.1 a) ∧ (∀ b, b ≠ 2 → b ≠ 3 → b ≠ 8 → b ≠ 9 → b ≠ 10 → τ.1 25 b = σ.1 25 b) ∧ (∀ b, b ≠ 4 → τ.1 26 b = σ.1 26 b) ∧ τ.2 = σ.2
theorem Frd.rfl (σ : bm_S) : Frd σ σ := ⟨fun _ _ _ _ => Eq.refl _, fun _ _ _ _ _ _ => Eq.refl _, fun _ _ => Eq.refl _, Eq.refl _⟩
theorem Frd.tr {σ τ ρ : bm_S} (h : Frd σ τ) (k : Frd τ ρ) : Frd σ ρ := ⟨fun a x y z => (k.1 a x y z).trans (h.1 a x y z), fun b x1 x2 x3 x4 x5 => (k.2.1 b x1 x2 x3 x4 x5).trans (h.2.1 b x1 x2 x3 x4 x5), fun b x => (k.2.2.1 b x).trans (h.2.2.1 b x), k.2.2.2.trans h.2.2.2⟩
theorem Frd.w25 {σ τ : bm_S} (h : Frd σ τ) {b : Nat} (hb : b = 2 ∨ b = 3 ∨ b = 8 ∨ b = 9 ∨ b = 10) (x : Int32) : Frd σ (bm_wi τ 25 b x) := h.tr ⟨fun a y _ _ => wi_n _ y _ _, fun c x1 x2 x3 x4 x5 => by rw [wi_s, upd_n _ _ (by omega)], fun c _ => by rw [wi_n _ (by decide)], Eq.refl _⟩
theorem Frd.t {σ τ : bm_S} (h : Frd σ τ) {x : Int32} (e : σ.1 25 11 = x) : τ.1 25 11 = x := by rw [h.2.1 11 (by decide) (by decide) (by decide) (by decide) (by decide)]; exact e
theorem kc_inj : ∀ a, a < 35 → ∀ b, b < 35 → (kcT a = kcT b ↔ a = b) := by decide +kernel
theorem TAx_w {T : Nat → Int32} {n k : Nat} {σ τ : bm_S} (h : TAx T n k σ) (e7 : ∀ b, b = 2 ∨ b = 3 ∨ b = 7 → τ.1 25 b = σ.1 25 b) (e : ∀ a, a = 39 ∨ a = 40 ∨ a = 41 → τ.1 a = σ.1 a) : TAx T n k τ := ⟨⟨(e7 7 (by omega)).trans h.1.1, (e7 2 (by omega)).trans h.1.2.1, (e7 3 (by omega)).trans h.1.2.2⟩, fun i hi => by rw [e 39 (by omega), e 40 (by omega), e 41 (by omega)]; exact h.2 i hi⟩
section CPRIM
variable {S : am_S} {d : Nat} {σ : bm_S} {T : Nat → Int32} {n K : Nat}
theorem t26 : bm_tag 26 = 100 ∧ bm_tag 27 = 0 ∧ bm_len 27 = 900 := by decide +kernel
theorem c51 {i : Nat} (hK : K ≤ 900) (hi : i < K) (c : ClT T n K i σ) : ∃ σ1, bm_call S d 51 [.ref 25] σ = some (none, σ1) ∧ ClT T n K (i + 1) σ1 ∧ Frd σ σ1 ∧ ∀ C, ClC C σ → ClC C σ1 := by
  obtain ⟨t, c8, c9⟩ := c
  have f8 : (bm_wi σ 25 8 (nI (i + 1))).1 25 8 = nI (i + 1) := by rw [wi_s, upd_s]
  have f39 : (bm_wi σ 25 8 (nI (i + 1))).1 39 = σ.1 39 := wi_n _ (by decide) _ _
  have n0 : ¬ nI (i + 1) < 0 := nI_pos (by omega)
  have n9 : ¬ (901 : Int32) ≤ nI (i + 1) := nI_ge (b := 901) (by omega) (by decide)
  have b9 : ¬ 901 ≤ i + 1 := by omega
  have ek : σ.1 39 (i + 1) = kcT (qN T n (i + 1)) := (t.2 (i + 1) (by omega)).1
  refine ⟨bm_wi (bm_wi σ 25 8 (nI (i + 1))) 25 9 (kcT (qN T n (i + 1))), ?_, ⟨TAx_w t (fun b hb => by rw [wi_s, upd_n _ _ (by omega), wi_s, upd_n _ _ (by omega)]) (fun a ha => by rw [wi_n _ (by omega), wi_n _ (by omega)]), by rw [wi_s, upd_n _ _ (by decide)]; exact f8, by rw [wi_s, upd_s]⟩, ((Frd.rfl σ).w25 (by omega) _).w25 (by omega) _, fun C hC => ⟨by rw [wi_n _ (by decide), wi_n _ (by decide)]; exact hC.1, fun m hm => by rw [wi_n _ (by decide), wi_n _ (by decide)]; exact hC.2 m hm⟩⟩
  simp (decide := true) only [e51, g51_0, g51_18, g51_30, g51_43, bm_run_ite, Option.toList_some, Option.bind_some, Option.toList_some, Option.toList_none, List.cons_append, List.nil_append, List.append_nil, eq_self, not_true_eq_false, not_false_eq_true, ite_true, ite_false, ↓reduceIte, Nat.reduceLT, Nat.reduceEqDiff, Nat.reduceAdd, or_true, true_or, or_false, false_or, c8, nI_1, f8, n0, n9, nI_clamp2 (show i + 1 < 2147483648 by omega), b9, f39, ek]
theorem c52 {i : Nat} {w : Int32} (hK : K ≤ 900) (hi : i ≤ K) (c : ClT T n K i σ) : ∃ σ1, bm_call S d 52 [.ref 25, .int w] σ = some (some (.int 0), σ1) ∧ ClF T n (if qN T n i = 22 then 1 else w) i σ1 ∧ Frd σ σ1 := by
  obtain ⟨t, c8, c9⟩ := c
  have k1 : kcT (qN T n i) = 1 ↔ qN T n i = 22 := kc_inj _ q_lt 22 (by decide)
  have n0 : ¬ nI i < 0 := nI_pos (by omega)
  have n9 : ¬ (901 : Int32) ≤ nI i := nI_ge (b := 901) (by omega) (by decide)
  have b9 : ¬ 901 ≤ i := by omega
  have f8 : ∀ x, (bm_wi σ 25 2 x).1 25 8 = nI i := fun x => by rw [wi_s, upd_n _ _ (by decide)]; exact c8
  have f41 : ∀ x, (bm_wi σ 25 2 x).1 41 i = nI (sN T n i) := fun x => by rw [wi_n _ (by decide)]; exact (t.2 i (by omega)).2.2
  refine ⟨bm_wi (bm_wi σ 25 2 (if qN T n i = 22 then 1 else w)) 25 3 (nI (sN T n i)), ?_, ⟨by rw [wi_s, upd_n _ _ (by decide), wi_s, upd_s], by rw [wi_s, upd_s]⟩, ((Frd.rfl σ).w25 (by omega) _).w25 (by omega) _⟩
  by_cases q : qN T n i = 22
  · have q2 := k1.mpr q
    rw [if_pos q]
    simp (decide := true) only [e52, g52_0, g52_9, g52_14, g52_25, g52_37, g52_50, bm_run_ite, Option.toList_some, Option.bind_some, Option.toList_some, Option.toList_none, List.cons_append, List.nil_append, List.append_nil, eq_self, not_true_eq_false, not_false_eq_true, ite_true, ite_false, ↓reduceIte, Nat.reduceLT, Nat.reduceEqDiff, Nat.reduceAdd, or_true, true_or, or_false, false_or, c9, q2, f8, n0, n9, nI_clamp2 (show i < 2147483648 by omega), b9, f41]
  · have q2 : ¬ kcT (qN T n i) = 1 := fun z => q (k1.mp z)
    rw [if_neg q]
    simp (decide := true) only [e52, g52_0, g52_13, g52_14, g52_25, g52_37, g52_50, bm_run_ite, Option.toList_some, Option.bind_some, Option.toList_some, Option.toList_none, List.cons_append, List.nil_append, List.append_nil, eq_self, not_true_eq_false, not_false_eq_true, ite_true, ite_false, ↓reduceIte, Nat.reduceLT, Nat.reduceEqDiff, Nat.reduceAdd, or_true, true_or, or_false, false_or, c9, q2, f8, n0, n9, nI_clamp2 (show i < 2147483648 by omega), b9, f41]
theorem c4 {C : List Int32} (c : ClC C σ) (hl : C.length < 900) (x : Int32) : ∃ σ1, bm_call S d 4 [.ref 26, .int (trI x)] σ = some (none, σ1) ∧ ClC (C ++ [x]) σ1 ∧ Frd σ σ1 ∧ ∀ i, ClT T n K i σ → ClT T n K i σ1 := by
  obtain ⟨c1, c2⟩ := c
  obtain ⟨a1, a2, a3⟩ := t26
  have n0 : ¬ nI C.length < 0 := nI_pos (by omega)
  have lt : nI C.length < Int32.ofNat 900 := nI_lt (b := 900) hl (by decide)
  have b9 : ¬ 900 ≤ C.length := by omega
  have f4 : (bm_wi σ 27 C.length (trI x)).1 26 4 = nI C.length := by rw [wi_n _ (by decide)]; exact c1
  refine ⟨bm_wi (bm_wi σ 27 C.length (trI x)) 26 4 (nI (C.length + 1)), ?_, ⟨by rw [wi_s, upd_s]; simp, fun m hm => ?_⟩, ⟨fun a x1 x2 x3 => by rw [wi_n _ x2, wi_n _ x3], fun b _ _ _ _ _ => by rw [wi_n _ (by decide), wi_n _ (by decide)], fun b hb => by rw [wi_s, upd_n _ _ hb, wi_n _ (by decide)], rfl⟩, fun i hi => ⟨TAx_w hi.1 (fun b _ => by rw [wi_n _ (by decide), wi_n _ (by decide)]) (fun a ha => by rw [wi_n _ (by omega), wi_n _ (by omega)]), by rw [wi_n _ (by decide), wi_n _ (by decide)]; exact hi.2.1, by rw [wi_n _ (by decide), wi_n _ (by decide)]; exact hi.2.2⟩⟩
  · simp (decide := true) only [e4, g4_0, g4_7, g4_20, bm_run_ite, Option.toList_some, Option.bind_some, Option.toList_some, Option.toList_none, List.cons_append, List.nil_append, List.append_nil, eq_self, not_true_eq_false, not_false_eq_true, ite_true, ite_false, ↓reduceIte, Nat.reduceLT, Nat.reduceEqDiff, Nat.reduceAdd, or_true, true_or, or_false, false_or, a1, a2, a3, c1, n0, lt, nI_clamp2 (show C.length < 2147483648 by omega), b9, f4, nI_1]
  · simp at hm
    rw [wi_n _ (by decide), wi_s]
    by_cases e : m = C.length
    · subst e; rw [upd_s]; simp
    · rw [upd_n _ _ e, c2 m (by omega)]
      simp [List.getD_eq_getElem?_getD, List.getElem?_append_left (show m < C.length by omega)]
/-- what a reading comes to, in the class -/
def ClO (T : Nat → Int32) (n K : Nat) (x : pzR) (b : Int32) (σ : bm_S) : Prop :=
  match x with
  | Sum.inl (j, C) => b = 1 ∧ ClT T n K j σ ∧ ClC C σ ∧ C.length ≤ j
  | Sum.inr (w, j) => b = 0 ∧ ClF T n w j σ
def ClM (S : am_S) (D : Nat) (T : Nat → Int32) (n K : Nat) (m : Nat) (As : List Value) (x : pzR) (σ : bm_S) : Prop := ∃ b σ1, bm_call S D m As σ = some (some (.int b), σ1) ∧ Frd σ σ1 ∧ ClO T n K x b σ1
theorem c53 {i w : Nat} {C : List Int32} (hK : tkK (qN T n) K) (hKn : K ≤ 900) (hi : i ≤ K) (hw : w < 35) (h21 : ¬ w = 21) (hC : C.length ≤ i) (c : ClT T n K i σ) (cc : ClC C σ) : ClM S (d + 1) T n K 53 [.ref 25, .int (kcT w)] (tkz (qN T n) w i C) σ := by
  unfold tkz
  by_cases q : qN T n i = w
  · obtain ⟨σ1, k1, x1, f1, y1⟩ := c51 (S := S) (d := d) hKn (lt_K hK hi (by rw [q]; exact h21)) c
    have e9 := c.2.2
    rw [q] at e9
    rw [if_pos q]
    refine ⟨1, σ1, ?_, f1, rfl, x1, y1 C cc, by omega⟩
    simp (decide := true) only [e53, g53_0, g53_14, g53_18, bm_run_ite, Option.toList_some, Option.bind_some, Option.toList_some, Option.toList_none, List.cons_append, List.nil_append, List.append_nil, eq_self, not_true_eq_false, not_false_eq_true, ite_true, ite_false, ↓reduceIte, Nat.reduceLT, Nat.reduceEqDiff, Nat.reduceAdd, or_true, true_or, or_false, false_or, e9, k1]
  · obtain ⟨σ1, k1, x1, f1⟩ := c52 (S := S) (d := d) (w := 2) hKn hi c
    have e9 := c.2.2
    have ne : ¬ kcT (qN T n i) = kcT w := fun z => q ((kc_inj _ q_lt w hw).mp z)
    rw [if_neg q]
    refine ⟨0, σ1, ?_, f1, rfl, x1⟩
    simp (decide := true) only [e53, g53_0, g53_8, g53_13, bm_run_ite, Option.toList_some, Option.bind_some, Option.toList_some, Option.toList_none, List.cons_append, List.nil_append, List.append_nil, eq_self, not_true_eq_false, not_false_eq_true, ite_true, ite_false, ↓reduceIte, Nat.reduceLT, Nat.reduceEqDiff, Nat.reduceAdd, or_true, true_or, or_false, false_or, e9, ne, k1, if_true]
theorem c65 {i : Nat} {C : List Int32} (hKn : K ≤ 900) (hi : i < K) (hC : C.length ≤ i) (c : ClT T n K i σ) (cc : ClC C σ) (x : Int32) : ClM S (d + 1) T n K 65 [.ref 25, .int (trI x)] (Sum.inl (i + 1, C ++ [x])) σ := by
  obtain ⟨σ1, k1, x1, f1, y1⟩ := c4 (S := S) (d := d) (T := T) (n := n) (K := K) cc (by omega) x
  obtain ⟨σ2, k2, x2, f2, y2⟩ := c51 (S := S) (d := d) hKn hi (y1 i c)
  refine ⟨1, σ2, ?_, f1.tr f2, rfl, x2, y2 _ x1, by rw [List.length_append]; show C.length + 1 ≤ i + 1; omega⟩
  simp (decide := true) only [e65, g65_0, g65_8, g65_12, bm_run_ite, Option.toList_some, Option.bind_some, Option.toList_some, Option.toList_none, List.cons_append, List.nil_append, List.append_nil, eq_self, not_true_eq_false, not_false_eq_true, ite_true, ite_false, ↓reduceIte, Nat.reduceLT, Nat.reduceEqDiff, Nat.reduceAdd, or_true, true_or, or_false, false_or, k1, k2]
def ofz (lvl : Nat) : Nat := if lvl ≤ 1 then lvl else lvl - 1
theorem c61 {i lvl : Nat} (hl : lvl = 0 ∨ lvl = 1 ∨ lvl = 3 ∨ lvl = 4) (c : ClT T n K i σ) : bm_call S d 61 [.ref 25, .int (nI (ofz lvl))] σ = some (some (.int (if opz lvl (qN T n i) = 0 then Int32.ofInt (-1) else trI (opz lvl (qN T n i)))), σ) := by
  have c9 := c.2.2
  have hq := q_lt (T := T) (n := n) (i := i)
  generalize qN T n i = q at *
  have kv : kcT 27 = 42 ∧ kcT 25 = 43 ∧ kcT 26 = 45 ∧ kcT 16 = 218 ∧ kcT 17 = 219 := by decide +kernel
  have ne : ∀ w, w < 35 → ¬ q = w → ¬ kcT q = kcT w := fun w hw a z => a ((kc_inj q hq w hw).mp z)
  by_cases a1 : q = 27
  · subst a1
    rw [kv.1] at c9
    rcases hl with rfl | rfl | rfl | rfl <;> simp (decide := true) only [e61, g61_0, g61_56, g61_60, g61_65, g61_66, g61_67, g61_72, g61_77, g61_78, g61_79, g61_84, g61_89, g61_90, g61_91, g61_96, g61_101, g61_102, g61_103, g61_108, g61_113, g61_114, g61_115, bm_run_ite, Option.toList_some, Option.bind_some, Option.toList_some, Option.toList_none, List.cons_append, List.nil_append, List.append_nil, eq_self, not_true_eq_false, not_false_eq_true, ite_true, ite_false, ↓reduceIte, Nat.reduceLT, Nat.reduceEqDiff, Nat.reduceAdd, or_true, true_or, or_false, false_or, c9, ofz, opz] <;> rfl
  by_cases a2 : q = 25
  · subst a2
    rw [kv.2.1] at c9
    rcases hl with rfl | rfl | rfl | rfl <;> simp (decide := true) only [e61, g61_0, g61_56, g61_60, g61_65, g61_66, g61_67, g61_72, g61_77, g61_78, g61_79, g61_84, g61_89, g61_90, g61_91, g61_96, g61_101, g61_102, g61_103, g61_108, g61_113, g61_114, g61_115, bm_run_ite, Option.toList_some, Option.bind_some, Option.toList_some, Option.toList_none, List.cons_append, List.nil_append, List.append_nil, eq_self, not_true_eq_false, not_false_eq_true, ite_true, ite_false, ↓reduceIte, Nat.reduceLT, Nat.reduceEqDiff, Nat.reduceAdd, or_true, true_or, or_false, false_or, c9, ofz, opz] <;> rfl
  by_cases a3 : q = 26
  · subst a3
    rw [kv.2.2.1] at c9
    rcases hl with rfl | rfl | rfl | rfl <;> simp (decide := true) only [e61, g61_0, g61_56, g61_60, g61_65, g61_66, g61_67, g61_72, g61_77, g61_78, g61_79, g61_84, g61_89, g61_90, g61_91, g61_96, g61_101, g61_102, g61_103, g61_108, g61_113, g61_114, g61_115, bm_run_ite, Option.toList_some, Option.bind_some, Option.toList_some, Option.toList_none, List.cons_append, List.nil_append, List.append_nil, eq_self, not_true_eq_false, not_false_eq_true, ite_true, ite_false, ↓reduceIte, Nat.reduceLT, Nat.reduceEqDiff, Nat.reduceAdd, or_true, true_or, or_false, false_or, c9, ofz, opz] <;> rfl
  by_cases a4 : q = 16
  · subst a4
    rw [kv.2.2.2.1] at c9
    rcases hl with rfl | rfl | rfl | rfl <;> simp (decide := true) only [e61, g61_0, g61_56, g61_60, g61_65, g61_66, g61_67, g61_72, g61_77, g61_78, g61_79, g61_84, g61_89, g61_90, g61_91, g61_96, g61_101, g61_102, g61_103, g61_108, g61_113, g61_114, g61_115, bm_run_ite, Option.toList_some, Option.bind_some, Option.toList_some, Option.toList_none, List.cons_append, List.nil_append, List.append_nil, eq_self, not_true_eq_false, not_false_eq_true, ite_true, ite_false, ↓reduceIte, Nat.reduceLT, Nat.reduceEqDiff, Nat.reduceAdd, or_true, true_or, or_false, false_or, c9, ofz, opz] <;> rfl
  by_cases a5 : q = 17
  · subst a5
    rw [kv.2.2.2.2] at c9
    rcases hl with rfl | rfl | rfl | rfl <;> simp (decide := true) only [e61, g61_0, g61_56, g61_60, g61_65, g61_66, g61_67, g61_72, g61_77, g61_78, g61_79, g61_84, g61_89, g61_90, g61_91, g61_96, g61_101, g61_102, g61_103, g61_108, g61_113, g61_114, g61_115, bm_run_ite, Option.toList_some, Option.bind_some, Option.toList_some, Option.toList_none, List.cons_append, List.nil_append, List.append_nil, eq_self, not_true_eq_false, not_false_eq_true, ite_true, ite_false, ↓reduceIte, Nat.reduceLT, Nat.reduceEqDiff, Nat.reduceAdd, or_true, true_or, or_false, false_or, c9, ofz, opz] <;> rfl
  have b1 := ne 27 (by decide) a1
  have b2 := ne 25 (by decide) a2
  have b3 := ne 26 (by decide) a3
  have b4 := ne 16 (by decide) a4
  have b5 := ne 17 (by decide) a5
  rw [kv.1] at b1
  rw [kv.2.1] at b2
  rw [kv.2.2.1] at b3
  rw [kv.2.2.2.1] at b4
  rw [kv.2.2.2.2] at b5
  have o : opz lvl q = 0 := by unfold opz; simp [a1, a2, a3, a4, a5]
  rw [if_pos o]
  simp (decide := true) only [e61, g61_0, g61_115, bm_run_ite, Option.toList_some, Option.bind_some, Option.toList_some, Option.toList_none, List.cons_append, List.nil_append, List.append_nil, eq_self, not_true_eq_false, not_false_eq_true, ite_true, ite_false, ↓reduceIte, Nat.reduceLT, Nat.reduceEqDiff, Nat.reduceAdd, or_true, true_or, or_false, false_or, c9, b1, b2, b3, b4, b5]
end CPRIM
