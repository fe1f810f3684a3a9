section MREAD
variable {S : am_S} {d : Nat} {σ : bm_S} {T : Nat → Int32} {n : Nat} {g r : Nat → Int32}
/-- what has been laid down of a code -/
def CD (C : List Int32) (r : Nat → Int32) : Prop := r 793 = nI C.length ∧ ∀ m, m < C.length → r (794 + m) = C.getD m 0
def FR (r r1 : Nat → Int32) : Prop := ∀ m, m < 793 → r1 m = r m
theorem FR.rfl (r : Nat → Int32) : FR r r := fun _ _ => Eq.refl _
theorem FR.tr {r s t : Nat → Int32} (a : FR r s) (b : FR s t) : FR r t := fun m h => (b m h).trans (a m h)
theorem m178 {C : List Int32} (hg : g 11 = 0) (hc : CD C r) (hl : C.length < 900) (x : Int32) : ∃ r1, bm_call S d 178 [.ref 218, .int x] (st2 σ g r) = some (none, st2 σ g r1) ∧ CD (C ++ [x]) r1 ∧ FR r r1 := by
  obtain ⟨c1, c2⟩ := hc
  have e11 : (st2 σ g r).1 218 11 = 0 := by rw [s2_16]; exact hg
  have e93 : (st2 σ g r).1 222 793 = nI C.length := by rw [s2_20]; exact c1
  have a7 : (794 : Int32) + nI C.length = nI (794 + C.length) := nI_add 794 C.length
  have bd : ¬ (nI (794 + C.length) < 0 ∨ 1694 ≤ 794 + C.length) := by rintro (z | z); exact nI_pos (by omega) z; omega
  have f93 : ∀ y, (st2 σ g (upd r (794 + C.length) y)).1 222 793 = nI C.length := fun y => by rw [s2_20, upd_n _ _ (by omega)]; exact c1
  refine ⟨upd (upd r (794 + C.length) x) 793 (nI (C.length + 1)), ?_, ⟨by rw [upd_s]; simp, fun m hm => ?_⟩, fun m hm => by rw [upd_n _ _ (by omega), upd_n _ _ (by omega)]⟩
  · simp only [e178, g178_0, g178_8, bm_run_ite, Option.toList_some, Option.bind_some, Option.toList_some, Option.toList_none, List.cons_append, List.nil_append, List.append_nil, eq_self, not_true_eq_false, not_false_eq_true, ite_true, ite_false, ↓reduceIte, Nat.reduceLT, Nat.reduceEqDiff, Nat.reduceAdd, or_true, true_or, or_false, false_or, e11, e93, a7, nI_clamp2 (show 794 + C.length < 2147483648 by omega), bd, s2_wr, f93, nI_1]
  · simp at hm
    rw [upd_n _ _ (by omega)]
    by_cases e : m = C.length
    · subst e; rw [upd_s]; simp
    · rw [upd_n _ _ (by omega), c2 m (by omega)]
      simp [List.getD_eq_getElem?_getD, List.getElem?_append_left (show m < C.length by omega)]
theorem m178e (hg : ¬ g 11 = 0) (x : Int32) : bm_call S d 178 [.ref 218, .int x] (st2 σ g r) = some (none, st2 σ g r) := by
  have e11 : (st2 σ g r).1 218 11 = g 11 := by rw [s2_16]
  simp only [e178, g178_0, g178_7, bm_run_ite, Option.toList_some, Option.bind_some, Option.toList_some, Option.toList_none, List.cons_append, List.nil_append, List.append_nil, eq_self, not_true_eq_false, not_false_eq_true, ite_true, ite_false, ↓reduceIte, Nat.reduceLT, Nat.reduceEqDiff, Nat.reduceAdd, or_true, true_or, or_false, false_or, e11, hg]
/-! a fault stays -/
theorem m173e (hg : ¬ g 11 = 0) (k : Int32) : bm_call S d 173 [.ref 218, .int k] (st2 σ g r) = some (some (.int 0), st2 σ g r) := by
  have := m173 (S := S) (d := d) (σ := σ) (g := g) (r := r) k
  rw [decide_eq_false hg, Bool.false_and] at this
  exact this
theorem m174e (hg : ¬ g 11 = 0) (k : Int32) : bm_call S (d + 1) 174 [.ref 218, .int k] (st2 σ g r) = some (some (.int 0), st2 σ g r) := m174n (fun h => hg h.1)
theorem m180e (hg : ¬ g 11 = 0) (op : Int32) : bm_call S (d + 1) 180 [.ref 218, .int op] (st2 σ g r) = some (none, st2 σ g r) := by
  have e11 : (st2 σ g r).1 218 11 = g 11 := by rw [s2_16]
  simp (decide := true) only [e180, g180_0, g180_6, g180_24, g180_66, g180_72, g180_108, g180_113, bm_run_ite, Option.toList_some, Option.bind_some, Option.toList_some, Option.toList_none, List.cons_append, List.nil_append, List.append_nil, eq_self, not_true_eq_false, not_false_eq_true, ite_true, ite_false, ↓reduceIte, Nat.reduceLT, Nat.reduceEqDiff, Nat.reduceAdd, or_true, true_or, or_false, false_or, m173e hg, m172e hg, e11, hg]
theorem m181e (hg : ¬ g 11 = 0) (op : Int32) : bm_call S (d + 2) 181 [.ref 218, .int op] (st2 σ g r) = some (none, st2 σ g r) := by
  simp (decide := true) only [e181, g181_0, g181_5, g181_11, g181_29, bm_run_ite, Option.toList_some, Option.bind_some, Option.toList_some, Option.toList_none, List.cons_append, List.nil_append, List.append_nil, eq_self, not_true_eq_false, not_false_eq_true, ite_true, ite_false, ↓reduceIte, Nat.reduceLT, Nat.reduceEqDiff, Nat.reduceAdd, or_true, true_or, or_false, false_or, m180e hg, m174e hg]
theorem m182e (hg : ¬ g 11 = 0) (op : Int32) : bm_call S (d + 3) 182 [.ref 218, .int op] (st2 σ g r) = some (none, st2 σ g r) := by
  simp (decide := true) only [e182, g182_0, g182_5, g182_11, g182_14, g182_20, g182_59, bm_run_ite, Option.toList_some, Option.bind_some, Option.toList_some, Option.toList_none, List.cons_append, List.nil_append, List.append_nil, eq_self, not_true_eq_false, not_false_eq_true, ite_true, ite_false, ↓reduceIte, Nat.reduceLT, Nat.reduceEqDiff, Nat.reduceAdd, or_true, true_or, or_false, false_or, m181e hg, m173e hg]
theorem m183e (hg : ¬ g 11 = 0) (op : Int32) : bm_call S (d + 4) 183 [.ref 218, .int op] (st2 σ g r) = some (none, st2 σ g r) := by
  simp (decide := true) only [e183, g183_0, g183_6, g183_9, g183_14, g183_17, g183_18, g183_25, g183_32, g183_33, g183_39, g183_42, g183_47, g183_50, g183_51, g183_58, g183_64, g183_67, g183_72, g183_73, g183_78, g183_84, g183_87, g183_93, g183_99, g183_102, g183_108, g183_111, g183_118, g183_121, g183_127, g183_130, g183_136, g183_139, g183_143, g183_146, g183_151, g183_156, g183_161, bm_run_ite, Option.toList_some, Option.bind_some, Option.toList_some, Option.toList_none, List.cons_append, List.nil_append, List.append_nil, eq_self, not_true_eq_false, not_false_eq_true, ite_true, ite_false, ↓reduceIte, Nat.reduceLT, Nat.reduceEqDiff, Nat.reduceAdd, or_true, true_or, or_false, false_or, m182e hg, m173e hg, m172e hg, m178e hg]
theorem m184e (hg : ¬ g 11 = 0) (op : Int32) : bm_call S (d + 5) 184 [.ref 218, .int op] (st2 σ g r) = some (none, st2 σ g r) := by
  simp (decide := true) only [e184, g184_0, g184_5, g184_11, g184_29, bm_run_ite, Option.toList_some, Option.bind_some, Option.toList_some, Option.toList_none, List.cons_append, List.nil_append, List.append_nil, eq_self, not_true_eq_false, not_false_eq_true, ite_true, ite_false, ↓reduceIte, Nat.reduceLT, Nat.reduceEqDiff, Nat.reduceAdd, or_true, true_or, or_false, false_or, m183e hg, m174e hg]
theorem m185e (hg : ¬ g 11 = 0) (op : Int32) : bm_call S (d + 6) 185 [.ref 218, .int op] (st2 σ g r) = some (none, st2 σ g r) := by
  simp (decide := true) only [e185, g185_0, g185_5, g185_11, g185_29, bm_run_ite, Option.toList_some, Option.bind_some, Option.toList_some, Option.toList_none, List.cons_append, List.nil_append, List.append_nil, eq_self, not_true_eq_false, not_false_eq_true, ite_true, ite_false, ↓reduceIte, Nat.reduceLT, Nat.reduceEqDiff, Nat.reduceAdd, or_true, true_or, or_false, false_or, m184e hg, m174e hg]
/-- what a reading comes to, in the reference -/
def MO (T : Nat → Int32) (n : Nat) (x : pzR) (g r : Nat → Int32) : Prop :=
  match x with
  | Sum.inl (j, C) => MT T n j g ∧ CD C r ∧ C.length ≤ j
  | Sum.inr (w, j) => MF T n w j g
/-- a call that reads -/
def MC (S : am_S) (D : Nat) (T : Nat → Int32) (n : Nat) (σ : bm_S) (m : Nat) (op : Int32) (x : pzR) (g r : Nat → Int32) : Prop := ∃ g1 r1, bm_call S D m [.ref 218, .int op] (st2 σ g r) = some (none, st2 σ g1 r1) ∧ FG g g1 ∧ FR r r1 ∧ MO T n x g1 r1
/-- a door: not, [ or ( -/
theorem m179 (h : tx T n σ) {i op : Nat} (m : MT T n i g) (ho : op ≤ 6) (hq : ¬ qN T n i = 22) : (op < 6 ∧ ∃ g1, bm_call S (d + 7) 179 [.ref 218, .int (nI op)] (st2 σ g r) = some (some (.int 1), st2 σ g1 r) ∧ MT T n (i + 1) g1 ∧ FG g g1) ∨ (op = 6 ∧ ∃ g1, bm_call S (d + 7) 179 [.ref 218, .int (nI op)] (st2 σ g r) = some (some (.int 0), st2 σ g1 r) ∧ MF T n 4 i g1 ∧ FG g g1) := by
  have e11 : ∀ g : Nat → Int32, (st2 σ g r).1 218 11 = g 11 := fun g => by rw [s2_16]
  rcases Nat.lt_or_ge op 6 with q | q
  · left
    refine ⟨q, ?_⟩
    obtain ⟨g1, k1, m1, f1⟩ := m171t (S := S) (d := d) (r := r) h m
    have n6 : ¬ nI op = 6 := fun z => by have := (nI_eq (a := op) (b := 6) (by omega) (by omega)).mp z; omega
    refine ⟨g1, ?_, m1, f1⟩
    simp (decide := true) only [e179, g179_0, g179_11, g179_18, g179_22, g179_29, g179_34, bm_run_ite, Option.toList_some, Option.bind_some, Option.toList_some, Option.toList_none, List.cons_append, List.nil_append, List.append_nil, eq_self, not_true_eq_false, not_false_eq_true, ite_true, ite_false, ↓reduceIte, Nat.reduceLT, Nat.reduceEqDiff, Nat.reduceAdd, or_true, true_or, or_false, false_or, n6, e11, m.1, k1, m1.1, if_true]
  · right
    have e6 : op = 6 := by omega
    subst e6
    refine ⟨rfl, ?_⟩
    obtain ⟨g1, k1, m1, f1⟩ := m172t (S := S) (d := d + 6) (σ := σ) (r := r) m (w := 4) (by decide)
    rw [if_neg hq] at m1
    refine ⟨g1, ?_, m1, f1⟩
    have n6 : nI 6 = 6 := rfl
    have b0 : ¬ g1 11 = 0 := by rw [m1.1]; decide
    simp (decide := true) only [e179, g179_0, g179_6, g179_11, g179_22, g179_33, g179_34, bm_run_ite, Option.toList_some, Option.bind_some, Option.toList_some, Option.toList_none, List.cons_append, List.nil_append, List.append_nil, eq_self, not_true_eq_false, not_false_eq_true, ite_true, ite_false, ↓reduceIte, Nat.reduceLT, Nat.reduceEqDiff, Nat.reduceAdd, or_true, true_or, or_false, false_or, n6, k1, e11, b0, if_true]
end MREAD
