/-! laws on both sides -/
def clW (x : Int32) : Int32 := if 1 ≤ x then (if x ≤ 999 then x else 999) else 1
def woB (B : Nat → Int32) (money fair : Int32) : Int32 := if B 4 = 0 then (10 : Int32) + money else clW ((evF (wd (B 1) fair money 0 0) B (cN (B 6)) (cN (B 8))).2 0)
def tmB (B : Nat → Int32) (m c s : Int32) : Bool := if B 5 = 0 then false else decide ((evF (wd (B 1) (B 22) m c s) B (cN (B 7)) (cN (B 9))).2 0 = 1)
def LW (B : Nat → Int32) : Prop := ¬ B 1 = 0 ∧ (¬ B 4 = 0 → ∃ p n, B 6 = nI p ∧ B 8 = nI n ∧ wfL false B p n) ∧ (¬ B 5 = 0 → ∃ p n, B 7 = nI p ∧ B 9 = nI n ∧ wfL true B p n)
def BK (σ : bm_S) (b : Nat) (B : Nat → Int32) : Prop := isBk b ∧ (σ.1 b 0 = B 1 ∧ σ.1 b 1 = B 2 ∧ σ.1 b 2 = B 0) ∧ (B 4 = 0 → σ.1 b 5 = σ.1 b 6) ∧ (¬ B 4 = 0 → σ.1 b 5 = B 6 ∧ σ.1 b 6 = B 6 + B 8 ∧ CK σ b B (cN (B 6)) (cN (B 8))) ∧ (B 5 = 0 → σ.1 b 7 = σ.1 b 8) ∧ (¬ B 5 = 0 → σ.1 b 7 = B 7 ∧ σ.1 b 8 = B 7 + B 9 ∧ CK σ b B (cN (B 7)) (cN (B 9)))
theorem BK.of {σ τ : bm_S} {b : Nat} {B : Nat → Int32} (h : BK σ b B) (e0 : τ.1 b = σ.1 b) (e1 : τ.1 (b + 1) = σ.1 (b + 1)) : BK τ b B := by
  unfold BK CK at h ⊢
  rw [e0, e1]
  exact h
theorem BK.row {σ : bm_S} {b : Nat} {B : Nat → Int32} (h : BK σ b B) (g : Nat → Int32) : BK (bm_row σ (b + 2) g) b B := h.of (bm_row_1n σ g (by omega)) (bm_row_1n σ g (by omega))
theorem wfL.n1 {time : Bool} {B : Nat → Int32} {p n : Nat} (h : wfL time B p n) : 0 < n := by
  rcases Nat.eq_zero_or_pos n with q | q
  · subst q
    have := h.2.1
    simp [tyF] at this
  · exact q
section WORTH
variable {S : am_S} {d : Nat} {σ : bm_S}
theorem m199 {law p n : Nat} (hl : law ≤ 1) (hp : σ.1 219 (6 + law) = nI p) (hn : σ.1 219 (8 + law) = nI n) {time : Bool} (hw : wfL time (σ.1 219) p n) (hF : ¬ σ.1 219 1 = 0) (fair : Int32) : ∃ g1, bm_call S (d + 1) 199 [.ref 218, .int (nI law), .int fair] σ = some (some (.int ((evF (upd (upd (σ.1 224) 0 (am_rem fair (σ.1 219 1))) 1 (fair / σ.1 219 1)) (σ.1 219) p n).2 0)), bm_row (bm_row σ 224 (upd (upd (σ.1 224) 0 (am_rem fair (σ.1 219 1))) 1 (fair / σ.1 219 1))) 223 g1) := by
  obtain ⟨w1, w2, w3⟩ := hw
  generalize hW : upd (upd (σ.1 224) 0 (am_rem fair (σ.1 219 1))) 1 (fair / σ.1 219 1) = W
  have key := evF_ty W (time := time) (B := σ.1 219) (p := p) (n := n) ⟨w1, w2, w3⟩
  obtain ⟨⟨o5, g1⟩, e1, q1⟩ := loop_ex (fun k (q : Option Value × (Nat → Int32)) => bm_run S (d + 1) 199 33 [some (.ref 218), some (.int (nI law)), am_clr (some (.int fair)), some (.int (nI (evF W (σ.1 219) p k).1)), some (.int (nI k)), q.1] [] (bm_row (bm_row σ 224 W) 223 q.2)) (fun k q => agr (evF W (σ.1 219) p k).1 q.2 (evF W (σ.1 219) p k).2) n (none, σ.1 223) (fun i hi => absurd hi (by simp [evF])) (by
    intro k q hk hq
    obtain ⟨t, ht, hh, _⟩ := key k (by omega)
    obtain ⟨tn, htn, hhn, _⟩ := key (k + 1) (by omega)
    obtain ⟨ok, hlen⟩ := w3 k hk
    have hl := hlen t ht
    have r7 : ∀ g : Nat → Int32, (bm_row (bm_row σ 224 W) 223 g).1 219 = σ.1 219 := fun g => (bm_row_1n _ g (by decide)).trans (bm_row_1n _ W (by decide))
    have r2 : ∀ g : Nat → Int32, (bm_row (bm_row σ 224 W) 223 g).1 224 = W := fun g => (bm_row_1n _ g (by decide)).trans (bm_row_1s _ _ _)
    rw [tyF, ht] at htn
    replace htn : tyS (cdB (σ.1 219) p k) t = some tn := htn
    have cc : σ.1 219 (794 + p + k) = cdB (σ.1 219) p k := rfl
    generalize hE : evF W (σ.1 219) p k = E at *
    generalize hC : cdB (σ.1 219) p k = c at *
    have hsucc : evF W (σ.1 219) p (k + 1) = evS W c E := by rw [evF, hC, hE]
    rw [hsucc]
    have c3q : ∀ {x : Int32}, ¬ x < 3000 → (3000 : Int32) ≤ x := fun h => Int32.not_lt.mp h
    by_cases c3 : c < 3000
    · have hs : evS W c E = (E.1 + 1, upd E.2 E.1 (evV W c)) := by unfold evS; rw [if_pos c3]
      rw [hs]
      have c3n : ¬ (3000 : Int32) ≤ c := Int32.not_le.mpr c3
      refine ⟨(some (.int c), upd q.2 E.1 (evV W c)), ?_, agr_upd hq _⟩
      rcases ok with ⟨x, hx, rfl⟩ | e
      · have ev : evV W (nI x) = nI x := by unfold evV; rw [if_pos (lt1000 hx)]
        have n1 : ¬ (1000 : Int32) ≤ nI x := Int32.not_le.mpr (lt1000 hx)
        rw [g199_33]
        simp (disch := omega) only [bm_run_ite, Option.toList_some, Option.bind_some, Option.toList_some, Option.toList_none, List.cons_append, List.nil_append, List.append_nil, eq_self, not_true_eq_false, not_false_eq_true, ite_true, ite_false, ↓reduceIte, Nat.reduceLT, Nat.reduceEqDiff, Nat.reduceAdd, or_true, true_or, or_false, false_or, nI_clamp2, nI_lt0F, nI_leT, nI_leF, nI_ltT, nI_ltF, n_leF, n_leT, nI_1, kA6, kA8, kA10, kA22, kA26, kA32, kA44, kA56, kA68, kA80, kA93, kA163, kA794, not_or, or_self, and_self, and_true, true_and, g199_0, g199_47, g199_78, g199_91, g199_96, g199_107, g199_114, g199_122, g199_143, g199_146, g199_172, g199_173, g199_179, r7, hp, hn, nI_add, cc, c3n, n1, ev, hh, wi_row, am_clr]
      · have hcw : c = 1000 ∨ c = 1001 ∨ c = 1002 ∨ c = 1003 ∨ c = 1004 ∨ c = 1005 := by
          rcases e with e | e | ⟨_, e⟩ | ⟨_, e⟩ | e | e
          · exact Or.inl e
          · exact Or.inr (Or.inl e)
          · exact Or.inr (Or.inr (Or.inl e))
          · exact Or.inr (Or.inr (Or.inr e))
          · rw [e] at c3; exact absurd c3 (by decide)
          · exact absurd c3 (isJ_ge e).1
        have n1 : (1000 : Int32) ≤ c := by rcases hcw with rfl | rfl | rfl | rfl | rfl | rfl <;> decide
        have n2 : ¬ c - 1000 < 0 := by rcases hcw with rfl | rfl | rfl | rfl | rfl | rfl <;> decide
        have n3 : ¬ 6 ≤ (c - 1000).toNatClampNeg := by rcases hcw with rfl | rfl | rfl | rfl | rfl | rfl <;> decide
        have ev : evV W c = W (c - 1000).toNatClampNeg := by unfold evV; rw [if_neg (Int32.not_lt.mpr n1)]; rfl
        rw [g199_33]
        simp (disch := omega) only [bm_run_ite, Option.toList_some, Option.bind_some, Option.toList_some, Option.toList_none, List.cons_append, List.nil_append, List.append_nil, eq_self, not_true_eq_false, not_false_eq_true, ite_true, ite_false, ↓reduceIte, Nat.reduceLT, Nat.reduceEqDiff, Nat.reduceAdd, or_true, true_or, or_false, false_or, nI_clamp2, nI_lt0F, nI_leT, nI_leF, nI_ltT, nI_ltF, n_leF, n_leT, nI_1, kA6, kA8, kA10, kA22, kA26, kA32, kA44, kA56, kA68, kA80, kA93, kA163, kA794, not_or, or_self, and_self, and_true, true_and, g199_0, g199_47, g199_78, g199_91, g199_96, g199_107, g199_114, g199_122, g199_143, g199_146, g199_172, g199_173, g199_179, r7, r2, hp, hn, nI_add, cc, c3n, n1, n2, n3, ev, hh, wi_row, am_clr]
    · have c3p := c3q c3
      by_cases c6 : c = 3006
      · subst c6
        have hs : evS W 3006 E = (E.1, upd E.2 (E.1 - 1) (1 - E.2 (E.1 - 1))) := by unfold evS; rw [if_neg c3, if_pos rfl]
        obtain ⟨r, rfl⟩ : ∃ r, t = true :: r := by
          unfold tyS at htn
          rw [if_neg c3, if_pos rfl] at htn
          split at htn
          · exact ⟨_, rfl⟩
          · cases htn
        have h1 : E.1 = r.length + 1 := by rw [hh]; simp
        rw [hs]
        have h2 : E.1 - 1 = r.length := by omega
        simp only [h2]
        simp only [h1]
        have hl2 : r.length < 60 := by simp at hl; omega
        have hq2 : q.2 r.length = E.2 r.length := hq _ (by omega)
        refine ⟨(some (.int 3006), upd q.2 r.length (1 - q.2 r.length)), ?_, ?_⟩
        · rw [g199_33]
          simp (disch := omega) only [bm_run_ite, Option.toList_some, Option.bind_some, Option.toList_some, Option.toList_none, List.cons_append, List.nil_append, List.append_nil, eq_self, not_true_eq_false, not_false_eq_true, ite_true, ite_false, ↓reduceIte, Nat.reduceLT, Nat.reduceEqDiff, Nat.reduceAdd, or_true, true_or, or_false, false_or, nI_clamp2, nI_lt0F, nI_leT, nI_leF, nI_ltT, nI_ltF, n_leF, n_leT, nI_1, kA6, kA8, kA10, kA22, kA26, kA32, kA44, kA56, kA68, kA80, kA93, kA163, kA794, not_or, or_self, and_self, and_true, true_and, g199_0, g199_47, g199_78, g199_91, g199_96, g199_107, g199_114, g199_122, g199_143, g199_146, g199_172, g199_173, g199_179, r7, hp, hn, nI_add, cc, c3p, nI_pred, wi_row, row_row1, am_clr]
        · rw [hq2]
          intro i hi
          simp only [upd]
          split
          · rfl
          · exact hq i (by omega)
      · have hJ : isJ c := by
          rcases ok with ⟨k, hk, e⟩ | e | e | ⟨_, e⟩ | ⟨_, e⟩ | e | e
          · exfalso; apply c3; rw [e]; exact nI_lt (b := 3000) (by omega) (by decide)
          · exfalso; apply c3; rw [e]; decide
          · exfalso; apply c3; rw [e]; decide
          · exfalso; apply c3; rw [e]; decide
          · exfalso; apply c3; rcases e with e | e | e <;> rw [e] <;> decide
          · exact absurd e c6
          · exact e
        obtain ⟨a, b1, b0, r, et, et1, _⟩ := tyS_J hJ htn
        subst et
        have hs : evS W c E = (E.1 - 1, upd E.2 (E.1 - 2) (btw c (E.2 (E.1 - 2)) (E.2 (E.1 - 1)))) := by unfold evS; rw [if_neg c3, if_neg c6]
        have h1 : E.1 = r.length + 1 + 1 := by rw [hh]; simp
        rw [hs]
        have h2 : E.1 - 1 = r.length + 1 := by omega
        have h3 : E.1 - 2 = r.length := by omega
        simp only [h2, h3]
        simp only [h1]
        have hl2 : r.length < 60 := by simp at hl; omega
        have q1 : q.2 r.length = E.2 r.length := hq _ (by omega)
        have q2 : q.2 (r.length + 1) = E.2 (r.length + 1) := hq _ (by omega)
        have s1 : ∀ x : Nat, nI (x + 1) + Int32.ofInt (-1) = nI x := by
          intro x; rw [show Int32.ofInt (-1) = -1 by decide, ← Int32.sub_eq_add_neg]; exact nI_pred x
        refine ⟨(some (.int c), upd q.2 r.length (btw c (q.2 r.length) (q.2 (r.length + 1)))), ?_, ?_⟩
        · rw [g199_33]
          simp (disch := omega) only [bm_run_ite, Option.toList_some, Option.bind_some, Option.toList_some, Option.toList_none, List.cons_append, List.nil_append, List.append_nil, eq_self, not_true_eq_false, not_false_eq_true, ite_true, ite_false, ↓reduceIte, Nat.reduceLT, Nat.reduceEqDiff, Nat.reduceAdd, or_true, true_or, or_false, false_or, nI_clamp2, nI_lt0F, nI_leT, nI_leF, nI_ltT, nI_ltF, n_leF, n_leT, nI_1, kA6, kA8, kA10, kA22, kA26, kA32, kA44, kA56, kA68, kA80, kA93, kA163, kA794, not_or, or_self, and_self, and_true, true_and, g199_0, g199_47, g199_78, g199_91, g199_96, g199_107, g199_114, g199_122, g199_143, g199_146, g199_172, g199_173, g199_179, r7, hp, hn, nI_add, cc, c3p, c6, s1, nI_pred, m198 hJ, wi_row, row_row1, am_clr]
        · rw [q1, q2]
          intro i hi
          simp only [upd]
          split
          · rfl
          · exact hq i (by omega))
  refine ⟨g1, ?_⟩
  obtain ⟨t, ht, hh, _⟩ := key n (Nat.le_refl n)
  rw [w2] at ht
  injection ht with ht
  subst ht
  have h1 : (evF W (σ.1 219) p n).1 = 1 := hh
  have v0 : g1 0 = (evF W (σ.1 219) p n).2 0 := q1 0 (by omega)
  have r7 : (bm_row (bm_row σ 224 W) 223 g1).1 219 = σ.1 219 := (bm_row_1n _ g1 (by decide)).trans (bm_row_1n _ W (by decide))
  have e2 : bm_row (bm_row σ 224 W) 223 (σ.1 223) = bm_row σ 224 W := by
    have := bm_row_self (bm_row σ 224 W) 223
    rw [bm_row_1n σ W (by decide)] at this
    exact this
  rw [e2] at e1
  have r8 : ∀ x : Int32, (bm_row σ 224 (upd (σ.1 224) 0 x)).1 219 = σ.1 219 := fun x => bm_row_1n _ _ (by decide)
  simp only [e199, g199_0, hF, ite_false, bm_wi_def, r8, row_row1, bm_row_row, hW]
  refine (show bm_run S (d + 1) 199 33 [some (.ref 218), some (.int (nI law)), am_clr (some (.int fair)), some (.int (nI 0)), some (.int (nI 0)), none] [] (bm_row σ 224 W) = _ from e1).trans ?_
  rw [g199_33]
  simp (disch := omega) only [bm_run_ite, Option.toList_some, Option.bind_some, Option.toList_some, Option.toList_none, List.cons_append, List.nil_append, List.append_nil, eq_self, not_true_eq_false, not_false_eq_true, ite_true, ite_false, ↓reduceIte, Nat.reduceLT, Nat.reduceEqDiff, Nat.reduceAdd, or_true, true_or, or_false, false_or, nI_clamp2, nI_lt0F, nI_leT, nI_leF, nI_ltT, nI_ltF, n_leF, n_leT, nI_1, kA6, kA8, kA10, kA22, kA26, kA32, kA44, kA56, kA68, kA80, kA93, kA163, kA794, not_or, or_self, and_self, and_true, true_and, g199_0, g199_47, g199_78, g199_91, g199_96, g199_107, g199_114, g199_122, g199_143, g199_146, g199_172, g199_173, g199_179, r7, hn, row_row1, v0, nI_add]
end WORTH
