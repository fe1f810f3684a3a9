/-- the words that a law may name -/
def wd (F fair m c s : Int32) : Nat → Int32 := fun i => if i = 0 then am_rem fair F else if i = 1 then fair / F else if i = 2 then m else if i = 3 then m else if i = 4 then c else s
/-- a book's code beside a row of the reference -/
def CK (σ : bm_S) (b : Nat) (B : Nat → Int32) (p n : Nat) : Prop := ∀ j, j < n → σ.1 (b + 1) (p + j) = trI (cdB B p j)
theorem evF_cg {W V B : Nat → Int32} {p n : Nat} {time : Bool} (h : wfL time B p n) (e0 : W 0 = V 0) (e1 : W 1 = V 1) (e2 : time = false → W 2 = V 2) (e3 : time = true → W 3 = V 3 ∧ W 4 = V 4 ∧ W 5 = V 5) : ∀ j, j ≤ n → evF W B p j = evF V B p j := by
  intro j
  induction j with
  | zero => intro _; rfl
  | succ j ih =>
    intro hj
    rw [evF, evF, ih (by omega)]
    have : cdB B p j < 3000 → evV W (cdB B p j) = evV V (cdB B p j) := by
      intro hc
      unfold evV
      have q0 : cN ((1000 : Int32) - 1000) = 0 := by decide
      have q1 : cN ((1001 : Int32) - 1000) = 1 := by decide
      have q2 : cN ((1002 : Int32) - 1000) = 2 := by decide
      have q3 : cN ((1003 : Int32) - 1000) = 3 := by decide
      have q4 : cN ((1004 : Int32) - 1000) = 4 := by decide
      have q5 : cN ((1005 : Int32) - 1000) = 5 := by decide
      rcases (h.2.2 j (by omega)).1 with ⟨k, hk, e⟩ | e | e | ⟨ht, e⟩ | ⟨ht, e⟩ | e | e
      · rw [e]
        have : nI k < 1000 := nI_lt (b := 1000) hk (by decide)
        rw [if_pos this, if_pos this]
      · rw [e, q0, e0]
      · rw [e, q1, e1]
      · rw [e, q2, e2 ht]
      · obtain ⟨f3, f4, f5⟩ := e3 ht
        rcases e with e | e | e <;> rw [e]
        · rw [q3, f3]
        · rw [q4, f4]
        · rw [q5, f5]
      · rw [e] at hc; exact absurd hc (by decide)
      · exact absurd hc (isJ_ge e).1
    unfold evS
    by_cases hc : cdB B p j < 3000
    · rw [if_pos hc, if_pos hc, this hc]
    · rw [if_neg hc, if_neg hc]
section RECK
variable {S : am_S} {d : Nat} {σ : bm_S}
theorem lt1000 {k : Nat} (h : k < 1000) : nI k < 1000 := nI_lt (b := 1000) h (by decide)
theorem trI_nI {k : Nat} (hk : k < 1000) : trI (nI k) = nI k := by
  unfold trI
  rw [if_pos (lt1000 hk)]
/-- what stands on the stack's places -/
def agr (n : Nat) (f g : Nat → Int32) : Prop := ∀ i, i < n → f i = g i
theorem agr_upd {n : Nat} {f g : Nat → Int32} (h : agr n f g) (x : Int32) : agr (n + 1) (upd f n x) (upd g n x) := by
  intro i hi
  simp only [upd]
  split
  · rfl
  · exact h i (by omega)
theorem c8 {b : Nat} (hb : bm_tag b = 100) {F : Int32} (hF : σ.1 b 0 = F) (hF0 : ¬ F = 0) (c fair m ca s : Int32) (hc : c = 1000 ∨ c = 1001 ∨ c = 1002 ∨ c = 1003 ∨ c = 1004 ∨ c = 1005) : bm_call S (d + 1) 8 [.ref b, .int (trI c), .int fair, .int m, .int ca, .int s] σ = some (some (.int (evV (wd F fair m ca s) c)), σ) := by
  have z : ¬ F.toInt64 = 0 := by
    intro q; apply hF0
    have : F.toInt64.toInt = (0 : Int64).toInt := by rw [q]
    rw [Int32.toInt_toInt64] at this
    exact Int32.toInt_inj.mp (by rw [this]; decide +kernel)
  rcases hc with rfl | rfl | rfl | rfl | rfl | rfl
  · simp (decide := true) only [trI, e8, g8_0, g8_32, g8_40, g8_41, g8_51, g8_53, g8_55, g8_58, bm_run_ite, Option.toList_some, Option.bind_some, Option.toList_some, Option.toList_none, List.cons_append, List.nil_append, List.append_nil, eq_self, not_true_eq_false, not_false_eq_true, ite_true, ite_false, ↓reduceIte, Nat.reduceLT, Nat.reduceEqDiff, Nat.reduceAdd, or_true, true_or, or_false, false_or, hb, hF, c161, hF0]; rfl
  · simp (decide := true) only [trI, e8, g8_0, g8_32, g8_40, g8_41, g8_51, g8_53, g8_55, g8_58, bm_run_ite, Option.toList_some, Option.bind_some, Option.toList_some, Option.toList_none, List.cons_append, List.nil_append, List.append_nil, eq_self, not_true_eq_false, not_false_eq_true, ite_true, ite_false, ↓reduceIte, Nat.reduceLT, Nat.reduceEqDiff, Nat.reduceAdd, or_true, true_or, or_false, false_or, hb, hF, c160, z, year_eq]; rfl
  · simp (decide := true) only [trI, e8, g8_0, g8_32, g8_40, g8_41, g8_51, g8_53, g8_55, g8_58, bm_run_ite, Option.toList_some, Option.bind_some, Option.toList_some, Option.toList_none, List.cons_append, List.nil_append, List.append_nil, eq_self, not_true_eq_false, not_false_eq_true, ite_true, ite_false, ↓reduceIte, Nat.reduceLT, Nat.reduceEqDiff, Nat.reduceAdd, or_true, true_or, or_false, false_or]; rfl
  · simp (decide := true) only [trI, e8, g8_0, g8_32, g8_40, g8_41, g8_51, g8_53, g8_55, g8_58, bm_run_ite, Option.toList_some, Option.bind_some, Option.toList_some, Option.toList_none, List.cons_append, List.nil_append, List.append_nil, eq_self, not_true_eq_false, not_false_eq_true, ite_true, ite_false, ↓reduceIte, Nat.reduceLT, Nat.reduceEqDiff, Nat.reduceAdd, or_true, true_or, or_false, false_or]; rfl
  · simp (decide := true) only [trI, e8, g8_0, g8_32, g8_40, g8_41, g8_51, g8_53, g8_55, g8_58, bm_run_ite, Option.toList_some, Option.bind_some, Option.toList_some, Option.toList_none, List.cons_append, List.nil_append, List.append_nil, eq_self, not_true_eq_false, not_false_eq_true, ite_true, ite_false, ↓reduceIte, Nat.reduceLT, Nat.reduceEqDiff, Nat.reduceAdd, or_true, true_or, or_false, false_or]; rfl
  · simp (decide := true) only [trI, e8, g8_0, g8_32, g8_40, g8_41, g8_51, g8_53, g8_55, g8_58, bm_run_ite, Option.toList_some, Option.bind_some, Option.toList_some, Option.toList_none, List.cons_append, List.nil_append, List.append_nil, eq_self, not_true_eq_false, not_false_eq_true, ite_true, ite_false, ↓reduceIte, Nat.reduceLT, Nat.reduceEqDiff, Nat.reduceAdd, or_true, true_or, or_false, false_or]; rfl
def isBk (b : Nat) : Prop := bm_tag b = 100 ∧ bm_tag (b + 1) = 0 ∧ bm_tag (b + 2) = 0 ∧ bm_len (b + 1) = 900 ∧ bm_len (b + 2) = 64
/-- one law of a book, told -/
theorem c7 {b : Nat} (hb : isBk b) {time : Bool} {B : Nat → Int32} {p n : Nat} {F : Int32} (hF : σ.1 b 0 = F) (hF0 : ¬ F = 0) (hw : wfL time B p n) (hc : CK σ b B p n) (h5 : time = false → σ.1 b 5 = nI p ∧ σ.1 b 6 = nI (p + n)) (h7 : time = true → σ.1 b 7 = nI p ∧ σ.1 b 8 = nI (p + n)) (fair m ca s : Int32) : ∃ g1, bm_call S (d + 2) 7 [.ref b, .int (bI time), .int fair, .int m, .int ca, .int s] σ = some (some (.int ((evF (wd F fair m ca s) B p n).2 0)), bm_row σ (b + 2) g1) := by
  obtain ⟨t0, t1, t2, l1, l2⟩ := hb
  obtain ⟨w1, w2, w3⟩ := hw
  have key := evF_ty (wd F fair m ca s) (time := time) (B := B) (p := p) (n := n) ⟨w1, w2, w3⟩
  obtain ⟨⟨o10, g1⟩, e1, q1⟩ := loop_ex (fun k (q : Option Value × (Nat → Int32)) => bm_run S (d + 2) 7 41 [some (.ref b), some (.int (bI time)), some (.int fair), some (.int m), some (.int ca), some (.int s), some (.int (nI p)), some (.int (nI (p + n))), some (.int (nI (evF (wd F fair m ca s) B p k).1)), some (.int (nI (p + k))), q.1] [] (bm_row σ (b + 2) q.2)) (fun k q => agr (evF (wd F fair m ca s) B p k).1 q.2 (evF (wd F fair m ca s) B p k).2) n (none, σ.1 (b + 2)) (fun i hi => absurd hi (by simp [evF])) (by
    intro k q hk hq
    obtain ⟨t, ht, hh, _⟩ := key k (by omega)
    obtain ⟨tn, htn, hhn, _⟩ := key (k + 1) (by omega)
    obtain ⟨ok, hlen⟩ := w3 k hk
    have hl := hlen t ht
    have r0 : ∀ g : Nat → Int32, (bm_row σ (b + 2) g).1 b = σ.1 b := fun g => bm_row_1n σ g (by omega)
    have r1 : ∀ g : Nat → Int32, (bm_row σ (b + 2) g).1 (b + 1) = σ.1 (b + 1) := fun g => bm_row_1n σ g (by omega)
    have cc := hc k hk
    have ea : ∀ g : Nat → Int32, bm_call S (d + 1) 158 [.ref (b + 1), .int (nI (p + k))] (bm_row σ (b + 2) g) = some (some (.int (trI (cdB B p k))), bm_row σ (b + 2) g) := by
      intro g
      rw [at_row t1 l1 (show p + k < 900 by omega) (by decide), r1, cc]
    have rg : ∀ (g : Nat → Int32) (i : Nat), i < 64 → bm_call S (d + 1) 158 [.ref (b + 2), .int (nI i)] (bm_row σ (b + 2) g) = some (some (.int (g i)), bm_row σ (b + 2) g) := by
      intro g i hi
      rw [at_row t2 l2 hi (by decide), row_row1]
    have sg : ∀ (g : Nat → Int32) (i : Nat) (x : Int32), i < 64 → bm_call S (d + 1) 159 [.ref (b + 2), .int (nI i), .int x] (bm_row σ (b + 2) g) = some (none, bm_row σ (b + 2) (upd g i x)) := by
      intro g i x hi
      rw [set_row t2 l2 hi (by decide), wi_row]
    have hN : p + k + 1 = p + (k + 1) := by omega
    have g0 : (bm_row σ (b + 2) q.2).1 b 0 = F := by rw [r0]; exact hF
    rw [evF] at hhn
    rw [tyF, ht] at htn
    replace htn : tyS (cdB B p k) t = some tn := htn
    generalize hE : evF (wd F fair m ca s) B p k = E at *
    generalize hC : cdB B p k = c at *
    have hsucc : evF (wd F fair m ca s) B p (k + 1) = evS (wd F fair m ca s) c E := by rw [evF, hC, hE]
    rw [hsucc]
    by_cases c3 : c < 3000
    · have hs : evS (wd F fair m ca s) c E = (E.1 + 1, upd E.2 E.1 (evV (wd F fair m ca s) c)) := by unfold evS; rw [if_pos c3]
      rw [hs]
      refine ⟨(some (.int (trI c)), upd q.2 E.1 (evV (wd F fair m ca s) c)), ?_, agr_upd hq _⟩
      rcases ok with ⟨x, hx, rfl⟩ | e
      · have n6 : ¬ nI x = Int32.ofInt (-6) := by
          intro z; have := nI_pos (show x < 2 ^ 31 by omega); rw [z] at this; exact this (by decide)
        have n10 : Int32.ofInt (-10) < nI x := by
          rcases Int32.lt_or_lt_of_ne (fun z => by have := nI_pos (show x < 2 ^ 31 by omega); rw [← z] at this; exact this (by decide) : Int32.ofInt (-10) ≠ nI x) with z | z
          · exact z
          · exact absurd (Int32.lt_trans z (by decide : Int32.ofInt (-10) < 0)) (nI_pos (by omega))
        have ev : evV (wd F fair m ca s) (nI x) = nI x := by unfold evV; rw [if_pos (lt1000 hx)]
        rw [g7_41]
        simp (disch := omega) only [bm_run_ite, Option.toList_some, Option.bind_some, Option.toList_some, Option.toList_none, List.cons_append, List.nil_append, List.append_nil, eq_self, not_true_eq_false, not_false_eq_true, ite_true, ite_false, ↓reduceIte, Nat.reduceLT, Nat.reduceEqDiff, Nat.reduceAdd, or_true, true_or, or_false, false_or, nI_clamp2, nI_lt0F, nI_leT, nI_leF, nI_ltT, nI_ltF, n_leF, n_leT, nI_1, kA6, kA8, kA10, kA22, kA26, kA32, kA44, kA56, kA68, kA80, kA93, kA163, kA794, not_or, or_self, and_self, and_true, true_and, g7_0, g7_4, g7_11, g7_15, g7_21, g7_28, g7_32, g7_48, g7_57, g7_66, g7_86, g7_90, g7_93, g7_100, g7_124, g7_133, g7_136, g7_139, g7_142, g7_153, g7_158, g7_170, g7_173, g7_176, g7_182, g7_188, g7_196, g7_199, g7_200, t0, ea, trI_nI hx, n6, n10, ev, sg, hh, hN]
      · have hcw : c = 1000 ∨ c = 1001 ∨ c = 1002 ∨ c = 1003 ∨ c = 1004 ∨ c = 1005 := by
          rcases e with e | e | ⟨_, e⟩ | ⟨_, e⟩ | e | e
          · exact Or.inl e
          · exact Or.inr (Or.inl e)
          · exact Or.inr (Or.inr (Or.inl e))
          · exact Or.inr (Or.inr (Or.inr e))
          · rw [e] at c3; exact absurd c3 (by decide)
          · exact absurd c3 (isJ_ge e).1
        have h8 := c8 (S := S) (d := d) (σ := bm_row σ (b + 2) q.2) t0 g0 hF0 c fair m ca s hcw
        have n6 : ¬ trI c = Int32.ofInt (-6) := by rcases hcw with rfl | rfl | rfl | rfl | rfl | rfl <;> decide
        have n10 : Int32.ofInt (-10) < trI c := by rcases hcw with rfl | rfl | rfl | rfl | rfl | rfl <;> decide
        have n0 : trI c < 0 := by rcases hcw with rfl | rfl | rfl | rfl | rfl | rfl <;> decide
        rw [g7_41]
        simp (disch := omega) only [bm_run_ite, Option.toList_some, Option.bind_some, Option.toList_some, Option.toList_none, List.cons_append, List.nil_append, List.append_nil, eq_self, not_true_eq_false, not_false_eq_true, ite_true, ite_false, ↓reduceIte, Nat.reduceLT, Nat.reduceEqDiff, Nat.reduceAdd, or_true, true_or, or_false, false_or, nI_clamp2, nI_lt0F, nI_leT, nI_leF, nI_ltT, nI_ltF, n_leF, n_leT, nI_1, kA6, kA8, kA10, kA22, kA26, kA32, kA44, kA56, kA68, kA80, kA93, kA163, kA794, not_or, or_self, and_self, and_true, true_and, g7_0, g7_4, g7_11, g7_15, g7_21, g7_28, g7_32, g7_48, g7_57, g7_66, g7_86, g7_90, g7_93, g7_100, g7_124, g7_133, g7_136, g7_139, g7_142, g7_153, g7_158, g7_170, g7_173, g7_176, g7_182, g7_188, g7_196, g7_199, g7_200, t0, ea, n6, n10, n0, h8, sg, hh, hN]
    · by_cases c6 : c = 3006
      · subst c6
        have hs : evS (wd F fair m ca s) 3006 E = (E.1, upd E.2 (E.1 - 1) (1 - E.2 (E.1 - 1))) := by unfold evS; rw [if_neg c3, if_pos rfl]
        obtain ⟨r, rfl⟩ : ∃ r, t = true :: r := by
          unfold tyS at htn
          rw [if_neg c3, if_pos rfl] at htn
          split at htn
          · exact ⟨_, rfl⟩
          · cases htn
        have h1 : E.1 = r.length + 1 := by rw [hh]; simp
        rw [hs]
        have h2 : E.1 - 1 = r.length := by omega
        simp only [h2]
        simp only [h1]
        have hl2 : r.length < 60 := by simp at hl; omega
        have hq2 : q.2 r.length = E.2 r.length := hq _ (by omega)
        refine ⟨(some (.int (trI 3006)), upd q.2 r.length (1 - q.2 r.length)), ?_, ?_⟩
        · have t6 : trI 3006 = Int32.ofInt (-6) := by decide
          rw [g7_41]
          simp (disch := omega) only [bm_run_ite, Option.toList_some, Option.bind_some, Option.toList_some, Option.toList_none, List.cons_append, List.nil_append, List.append_nil, eq_self, not_true_eq_false, not_false_eq_true, ite_true, ite_false, ↓reduceIte, Nat.reduceLT, Nat.reduceEqDiff, Nat.reduceAdd, or_true, true_or, or_false, false_or, nI_clamp2, nI_lt0F, nI_leT, nI_leF, nI_ltT, nI_ltF, n_leF, n_leT, nI_1, kA6, kA8, kA10, kA22, kA26, kA32, kA44, kA56, kA68, kA80, kA93, kA163, kA794, not_or, or_self, and_self, and_true, true_and, g7_0, g7_4, g7_11, g7_15, g7_21, g7_28, g7_32, g7_48, g7_57, g7_66, g7_86, g7_90, g7_93, g7_100, g7_124, g7_133, g7_136, g7_139, g7_142, g7_153, g7_158, g7_170, g7_173, g7_176, g7_182, g7_188, g7_196, g7_199, g7_200, t0, ea, t6, sg, rg, nI_pred, hN]
        · rw [hq2]
          intro i hi
          simp only [upd]
          split
          · rfl
          · exact hq i (by omega)
      · have hJ : isJ c := by
          rcases ok with ⟨k, hk, e⟩ | e | e | ⟨_, e⟩ | ⟨_, e⟩ | e | e
          · exfalso; apply c3; rw [e]; exact nI_lt (b := 3000) (by omega) (by decide)
          · exfalso; apply c3; rw [e]; decide
          · exfalso; apply c3; rw [e]; decide
          · exfalso; apply c3; rw [e]; decide
          · exfalso; apply c3; rcases e with e | e | e <;> rw [e] <;> decide
          · exact absurd e c6
          · exact e
        obtain ⟨a, b1, b0, r, et, et1, _⟩ := tyS_J hJ htn
        subst et
        have hs : evS (wd F fair m ca s) c E = (E.1 - 1, upd E.2 (E.1 - 2) (btw c (E.2 (E.1 - 2)) (E.2 (E.1 - 1)))) := by unfold evS; rw [if_neg c3, if_neg c6]
        have h1 : E.1 = r.length + 1 + 1 := by rw [hh]; simp
        rw [hs]
        have h2 : E.1 - 1 = r.length + 1 := by omega
        have h3 : E.1 - 2 = r.length := by omega
        simp only [h2, h3]
        simp only [h1]
        have hl2 : r.length < 60 := by simp at hl; omega
        have q1 : q.2 r.length = E.2 r.length := hq _ (by omega)
        have q2 : q.2 (r.length + 1) = E.2 (r.length + 1) := hq _ (by omega)
        have n6 : ¬ trI c = Int32.ofInt (-6) := by rcases hJ with rfl | rfl | rfl | rfl | rfl | rfl | rfl | rfl <;> decide
        have n10 : ¬ Int32.ofInt (-10) < trI c := by rcases hJ with rfl | rfl | rfl | rfl | rfl | rfl | rfl | rfl <;> decide
        have s1 : ∀ x : Nat, nI (x + 1) + Int32.ofInt (-1) = nI x := by
          intro x; rw [show Int32.ofInt (-1) = -1 by decide, ← Int32.sub_eq_add_neg]; exact nI_pred x
        refine ⟨(some (.int (trI c)), upd q.2 r.length (btw c (q.2 r.length) (q.2 (r.length + 1)))), ?_, ?_⟩
        · rw [g7_41]
          simp (disch := omega) only [bm_run_ite, Option.toList_some, Option.bind_some, Option.toList_some, Option.toList_none, List.cons_append, List.nil_append, List.append_nil, eq_self, not_true_eq_false, not_false_eq_true, ite_true, ite_false, ↓reduceIte, Nat.reduceLT, Nat.reduceEqDiff, Nat.reduceAdd, or_true, true_or, or_false, false_or, nI_clamp2, nI_lt0F, nI_leT, nI_leF, nI_ltT, nI_ltF, n_leF, n_leT, nI_1, kA6, kA8, kA10, kA22, kA26, kA32, kA44, kA56, kA68, kA80, kA93, kA163, kA794, not_or, or_self, and_self, and_true, true_and, g7_0, g7_4, g7_11, g7_15, g7_21, g7_28, g7_32, g7_48, g7_57, g7_66, g7_86, g7_90, g7_93, g7_100, g7_124, g7_133, g7_136, g7_139, g7_142, g7_153, g7_158, g7_170, g7_173, g7_176, g7_182, g7_188, g7_196, g7_199, g7_200, t0, ea, n6, n10, sg, rg, s1, nI_pred, hN, c9 hJ]
        · rw [q1, q2]
          intro i hi
          simp only [upd]
          split
          · rfl
          · exact hq i (by omega))
  refine ⟨g1, ?_⟩
  have e2 : bm_row σ (b + 2) (σ.1 (b + 2)) = σ := bm_row_self σ _
  obtain ⟨t, ht, hh, _⟩ := key n (Nat.le_refl n)
  rw [w2] at ht
  injection ht with ht
  subst ht
  have h1 : (evF (wd F fair m ca s) B p n).1 = 1 := hh
  have v0 : g1 0 = (evF (wd F fair m ca s) B p n).2 0 := q1 0 (by omega)
  have z1 : (some (Value.int 0) : Option Value) = some (.int (nI 0)) := rfl
  have fin : bm_run S (d + 2) 7 41 [some (.ref b), some (.int (bI time)), some (.int fair), some (.int m), some (.int ca), some (.int s), some (.int (nI p)), some (.int (nI (p + n))), some (.int (nI (evF (wd F fair m ca s) B p n).1)), some (.int (nI (p + n))), o10] [] (bm_row σ (b + 2) g1) = some (some (.int ((evF (wd F fair m ca s) B p n).2 0)), bm_row σ (b + 2) g1) := by
    have rg : bm_call S (d + 1) 158 [.ref (b + 2), .int 0] (bm_row σ (b + 2) g1) = some (some (.int (g1 0)), bm_row σ (b + 2) g1) := by
      have := at_row (S := S) (d := d + 1) (σ := bm_row σ (b + 2) g1) (k := 0) t2 l2 (by omega) (by decide)
      rw [row_row1] at this
      exact this
    rw [g7_41]
    simp (disch := omega) only [bm_run_ite, Option.toList_some, Option.bind_some, Option.toList_some, Option.toList_none, List.cons_append, List.nil_append, List.append_nil, eq_self, not_true_eq_false, not_false_eq_true, ite_true, ite_false, ↓reduceIte, Nat.reduceLT, Nat.reduceEqDiff, Nat.reduceAdd, or_true, true_or, or_false, false_or, nI_clamp2, nI_lt0F, nI_leT, nI_leF, nI_ltT, nI_ltF, n_leF, n_leT, nI_1, kA6, kA8, kA10, kA22, kA26, kA32, kA44, kA56, kA68, kA80, kA93, kA163, kA794, not_or, or_self, and_self, and_true, true_and, g7_0, g7_4, g7_11, g7_15, g7_21, g7_28, g7_32, g7_48, g7_57, g7_66, g7_86, g7_90, g7_93, g7_100, g7_124, g7_133, g7_136, g7_139, g7_142, g7_153, g7_158, g7_170, g7_173, g7_176, g7_182, g7_188, g7_196, g7_199, g7_200, h1, kI1, t0, rg, v0]
  cases time with
  | false =>
    obtain ⟨f5, f6⟩ := h5 rfl
    have e9 : bI false = 0 := rfl
    simp only [e7, g7_0, g7_4, g7_11, g7_15, g7_21, g7_28, g7_32, g7_57, g7_66, g7_86, g7_90, g7_93, g7_100, g7_124, g7_133, g7_136, g7_139, g7_142, g7_153, g7_158, g7_170, g7_173, g7_176, g7_182, g7_188, g7_196, g7_199, g7_200, bm_run_ite, Option.toList_some, Option.bind_some, Option.toList_some, Option.toList_none, List.cons_append, List.nil_append, List.append_nil, eq_self, not_true_eq_false, not_false_eq_true, ite_true, ite_false, ↓reduceIte, Nat.reduceLT, Nat.reduceEqDiff, Nat.reduceAdd, or_true, true_or, or_false, false_or, e9, t0, f5, f6]
    refine (show bm_run S (d + 2) 7 41 [some (.ref b), some (.int (bI false)), some (.int fair), some (.int m), some (.int ca), some (.int s), some (.int (nI p)), some (.int (nI (p + n))), some (.int (nI 0)), some (.int (nI (p + 0))), none] [] σ = _ from ?_)
    rw [e2] at e1
    exact e1.trans fin
  | true =>
    obtain ⟨f5, f6⟩ := h7 rfl
    have e9 : bI true = 1 := rfl
    have e8 : ¬ (1 : Int32) = 0 := by decide
    simp only [e7, g7_0, g7_4, g7_11, g7_15, g7_21, g7_28, g7_32, g7_57, g7_66, g7_86, g7_90, g7_93, g7_100, g7_124, g7_133, g7_136, g7_139, g7_142, g7_153, g7_158, g7_170, g7_173, g7_176, g7_182, g7_188, g7_196, g7_199, g7_200, bm_run_ite, Option.toList_some, Option.bind_some, Option.toList_some, Option.toList_none, List.cons_append, List.nil_append, List.append_nil, eq_self, not_true_eq_false, not_false_eq_true, ite_true, ite_false, ↓reduceIte, Nat.reduceLT, Nat.reduceEqDiff, Nat.reduceAdd, or_true, true_or, or_false, false_or, e9, e8, t0, f5, f6]
    refine (show bm_run S (d + 2) 7 41 [some (.ref b), some (.int (bI true)), some (.int fair), some (.int m), some (.int ca), some (.int s), some (.int (nI p)), some (.int (nI (p + n))), some (.int (nI 0)), some (.int (nI (p + 0))), none] [] σ = _ from ?_)
    rw [e2] at e1
    exact e1.trans fin
end RECK
