/-! what can be undone, on both sides -/
theorem OKB.cgx {M L : Nat} {B C : Nat → Int32} (h : OKB M L B) (e : ∀ i, (i < 22 ∨ (24 ≤ i ∧ i < 68) ∨ (80 ≤ i ∧ i < 92) ∨ 793 ≤ i) → C i = B i) : OKB M L C := by
  obtain ⟨⟨⟨hl, go, gm, gc⟩, nb, bm⟩, z, lt, ⟨h1, h2, h3, h4⟩, ⟨n, n1, n2, n3⟩, ⟨f, f1, f2, f3⟩, sc⟩ := h
  have hc : ∀ p j, cdB C p j = cdB B p j := fun p j => e _ (by omega)
  have ht : ∀ p n, tyF C p n = tyF B p n := by
    intro p n
    induction n with
    | zero => rfl
    | succ n ih => rw [tyF, tyF, ih, hc]
  refine ⟨⟨⟨?_, ?_, ?_, ?_⟩, ?_, ?_⟩, ?_, ?_, ⟨h1, h2, ?_, ?_⟩, ⟨n, n1, n2, ?_⟩, ⟨f, f1, f2, ?_⟩, sc.cg (fun i hi => e _ (by omega))⟩
  · unfold LW wfL at hl ⊢
    simp only [hc, ht]
    rw [e 1 (by omega), e 4 (by omega), e 5 (by omega), e 6 (by omega), e 7 (by omega), e 8 (by omega), e 9 (by omega)]
    exact hl
  · intro l hl
    obtain ⟨a, b, ha, hb, hab, ea, eb⟩ := go l hl
    exact ⟨a, b, ha, hb, hab, by rw [e _ (by omega)]; exact ea, by rw [e _ (by omega)]; exact eb⟩
  · intro l hl
    obtain ⟨k, hk, ek⟩ := gm l hl
    exact ⟨k, hk, by rw [e _ (by omega)]; exact ek⟩
  · intro l hl
    obtain ⟨k, hk, ek⟩ := gc l hl
    exact ⟨k, hk, by rw [e _ (by omega)]; exact ek⟩
  · intro l hl ho m hm hb
    unfold oB at ho
    rw [e _ (by omega)] at ho hb
    have := nb l hl ho m hm hb
    unfold tou at this ⊢
    rw [e _ (by omega), e _ (by omega)]
    exact this
  · intro m hm hk; rw [e _ (by omega)]; exact bm m hm hk
  · intro l h1 h2; rw [e _ (by omega)]; exact z l h1 h2
  · intro l hl
    obtain ⟨k, hk, ek⟩ := lt l hl
    exact ⟨k, hk, by rw [e _ (by omega)]; exact ek⟩
  · rw [e _ (by omega)]; exact h3
  · rw [e _ (by omega)]; exact h4
  · rw [e _ (by omega)]; exact n3
  · rw [e _ (by omega)]; exact f3
theorem OKB.cg {M L : Nat} {B C : Nat → Int32} (h : OKB M L B) (e : ∀ i, (i < 92 ∨ 793 ≤ i) → C i = B i) : OKB M L C := h.cgx (fun i hi => e i (by omega))
def noB (B W : Nat → Int32) (n : Nat) : Nat → Int32 := if n < 10 then (fun i => if 93 + 70 * n ≤ i ∧ i < 163 + 70 * n then W (i - (93 + 70 * n)) else if i = 92 then nI (n + 1) else B i) else (fun i => if 723 ≤ i ∧ i < 793 then W (i - 723) else if i = 92 then nI 10 else if 93 ≤ i ∧ i < 723 then B (i + 70) else B i)
def laB (C W : Nat → Int32) (m k : Nat) : Nat → Int32 := fun i => if 93 + 70 * m ≤ i ∧ i < 93 + 70 * m + k then W (i - (93 + 70 * m)) else C i
def upB (B : Nat → Int32) (k : Nat) : Nat → Int32 := fun i => if 93 ≤ i ∧ i < 93 + k then B (i + 70) else B i
theorem rem10 : ∀ a, a < 20 → am_rem (nI a) 10 = nI (a % 10) := by decide +kernel
theorem rows43 : ∀ k, k < 10 → bm_rfa 43 k = some (44 + 10 * k) := by decide +kernel
theorem isW44 : ∀ k, k < 10 → isW (44 + 10 * k) := by
  intro k hk
  unfold isW
  have : k = 0 ∨ k = 1 ∨ k = 2 ∨ k = 3 ∨ k = 4 ∨ k = 5 ∨ k = 6 ∨ k = 7 ∨ k = 8 ∨ k = 9 := by omega
  rcases this with rfl | rfl | rfl | rfl | rfl | rfl | rfl | rfl | rfl | rfl <;> decide
section PAST
variable {S : am_S} {d : Nat} {σ : bm_S} {M L : Nat} {B : Nat → Int32}
theorem c41 {e i : Nat} (he : σ.1 42 1 = nI e) (h1 : e < 10) (h2 : i < 10) : bm_call S d 41 [.ref 42, .int (nI i)] σ = some (some (.ref (44 + 10 * ((e + i) % 10))), σ) := by
  have hk : (e + i) % 10 < 10 := Nat.mod_lt _ (by decide)
  have e1 := rem10 (e + i) (by omega)
  have n10 : ¬ (10 : Int32) ≤ nI ((e + i) % 10) := nI_ge (b := 10) hk (by decide)
  simp (disch := omega) only [bm_run_ite, Option.toList_some, Option.bind_some, Option.toList_some, Option.toList_none, List.cons_append, List.nil_append, List.append_nil, eq_self, not_true_eq_false, not_false_eq_true, ite_true, ite_false, ↓reduceIte, Nat.reduceLT, Nat.reduceEqDiff, Nat.reduceAdd, or_true, true_or, or_false, false_or, nI_clamp2, nI_lt0F, nI_leT, nI_leF, nI_ltT, nI_ltF, n_leF, n_leT, nI_1, kA6, kA8, kA10, kA22, kA26, kA32, kA44, kA56, kA68, kA80, kA93, kA163, kA794, not_or, or_self, and_self, and_true, true_and, e41, g41_0, g41_14, g41_23, g41_32, g41_33, he, nI_add, e1, n10, rows43 _ hk, am_rf, bm_isr]
theorem c42 {n e : Nat} (hr : RW M L σ 5 B) (hn : σ.1 42 2 = nI n) (he : σ.1 42 1 = nI e) (h1 : e < 10) (h2 : n ≤ 10) : ∃ σ1 n1 e1, bm_call S (d + 3) 42 [.ref 42, .ref 5] σ = some (none, σ1) ∧ n1 < 11 ∧ e1 < 10 ∧ (n < 10 → n1 = n + 1 ∧ e1 = e) ∧ (n = 10 → n1 = 10 ∧ e1 = (e + 1) % 10) ∧ σ1.1 42 2 = nI n1 ∧ σ1.1 42 1 = nI e1 ∧ RW M L σ1 (44 + 10 * ((e1 + (n1 - 1)) % 10)) B ∧ (∀ a, a ≠ 42 → (a < 44 + 10 * ((e1 + (n1 - 1)) % 10) ∨ 44 + 10 * ((e1 + (n1 - 1)) % 10) + 7 < a) → σ1.1 a = σ.1 a) ∧ σ1.2 = σ.2 := by
  have main : ∀ (τ : bm_S) (n1 e1 : Nat), 0 < n1 → n1 < 11 → e1 < 10 → τ.1 42 2 = nI n1 → τ.1 42 1 = nI e1 → (∀ a, a ≠ 42 → τ.1 a = σ.1 a) → τ.2 = σ.2 → ∃ σ1, bm_run S (d + 3) 42 35 [some (.ref 42), some (.ref 5), none] [] τ = some (none, σ1) ∧ σ1.1 42 2 = nI n1 ∧ σ1.1 42 1 = nI e1 ∧ RW M L σ1 (44 + 10 * ((e1 + (n1 - 1)) % 10)) B ∧ (∀ a, a ≠ 42 → (a < 44 + 10 * ((e1 + (n1 - 1)) % 10) ∨ 44 + 10 * ((e1 + (n1 - 1)) % 10) + 7 < a) → σ1.1 a = σ.1 a) ∧ σ1.2 = σ.2 := by
    intro τ n1 e1 h0 hn1 he1 q2 q1 fr f2
    have hk : (e1 + (n1 - 1)) % 10 < 10 := Nat.mod_lt _ (by decide)
    have hw := isW44 _ hk
    obtain ⟨m, rfl⟩ : ∃ m, n1 = m + 1 := ⟨n1 - 1, by omega⟩
    have k1 := c41 (S := S) (d := d + 2) (σ := τ) (i := m) q1 he1 (by omega)
    rw [Nat.add_sub_cancel] at hk hw ⊢
    generalize (e1 + m) % 10 = r at hk hw k1 ⊢
    obtain ⟨σ1, e2, f3, r3⟩ := c77 (S := S) (d := d) (σ := τ) (s := 5) (t := 44 + 10 * r) hr.iw hw (by omega)
    have hr2 : RW M L τ 5 B := hr.of (fun a _ _ => fr a (by omega))
    refine ⟨σ1, ?_, ?_, ?_, r3 hr2, ?_, ?_⟩
    · rw [g42_35]
      simp only [bm_run_ite, Option.toList_some, Option.bind_some, Option.toList_some, Option.toList_none, List.cons_append, List.nil_append, List.append_nil, eq_self, not_true_eq_false, not_false_eq_true, ite_true, ite_false, ↓reduceIte, Nat.reduceLT, Nat.reduceEqDiff, Nat.reduceAdd, or_true, true_or, or_false, false_or, q2, nI_pred, k1, g42_45r, g42_50r, hw.t0, e2, g42_55]
    · rw [f3.1 42 (by omega)]; exact q2
    · rw [f3.1 42 (by omega)]; exact q1
    · intro a ha hb; rw [f3.1 a hb]; exact fr a ha
    · rw [f3.2, f2]
  by_cases q : n < 10
  · obtain ⟨σ1, a1, a2, a3, a4, a5, a6⟩ := main (bm_wi σ 42 2 (nI (n + 1))) (n + 1) e (by omega) (by omega) h1 (by rw [wi_s, upd_s]) (by rw [wi_s, upd_n _ _ (by decide)]; exact he) (fun a ha => wi_n _ ha _ _) rfl
    refine ⟨σ1, n + 1, e, ?_, by omega, h1, fun _ => ⟨rfl, rfl⟩, fun z => by omega, a2, a3, a4, a5, a6⟩
    have l1 : nI n < 10 := nI_lt (b := 10) q (by decide)
    simp only [e42, g42_0, g42_25, bm_run_ite, Option.toList_some, Option.bind_some, Option.toList_some, Option.toList_none, List.cons_append, List.nil_append, List.append_nil, eq_self, not_true_eq_false, not_false_eq_true, ite_true, ite_false, ↓reduceIte, Nat.reduceLT, Nat.reduceEqDiff, Nat.reduceAdd, or_true, true_or, or_false, false_or, hn, l1, nI_1, a1]
  · have e10 : n = 10 := by omega
    subst e10
    have er := rem10 (e + 1) (by omega)
    obtain ⟨σ1, a1, a2, a3, a4, a5, a6⟩ := main (bm_wi σ 42 1 (nI ((e + 1) % 10))) 10 ((e + 1) % 10) (by omega) (by omega) (Nat.mod_lt _ (by decide)) (by rw [wi_s, upd_n _ _ (by decide)]; exact hn) (by rw [wi_s, upd_s]) (fun a ha => wi_n _ ha _ _) rfl
    refine ⟨σ1, 10, (e + 1) % 10, ?_, by omega, Nat.mod_lt _ (by decide), fun z => by omega, fun _ => ⟨rfl, rfl⟩, a2, a3, a4, a5, a6⟩
    have l1 : ¬ nI 10 < 10 := by decide
    simp only [e42, g42_0, g42_9, bm_run_ite, Option.toList_some, Option.bind_some, Option.toList_some, Option.toList_none, List.cons_append, List.nil_append, List.append_nil, eq_self, not_true_eq_false, not_false_eq_true, ite_true, ite_false, ↓reduceIte, Nat.reduceLT, Nat.reduceEqDiff, Nat.reduceAdd, or_true, true_or, or_false, false_or, hn, l1, he, nI_1, er, a1]
theorem m217 {n : Nat} (hn : n ≤ 10) (h92 : σ.1 219 92 = nI n) : bm_call S d 217 [.ref 218] σ = some (none, bm_row σ 219 (noB (σ.1 219) (σ.1 228) n)) := by
  have r6 : ∀ g, (bm_row σ 219 g).1 228 = σ.1 228 := fun g => bm_row_1n _ _ (by decide)
  have r7 : ∀ g, (bm_row σ 219 g).1 219 = g := fun g => row_row1 _ _ _
  have last : ∀ (C : Nat → Int32) (m : Nat) (o1 : Option Value), m < 10 → C 92 = nI m → bm_run S d 217 57 [some (.ref 218), o1] [] (bm_row σ 219 C) = some (none, bm_row σ 219 (upd (laB C (σ.1 228) m 70) 92 (nI (m + 1)))) := by
    intro C m o1 hm hC
    have ml : ∀ m, m < 10 → (93 : Int32) + (70 : Int32) * nI m = nI (93 + 70 * m) := by decide +kernel
    have ml2 := ml m hm
    have c92 : ∀ k, laB C (σ.1 228) m k 92 = nI m := by intro k; unfold laB; rw [if_neg (by omega)]; exact hC
    have step := loop_eq (fun k => bm_run S d 217 59 [some (.ref 218), some (.int (nI k))] [] (bm_row σ 219 (laB C (σ.1 228) m k))) 70 (by
      intro k hk
      have n70 : ¬ (70 : Int32) ≤ nI k := nI_ge (b := 70) hk (by decide)
      have es : laB C (σ.1 228) m (k + 1) = upd (laB C (σ.1 228) m k) (93 + 70 * m + k) (σ.1 228 k) := by
        funext i
        simp only [upd, laB]
        by_cases e : i = 93 + 70 * m + k
        · subst e
          rw [if_pos rfl, if_pos (by omega), Nat.add_sub_cancel_left]
        · rw [if_neg e]
          by_cases q : 93 + 70 * m ≤ i ∧ i < 93 + 70 * m + k
          · rw [if_pos q, if_pos (by omega)]
          · rw [if_neg q, if_neg (by omega)]
      rw [g217_59, es]
      simp (disch := omega) only [bm_run_ite, Option.toList_some, Option.bind_some, Option.toList_some, Option.toList_none, List.cons_append, List.nil_append, List.append_nil, eq_self, not_true_eq_false, not_false_eq_true, ite_true, ite_false, ↓reduceIte, Nat.reduceLT, Nat.reduceEqDiff, Nat.reduceAdd, or_true, true_or, or_false, false_or, nI_clamp2, nI_lt0F, nI_leT, nI_leF, nI_ltT, nI_ltF, n_leF, n_leT, nI_1, kA6, kA8, kA10, kA22, kA26, kA32, kA44, kA56, kA68, kA80, kA93, kA163, kA794, not_or, or_self, and_self, and_true, true_and, g217_65, n70, r7, c92, ml2, nI_add, r6, wi_row])
    have e0 : laB C (σ.1 228) m 0 = C := by
      funext i; unfold laB; rw [if_neg (by omega)]
    simp only [e0] at step
    have n70 : (70 : Int32) ≤ nI 70 := by decide
    rw [g217_57]
    refine (show bm_run S d 217 59 [some (.ref 218), some (.int (nI 0))] [] (bm_row σ 219 C) = _ from step).trans ?_
    rw [g217_59]
    simp (disch := omega) only [bm_run_ite, Option.toList_some, Option.bind_some, Option.toList_some, Option.toList_none, List.cons_append, List.nil_append, List.append_nil, eq_self, not_true_eq_false, not_false_eq_true, ite_true, ite_false, ↓reduceIte, Nat.reduceLT, Nat.reduceEqDiff, Nat.reduceAdd, or_true, true_or, or_false, false_or, nI_clamp2, nI_lt0F, nI_leT, nI_leF, nI_ltT, nI_ltF, n_leF, n_leT, nI_1, kA6, kA8, kA10, kA22, kA26, kA32, kA44, kA56, kA68, kA80, kA93, kA163, kA794, not_or, or_self, and_self, and_true, true_and, g217_97, n70, wi_row, r7, c92]
  rw [e217, g217_0]
  by_cases q : n < 10
  · have n10 : ¬ nI n = 10 := by
      intro z
      have := congrArg cN z
      rw [cN_nI (by omega)] at this
      have e10 : cN 10 = 10 := by decide
      omega
    have l := last (σ.1 219) n none q h92
    rw [bm_row_self] at l
    simp only [bm_run_ite, Option.toList_some, Option.bind_some, Option.toList_some, Option.toList_none, List.cons_append, List.nil_append, List.append_nil, eq_self, not_true_eq_false, not_false_eq_true, ite_true, ite_false, ↓reduceIte, Nat.reduceLT, Nat.reduceEqDiff, Nat.reduceAdd, or_true, true_or, or_false, false_or, h92, n10, l]
    have ef : upd (laB (σ.1 219) (σ.1 228) n 70) 92 (nI (n + 1)) = noB (σ.1 219) (σ.1 228) n := by
      funext i
      unfold noB laB
      rw [if_pos q]
      simp only [upd]
      by_cases q1 : i = 92
      · subst q1
        rw [if_pos rfl, if_neg (by omega), if_pos rfl]
      · rw [if_neg q1]
        by_cases q2 : 93 + 70 * n ≤ i ∧ i < 93 + 70 * n + 70
        · rw [if_pos q2, if_pos (by omega)]
        · rw [if_neg q2, if_neg (by omega), if_neg q1]
    rw [ef]
  · have e10 : n = 10 := by omega
    subst e10
    have c92 : ∀ k, upB (σ.1 219) k 92 = nI 10 := by intro k; unfold upB; rw [if_neg (by omega)]; exact h92
    have c163 : ∀ k, upB (σ.1 219) k (163 + k) = σ.1 219 (163 + k) := by intro k; unfold upB; rw [if_neg (by omega)]
    have step := loop_eq (fun k => bm_run S d 217 14 [some (.ref 218), some (.int (nI k))] [] (bm_row σ 219 (upB (σ.1 219) k))) 630 (by
      intro k hk
      have n630 : ¬ (630 : Int32) ≤ nI k := nI_ge (b := 630) hk (by decide)
      have es : upB (σ.1 219) (k + 1) = upd (upB (σ.1 219) k) (93 + k) (σ.1 219 (163 + k)) := by
        funext i
        simp only [upd, upB]
        by_cases e : i = 93 + k
        · subst e
          rw [if_pos rfl, if_pos (by omega), show 93 + k + 70 = 163 + k by omega]
        · rw [if_neg e]
          by_cases q : 93 ≤ i ∧ i < 93 + k
          · rw [if_pos q, if_pos (by omega)]
          · rw [if_neg q, if_neg (by omega)]
      rw [g217_14, es]
      simp (disch := omega) only [bm_run_ite, Option.toList_some, Option.bind_some, Option.toList_some, Option.toList_none, List.cons_append, List.nil_append, List.append_nil, eq_self, not_true_eq_false, not_false_eq_true, ite_true, ite_false, ↓reduceIte, Nat.reduceLT, Nat.reduceEqDiff, Nat.reduceAdd, or_true, true_or, or_false, false_or, nI_clamp2, nI_lt0F, nI_leT, nI_leF, nI_ltT, nI_ltF, n_leF, n_leT, nI_1, kA6, kA8, kA10, kA22, kA26, kA32, kA44, kA56, kA68, kA80, kA93, kA163, kA794, not_or, or_self, and_self, and_true, true_and, g217_21, n630, r7, c163, wi_row])
    have e0 : upB (σ.1 219) 0 = σ.1 219 := by
      funext i; unfold upB; rw [if_neg (by omega)]
    simp only [e0] at step
    rw [bm_row_self] at step
    have n10 : nI 10 = (10 : Int32) := rfl
    have n630 : (630 : Int32) ≤ nI 630 := by decide
    have n9 : nI 10 - 1 = nI 9 := rfl
    simp only [bm_run_ite, Option.toList_some, Option.bind_some, Option.toList_some, Option.toList_none, List.cons_append, List.nil_append, List.append_nil, eq_self, not_true_eq_false, not_false_eq_true, ite_true, ite_false, ↓reduceIte, Nat.reduceLT, Nat.reduceEqDiff, Nat.reduceAdd, or_true, true_or, or_false, false_or, h92, n10, g217_12]
    refine (show bm_run S d 217 14 [some (.ref 218), some (.int (nI 0))] [] σ = _ from step).trans ?_
    rw [g217_14]
    simp (disch := omega) only [bm_run_ite, Option.toList_some, Option.bind_some, Option.toList_some, Option.toList_none, List.cons_append, List.nil_append, List.append_nil, eq_self, not_true_eq_false, not_false_eq_true, ite_true, ite_false, ↓reduceIte, Nat.reduceLT, Nat.reduceEqDiff, Nat.reduceAdd, or_true, true_or, or_false, false_or, nI_clamp2, nI_lt0F, nI_leT, nI_leF, nI_ltT, nI_ltF, n_leF, n_leT, nI_1, kA6, kA8, kA10, kA22, kA26, kA32, kA44, kA56, kA68, kA80, kA93, kA163, kA794, not_or, or_self, and_self, and_true, true_and, n630, g217_46, r7, c92, n9, wi_row]
    rw [last _ 9 _ (by decide) (by rw [upd_s])]
    have ef : upd (laB (upd (upB (σ.1 219) 630) 92 (nI 9)) (σ.1 228) 9 70) 92 (nI (9 + 1)) = noB (σ.1 219) (σ.1 228) 10 := by
      funext i
      unfold noB laB upB
      rw [if_neg q]
      simp only [upd]
      by_cases q2 : i = 92
      · subst q2
        rw [if_pos rfl, if_neg (by omega), if_pos rfl]
      · rw [if_neg q2]
        by_cases q1 : 723 ≤ i ∧ i < 793
        · rw [if_pos q1, if_pos (by omega)]
        · rw [if_neg q1, if_neg (by omega), if_neg q2]
          try rw [if_neg q1]
          try rfl
    rw [ef]
end PAST
