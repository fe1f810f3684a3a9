/-- (the next token, the row, its code), or a fault -/
abbrev lnR : Type := Sum (Nat × (Nat → Int32) × List Int32) (Int32 × Nat)
def mrz (q : Nat → Nat) (v : Nat → Int32) (M i : Nat) (R : Nat → Int32) (C : List Int32) : lnR :=
  if M = 6 then Sum.inr (4, i) else
  match nmx q v 0 999 (Sum.inl (i + 1)) with
  | Sum.inl j => Sum.inl (j, upd (upd R (26 + M) (v (i + 1))) 3 (nI (M + 1)), C)
  | Sum.inr e => Sum.inr e
def frz (q : Nat → Nat) (v : Nat → Int32) (i : Nat) (R : Nat → Int32) (C : List Int32) : lnR :=
  match nmx q v 0 999 (Sum.inl (i + 1)) with
  | Sum.inl j => Sum.inl (j, upd R 22 (v (i + 1)), C)
  | Sum.inr e => Sum.inr e
/-- owes, to, whom, of, much, at, in -/
def lt1 (q : Nat → Nat) (v : Nat → Int32) (M : Nat) (i : Nat) : xzR := tkx q 4 (nmx q v 0 (nI M - 1) (Sum.inl (i + 1)))
def lt2 (q : Nat → Nat) (v : Nat → Int32) (M : Nat) (i : Nat) : xzR := bdx (lt1 q v M i) (fun j => if q j = 20 ∧ v j = v (i + 1) then Sum.inr (3, j) else Sum.inl j)
def lt3 (q : Nat → Nat) (v : Nat → Int32) (M : Nat) (i : Nat) : xzR := tkx q 6 (nmx q v 1 999 (tkx q 5 (nmx q v 0 (nI M - 1) (lt2 q v M i))))
def lt4 (q : Nat → Nat) (v : Nat → Int32) (M : Nat) (i : Nat) : xzR := nmx q v 0 20 (lt3 q v M i)
def lt5 (q : Nat → Nat) (v : Nat → Int32) (M : Nat) (i : Nat) : xzR := bdx (lt4 q v M i) (fun j => if q j = 7 then nmx q v 0 9 (Sum.inl (j + 1)) else Sum.inl j)
def lwR (R : Nat → Int32) (L : Nat) (a b c e l : Int32) : Nat → Int32 := upd (upd (upd (upd (upd (upd R (32 + L) a) (44 + L) b) (56 + L) c) (68 + L) e) (10 + L) l) 25 (nI (L + 1))
def ltz (q : Nat → Nat) (v : Nat → Int32) (M L i : Nat) (R : Nat → Int32) (C : List Int32) : lnR :=
  if L = 12 then Sum.inr (4, i) else
  match lt5 q v M i with
  | Sum.inl j => Sum.inl (j, lwR R L (v (i + 1)) (v (i + 3)) (v (i + 5)) (v (i + 7)) (if q (i + 8) = 7 then v (i + 9) else 0), C)
  | Sum.inr e => Sum.inr e
theorem nmx_l {q : Nat → Nat} {v : Nat → Int32} {lo hi : Int32} {x : xzR} {j : Nat} (h : nmx q v lo hi x = Sum.inl j) : ∃ i, x = Sum.inl i ∧ j = i + 1 ∧ q i = 20 ∧ inb (v i) lo hi = true := by
  rcases x with i | e
  · refine ⟨i, rfl, ?_⟩
    change (if q i = 20 then (if inb (v i) lo hi = true then Sum.inl (i + 1) else rfx q i 3) else rfx q i 2) = Sum.inl j at h
    by_cases a : q i = 20
    · rw [if_pos a] at h
      by_cases b : inb (v i) lo hi = true
      · rw [if_pos b] at h
        exact ⟨(Sum.inl.inj h).symm, a, b⟩
      · rw [if_neg b] at h; unfold rfx at h; cases h
    · rw [if_neg a] at h; unfold rfx at h; cases h
  · cases h
theorem tkx_l {q : Nat → Nat} {w : Nat} {x : xzR} {j : Nat} (h : tkx q w x = Sum.inl j) : ∃ i, x = Sum.inl i ∧ j = i + 1 ∧ q i = w := by
  rcases x with i | e
  · refine ⟨i, rfl, ?_⟩
    change (if q i = w then Sum.inl (i + 1) else rfx q i 2) = Sum.inl j at h
    by_cases a : q i = w
    · rw [if_pos a] at h
      exact ⟨(Sum.inl.inj h).symm, a⟩
    · rw [if_neg a] at h; unfold rfx at h; cases h
  · cases h
/-- all that a letter's line holds, when it is read -/
theorem lt4_l {q : Nat → Nat} {v : Nat → Int32} {M i j : Nat} (h : lt4 q v M i = Sum.inl j) : j = i + 8 ∧ lt3 q v M i = Sum.inl (i + 7) ∧ lt2 q v M i = Sum.inl (i + 3) ∧ lt1 q v M i = Sum.inl (i + 3) ∧ nmx q v 1 999 (tkx q 5 (nmx q v 0 (nI M - 1) (lt2 q v M i))) = Sum.inl (i + 6) ∧ tkx q 5 (nmx q v 0 (nI M - 1) (lt2 q v M i)) = Sum.inl (i + 5) ∧ nmx q v 0 (nI M - 1) (lt2 q v M i) = Sum.inl (i + 4) ∧ nmx q v 0 (nI M - 1) (Sum.inl (i + 1)) = Sum.inl (i + 2) := by
  obtain ⟨a1, e1, f1, _, _⟩ := nmx_l h
  have e1b := e1
  unfold lt3 at e1b
  obtain ⟨a2, e2, f2, _⟩ := tkx_l e1b
  obtain ⟨a3, e3, f3, _, _⟩ := nmx_l e2
  obtain ⟨a4, e4, f4, _⟩ := tkx_l e3
  obtain ⟨a5, e5, f5, _, _⟩ := nmx_l e4
  have e5b := e5
  unfold lt2 at e5b
  have e6 : lt1 q v M i = Sum.inl a5 := by
    cases hx : lt1 q v M i with
    | inl b =>
      rw [hx] at e5b
      change (if q b = 20 ∧ v b = v (i + 1) then Sum.inr (3, b) else Sum.inl b) = Sum.inl a5 at e5b
      split at e5b
      · cases e5b
      · exact congrArg Sum.inl (Sum.inl.inj e5b)
    | inr e => rw [hx] at e5b; cases e5b
  have e6b := e6
  unfold lt1 at e6b
  obtain ⟨a6, e7, f6, _⟩ := tkx_l e6b
  obtain ⟨a7, e8, f7, _, _⟩ := nmx_l e7
  have : i + 1 = a7 := Sum.inl.inj e8
  subst this
  subst f7 f6 f5 f4 f3 f2 f1
  exact ⟨rfl, e1, e5, e6, e2, e3, e4, e7⟩
section MLINE
variable {S : am_S} {d : Nat} {σ : bm_S} {T : Nat → Int32} {n : Nat} {g r R : Nat → Int32} {C : List Int32}
def RLo (R r : Nat → Int32) : Prop := ∀ m, m < 793 → r m = R m
/-- what a line comes to, in the reference -/
def LNO (T : Nat → Int32) (n : Nat) (x : lnR) (g r : Nat → Int32) : Prop :=
  match x with
  | Sum.inl (j, R, C) => MT T n j g ∧ CD C r ∧ RLo R r
  | Sum.inr (w, j) => MF T n w j g
theorem CD.up {C : List Int32} {r : Nat → Int32} (c : CD C r) {k : Nat} (hk : k < 793) (x : Int32) : CD C (upd r k x) := ⟨by rw [upd_n _ _ (by omega)]; exact c.1, fun m hm => by rw [upd_n _ _ (by omega)]; exact c.2 m hm⟩
theorem RLo.up {R r : Nat → Int32} (h : RLo R r) (k : Nat) (x : Int32) : RLo (upd R k x) (upd r k x) := fun m hm => by
  by_cases e : m = k
  · subst e; rw [upd_s, upd_s]
  · rw [upd_n _ _ e, upd_n _ _ e]; exact h m hm
theorem m186 (h : tx T n σ) {i M : Nat} (hM : M ≤ 6) (m : MT T n i g) (hq : ¬ qN T n i = 22) (c : CD C r) (hr : RLo R r) (h3 : R 3 = nI M) : ∃ g1 r1, bm_call S (d + 8) 186 [.ref 218] (st2 σ g r) = some (none, st2 σ g1 r1) ∧ FG g g1 ∧ LNO T n (mrz (qN T n) (vN T n) M i R C) g1 r1 := by
  have e3 : ∀ g r, (st2 σ g r).1 222 3 = r 3 := fun g r => by rw [s2_20]
  have e11 : ∀ g r, (st2 σ g r).1 218 11 = g 11 := fun g r => by rw [s2_16]
  have r3 : r 3 = nI M := (hr 3 (by omega)).trans h3
  have z := m.1
  unfold mrz
  by_cases q : M = 6
  · subst q
    obtain ⟨g1, k1, m1, f1⟩ := m172t (S := S) (d := d + 7) (σ := σ) (r := r) m (w := 4) (by decide)
    rw [if_neg hq] at m1
    have n0 := MF.n0 m1
    have e6 : nI 6 = 6 := rfl
    rw [if_pos rfl]
    refine ⟨g1, r, ?_, f1, m1⟩
    simp (decide := true) only [e186, g186_0, g186_13, g186_18, g186_25, bm_run_ite, Option.toList_some, Option.bind_some, Option.toList_some, Option.toList_none, List.cons_append, List.nil_append, List.append_nil, eq_self, not_true_eq_false, not_false_eq_true, ite_true, ite_false, ↓reduceIte, Nat.reduceLT, Nat.reduceEqDiff, Nat.reduceAdd, or_true, true_or, or_false, false_or, e3, r3, e6, k1, e11, n0]
  · have n6 : ¬ nI M = 6 := fun y => q ((nI_eq (a := M) (b := 6) (by omega) (by omega)).mp y)
    obtain ⟨g1, k1, m1, f1⟩ := m171t (S := S) (d := d + 1) (r := r) h m
    obtain ⟨w, g2, k2, m2, f2, hw⟩ := mnm (S := S) (d := d) (r := r) h (lo := 0) (hi := 999) (x := Sum.inl (i + 1)) m1
    rw [if_neg q]
    cases hx : nmx (qN T n) (vN T n) 0 999 (Sum.inl (i + 1)) with
    | inl j =>
      rw [hx] at m2 hw
      have ew : w = vN T n (i + 1) := hw j rfl
      subst ew
      have z2 : g2 11 = 0 := (show MT T n j g2 from m2).1
      have a26 : (26 : Int32) + nI M = nI (26 + M) := nI_add 26 M
      have bd : ¬ (nI (26 + M) < 0 ∨ 1694 ≤ 26 + M) := by rintro (y | y); exact nI_pos (by omega) y; omega
      have u3 : ∀ y, upd r (26 + M) y 3 = nI M := fun y => by rw [upd_n _ _ (by omega)]; exact r3
      refine ⟨g2, upd (upd r (26 + M) (vN T n (i + 1))) 3 (nI (M + 1)), ?_, f1.tr f2, m2, (c.up (by omega) _).up (by omega) _, (hr.up _ _).up _ _⟩
      simp (decide := true) only [e186, g186_0, g186_18, g186_26, g186_30, g186_38, g186_47, bm_run_ite, Option.toList_some, Option.bind_some, Option.toList_some, Option.toList_none, List.cons_append, List.nil_append, List.append_nil, eq_self, not_true_eq_false, not_false_eq_true, ite_true, ite_false, ↓reduceIte, Nat.reduceLT, Nat.reduceEqDiff, Nat.reduceAdd, or_true, true_or, or_false, false_or, e3, r3, n6, e11, z, k1, k2, z2, a26, nI_clamp2 (show 26 + M < 2147483648 by omega), bd, s2_wr, u3, nI_1]
    | inr e =>
      obtain ⟨w2, j⟩ := e
      rw [hx] at m2
      have n0 := MF.n0 (show MF T n w2 j g2 from m2)
      refine ⟨g2, r, ?_, f1.tr f2, m2⟩
      simp (decide := true) only [e186, g186_0, g186_18, g186_26, g186_30, g186_38, g186_46, bm_run_ite, Option.toList_some, Option.bind_some, Option.toList_some, Option.toList_none, List.cons_append, List.nil_append, List.append_nil, eq_self, not_true_eq_false, not_false_eq_true, ite_true, ite_false, ↓reduceIte, Nat.reduceLT, Nat.reduceEqDiff, Nat.reduceAdd, or_true, true_or, or_false, false_or, e3, r3, n6, e11, z, k1, k2, n0]
theorem m187 (h : tx T n σ) {i M L : Nat} (hM : M ≤ 6) (hL : L ≤ 12) (m : MT T n i g) (hq : ¬ qN T n i = 22) (c : CD C r) (hr : RLo R r) (h3 : R 3 = nI M) (h25 : R 25 = nI L) : ∃ g1 r1, bm_call S (d + 8) 187 [.ref 218] (st2 σ g r) = some (none, st2 σ g1 r1) ∧ FG g g1 ∧ LNO T n (ltz (qN T n) (vN T n) M L i R C) g1 r1 := by
  have e3 : ∀ g r, (st2 σ g r).1 222 3 = r 3 := fun g r => by rw [s2_20]
  have e25 : ∀ g r, (st2 σ g r).1 222 25 = r 25 := fun g r => by rw [s2_20]
  have e11 : ∀ g r, (st2 σ g r).1 218 11 = g 11 := fun g r => by rw [s2_16]
  have e10 : ∀ g r, (st2 σ g r).1 218 10 = g 10 := fun g r => by rw [s2_16]
  have r3 : r 3 = nI M := (hr 3 (by omega)).trans h3
  have r25 : r 25 = nI L := (hr 25 (by omega)).trans h25
  have kv : krT 4 = 4 ∧ krT 5 = 5 ∧ krT 6 = 6 ∧ krT 7 = 7 ∧ krT 20 = 23 := by decide +kernel
  obtain ⟨v4, v5, v6, v7, v20⟩ := kv
  have z := m.1
  unfold ltz
  by_cases q : L = 12
  · subst q
    obtain ⟨g1, k1, m1, f1⟩ := m172t (S := S) (d := d + 7) (σ := σ) (r := r) m (w := 4) (by decide)
    rw [if_neg hq] at m1
    have n0 := MF.n0 m1
    have e6 : nI 12 = 12 := rfl
    rw [if_pos rfl]
    refine ⟨g1, r, ?_, f1, m1⟩
    simp (decide := true) only [e187, g187_0, g187_14, g187_19, g187_26, bm_run_ite, Option.toList_some, Option.bind_some, Option.toList_some, Option.toList_none, List.cons_append, List.nil_append, List.append_nil, eq_self, not_true_eq_false, not_false_eq_true, ite_true, ite_false, ↓reduceIte, Nat.reduceLT, Nat.reduceEqDiff, Nat.reduceAdd, or_true, true_or, or_false, false_or, e25, r25, e6, k1, e11, n0]
  have n12 : ¬ nI L = 12 := fun y => q ((nI_eq (a := L) (b := 12) (by omega) (by omega)).mp y)
  rw [if_neg q]
  obtain ⟨g1, k1, m1, f1⟩ := m171t (S := S) (d := d + 1) (r := r) h m
  obtain ⟨w1, g2, k2, m2, f2, hw1⟩ := mnm (S := S) (d := d) (r := r) h (lo := 0) (hi := nI M - 1) (x := Sum.inl (i + 1)) m1
  obtain ⟨b3, a3, g3, k3, alt3, m3, f3⟩ := mtk (S := S) (d := d) (r := r) h (w := 4) (by decide) m2
  rw [v4] at k3
  -- whom is no one's own
  have cmp : ∃ g4, bm_run S (d + 8) 187 58 [some (.ref 218), some (.int (nI L)), some (.int w1), none, none, none, none] [] (st2 σ g3 r) = bm_run S (d + 8) 187 80 [some (.ref 218), some (.int (nI L)), some (.int w1), none, none, none, none] [] (st2 σ g4 r) ∧ MX T n (lt2 (qN T n) (vN T n) M i) g4 ∧ FG g3 g4 := by
    change MX T n (lt1 (qN T n) (vN T n) M i) g3 at m3
    unfold lt2
    cases hx : lt1 (qN T n) (vN T n) M i with
    | inr e =>
      obtain ⟨w, j⟩ := e
      rw [hx] at m3
      have n0 : ¬ g3 11 = 0 := MF.n0 (show MF T n w j g3 from m3)
      refine ⟨g3, ?_, m3, FG.rfl g3⟩
      rw [g187_58]
      simp (decide := true) only [bm_run_ite, Option.toList_some, Option.bind_some, Option.toList_some, Option.toList_none, List.cons_append, List.nil_append, List.append_nil, eq_self, not_true_eq_false, not_false_eq_true, ite_true, ite_false, ↓reduceIte, Nat.reduceLT, Nat.reduceEqDiff, Nat.reduceAdd, or_true, true_or, or_false, false_or, m173e (S := S) (d := d + 7) (σ := σ) (r := r) n0 23, g187_64]
    | inl j =>
      rw [hx] at m3
      have mj : MT T n j g3 := m3
      have ew : w1 = vN T n (i + 1) := by
        unfold lt1 at hx
        obtain ⟨a, ea, _, _⟩ := tkx_l hx
        exact hw1 a ea
      show ∃ g4, _ ∧ MX T n (if qN T n j = 20 ∧ vN T n j = vN T n (i + 1) then Sum.inr (3, j) else Sum.inl j) g4 ∧ _
      by_cases q20 : qN T n j = 20
      · have k5 := ye_173 (S := S) (d := d + 7) (σ := σ) (r := r) mj q20
        rw [v20] at k5
        have ev := mj.2.2.2.2.2 q20
        by_cases qe : vN T n j = vN T n (i + 1)
        · obtain ⟨g4, k6, m6, f6⟩ := m172t (S := S) (d := d + 7) (σ := σ) (r := r) mj (w := 3) (by decide)
          rw [if_neg (by rw [q20]; decide)] at m6
          rw [if_pos ⟨q20, qe⟩]
          refine ⟨g4, ?_, m6, f6⟩
          rw [g187_58]
          simp (decide := true) only [bm_run_ite, Option.toList_some, Option.bind_some, Option.toList_some, Option.toList_none, List.cons_append, List.nil_append, List.append_nil, eq_self, not_true_eq_false, not_false_eq_true, ite_true, ite_false, ↓reduceIte, Nat.reduceLT, Nat.reduceEqDiff, Nat.reduceAdd, or_true, true_or, or_false, false_or, k5, g187_64, g187_67, e10, ev, qe, ew, g187_75, k6]
        · have ne : ¬ vN T n j = w1 := by rw [ew]; exact qe
          rw [if_neg (fun y => qe y.2)]
          refine ⟨g3, ?_, mj, FG.rfl g3⟩
          rw [g187_58]
          simp (decide := true) only [bm_run_ite, Option.toList_some, Option.bind_some, Option.toList_some, Option.toList_none, List.cons_append, List.nil_append, List.append_nil, eq_self, not_true_eq_false, not_false_eq_true, ite_true, ite_false, ↓reduceIte, Nat.reduceLT, Nat.reduceEqDiff, Nat.reduceAdd, or_true, true_or, or_false, false_or, k5, g187_64, g187_67, e10, ev, ne]
      · have k5 := no_173 (S := S) (d := d + 7) (σ := σ) (r := r) mj (w := 20) (by decide) q20
        rw [v20] at k5
        rw [if_neg (fun y => q20 y.1)]
        refine ⟨g3, ?_, mj, FG.rfl g3⟩
        rw [g187_58]
        simp (decide := true) only [bm_run_ite, Option.toList_some, Option.bind_some, Option.toList_some, Option.toList_none, List.cons_append, List.nil_append, List.append_nil, eq_self, not_true_eq_false, not_false_eq_true, ite_true, ite_false, ↓reduceIte, Nat.reduceLT, Nat.reduceEqDiff, Nat.reduceAdd, or_true, true_or, or_false, false_or, k5, g187_64]
  obtain ⟨g4, p4, m4, f4⟩ := cmp
  obtain ⟨w2, g5, k5, m5, f5, hw2⟩ := mnm (S := S) (d := d) (r := r) h (lo := 0) (hi := nI M - 1) m4
  obtain ⟨b6, a6, g6, k6, alt6, m6, f6⟩ := mtk (S := S) (d := d) (r := r) h (w := 5) (by decide) m5
  rw [v5] at k6
  obtain ⟨w3, g7, k7, m7, f7, hw3⟩ := mnm (S := S) (d := d) (r := r) h (lo := 1) (hi := 999) m6
  obtain ⟨b8, a8, g8, k8, alt8, m8, f8⟩ := mtk (S := S) (d := d) (r := r) h (w := 6) (by decide) m7
  rw [v6] at k8
  obtain ⟨w4, g9, k9, m9, f9, hw4⟩ := mnm (S := S) (d := d) (r := r) h (lo := 0) (hi := 20) m8
  change MX T n (lt4 (qN T n) (vN T n) M i) g9 at m9
  have f19 : FG g g9 := (((((((f1.tr f2).tr f3).tr f4).tr f5).tr f6).tr f7).tr f8).tr f9
  have r1 : bm_call S (d + 8) 187 [.ref 218] (st2 σ g r) = bm_run S (d + 8) 187 58 [some (.ref 218), some (.int (nI L)), some (.int w1), none, none, none, none] [] (st2 σ g3 r) := by
    rcases alt3 with ⟨hb, rfl⟩ | ⟨rfl, k33⟩
    · simp (decide := true) only [e187, g187_0, g187_19, g187_27, g187_31, g187_44, g187_50, bm_run_ite, Option.toList_some, Option.bind_some, Option.toList_some, Option.toList_none, List.cons_append, List.nil_append, List.append_nil, eq_self, not_true_eq_false, not_false_eq_true, ite_true, ite_false, ↓reduceIte, Nat.reduceLT, Nat.reduceEqDiff, Nat.reduceAdd, or_true, true_or, or_false, false_or, e25, r25, n12, e11, z, k1, e3, r3, k2, k3, hb]
    · simp (decide := true) only [e187, g187_0, g187_19, g187_27, g187_31, g187_44, g187_50, g187_53, bm_run_ite, Option.toList_some, Option.bind_some, Option.toList_some, Option.toList_none, List.cons_append, List.nil_append, List.append_nil, eq_self, not_true_eq_false, not_false_eq_true, ite_true, ite_false, ↓reduceIte, Nat.reduceLT, Nat.reduceEqDiff, Nat.reduceAdd, or_true, true_or, or_false, false_or, e25, r25, n12, e11, z, k1, e3, r3, k2, k3, k33]
  have r2 : bm_run S (d + 8) 187 80 [some (.ref 218), some (.int (nI L)), some (.int w1), none, none, none, none] [] (st2 σ g4 r) = bm_run S (d + 8) 187 107 [some (.ref 218), some (.int (nI L)), some (.int w1), some (.int w2), none, none, none] [] (st2 σ g6 r) := by
    rcases alt6 with ⟨hb, rfl⟩ | ⟨rfl, k66⟩
    · rw [g187_80]
      simp (decide := true) only [bm_run_ite, Option.toList_some, Option.bind_some, Option.toList_some, Option.toList_none, List.cons_append, List.nil_append, List.append_nil, eq_self, not_true_eq_false, not_false_eq_true, ite_true, ite_false, ↓reduceIte, Nat.reduceLT, Nat.reduceEqDiff, Nat.reduceAdd, or_true, true_or, or_false, false_or, e3, r3, k5, g187_93, k6, g187_99, hb]
    · rw [g187_80]
      simp (decide := true) only [bm_run_ite, Option.toList_some, Option.bind_some, Option.toList_some, Option.toList_none, List.cons_append, List.nil_append, List.append_nil, eq_self, not_true_eq_false, not_false_eq_true, ite_true, ite_false, ↓reduceIte, Nat.reduceLT, Nat.reduceEqDiff, Nat.reduceAdd, or_true, true_or, or_false, false_or, e3, r3, k5, g187_93, k6, g187_99, g187_102, k66]
  have r3b : bm_run S (d + 8) 187 107 [some (.ref 218), some (.int (nI L)), some (.int w1), some (.int w2), none, none, none] [] (st2 σ g6 r) = bm_run S (d + 8) 187 131 [some (.ref 218), some (.int (nI L)), some (.int w1), some (.int w2), some (.int w3), none, none] [] (st2 σ g8 r) := by
    rcases alt8 with ⟨hb, rfl⟩ | ⟨rfl, k88⟩
    · rw [g187_107]
      simp (decide := true) only [bm_run_ite, Option.toList_some, Option.bind_some, Option.toList_some, Option.toList_none, List.cons_append, List.nil_append, List.append_nil, eq_self, not_true_eq_false, not_false_eq_true, ite_true, ite_false, ↓reduceIte, Nat.reduceLT, Nat.reduceEqDiff, Nat.reduceAdd, or_true, true_or, or_false, false_or, k7, g187_115, k8, g187_123, hb]
    · rw [g187_107]
      simp (decide := true) only [bm_run_ite, Option.toList_some, Option.bind_some, Option.toList_some, Option.toList_none, List.cons_append, List.nil_append, List.append_nil, eq_self, not_true_eq_false, not_false_eq_true, ite_true, ite_false, ↓reduceIte, Nat.reduceLT, Nat.reduceEqDiff, Nat.reduceAdd, or_true, true_or, or_false, false_or, k7, g187_115, k8, g187_123, g187_126, k88]
  have run := r1.trans (p4.trans (r2.trans r3b))
  -- late or not, and then the letter is laid down
  have fin : ∀ (w5 : Int32) (gz : Nat → Int32) (j : Nat), FG g9 gz → MT T n j gz → lt4 (qN T n) (vN T n) M i = Sum.inl (i + 8) → lt5 (qN T n) (vN T n) M i = Sum.inl j → w5 = (if qN T n (i + 8) = 7 then vN T n (i + 9) else 0) → bm_run S (d + 8) 187 131 [some (.ref 218), some (.int (nI L)), some (.int w1), some (.int w2), some (.int w3), none, none] [] (st2 σ g8 r) = bm_run S (d + 8) 187 160 [some (.ref 218), some (.int (nI L)), some (.int w1), some (.int w2), some (.int w3), some (.int w4), none] [.int w5] (st2 σ gz r) → ∃ g1 r1, bm_call S (d + 8) 187 [.ref 218] (st2 σ g r) = some (none, st2 σ g1 r1) ∧ FG g g1 ∧ LNO T n (match lt5 (qN T n) (vN T n) M i with | Sum.inl j => Sum.inl (j, lwR R L (vN T n (i + 1)) (vN T n (i + 3)) (vN T n (i + 5)) (vN T n (i + 7)) (if qN T n (i + 8) = 7 then vN T n (i + 9) else 0), C) | Sum.inr e => Sum.inr e) g1 r1 := by
    intro w5 gz j fz mz h4 h5 hw5 rn
    obtain ⟨_, x3, x2, x1, y3, y2, y1, y0⟩ := lt4_l h4
    have ew1 : w1 = vN T n (i + 1) := hw1 _ y0
    have ew2 : w2 = vN T n (i + 3) := by rw [hw2 _ y1, x2]; rfl
    have ew3 : w3 = vN T n (i + 5) := by rw [hw3 _ y3, y2]; rfl
    have ew4 : w4 = vN T n (i + 7) := by
      have := hw4 _ (show nmx (qN T n) (vN T n) 0 20 (lt3 (qN T n) (vN T n) M i) = Sum.inl (i + 8) from h4)
      rw [show tkx (qN T n) 6 (nmx (qN T n) (vN T n) 1 999 (tkx (qN T n) 5 (nmx (qN T n) (vN T n) 0 (nI M - 1) (lt2 (qN T n) (vN T n) M i)))) = lt3 (qN T n) (vN T n) M i from rfl, x3] at this
      exact this
    have z0 := mz.1
    have a : ∀ b : Nat, b ≤ 68 → nI b + nI L = nI (b + L) := fun b _ => nI_add b L
    have a32 : (32 : Int32) + nI L = nI (32 + L) := a 32 (by omega)
    have a44 : (44 : Int32) + nI L = nI (44 + L) := a 44 (by omega)
    have a56 : (56 : Int32) + nI L = nI (56 + L) := a 56 (by omega)
    have a68 : (68 : Int32) + nI L = nI (68 + L) := a 68 (by omega)
    have a10 : (10 : Int32) + nI L = nI (10 + L) := a 10 (by omega)
    have bd : ∀ b : Nat, b ≤ 80 → ¬ (nI b < 0 ∨ 1694 ≤ b) := fun b hb => by rintro (y | y); exact nI_pos (by omega) y; omega
    have u25 : ∀ x1 x2 x3 x4 x5, upd (upd (upd (upd (upd r (32 + L) x1) (44 + L) x2) (56 + L) x3) (68 + L) x4) (10 + L) x5 25 = nI L := fun x1 x2 x3 x4 x5 => by
      rw [upd_n _ _ (by omega), upd_n _ _ (by omega), upd_n _ _ (by omega), upd_n _ _ (by omega), upd_n _ _ (by omega)]; exact r25
    rw [h5]
    refine ⟨gz, lwR r L w1 w2 w3 w4 w5, run.trans (rn.trans ?_), f19.tr fz, mz, ?_, ?_⟩
    · rw [g187_160]
      simp (decide := true) only [bm_run_ite, Option.toList_some, Option.bind_some, Option.toList_some, Option.toList_none, List.cons_append, List.nil_append, List.append_nil, eq_self, not_true_eq_false, not_false_eq_true, ite_true, ite_false, ↓reduceIte, Nat.reduceLT, Nat.reduceEqDiff, Nat.reduceAdd, or_true, true_or, or_false, false_or, e11, z0, g187_170, a32, a44, a56, a68, a10, nI_clamp2 (show 32 + L < 2147483648 by omega), nI_clamp2 (show 44 + L < 2147483648 by omega), nI_clamp2 (show 56 + L < 2147483648 by omega), nI_clamp2 (show 68 + L < 2147483648 by omega), nI_clamp2 (show 10 + L < 2147483648 by omega), bd (32 + L) (by omega), bd (44 + L) (by omega), bd (56 + L) (by omega), bd (68 + L) (by omega), bd (10 + L) (by omega), s2_wr, e25, u25, nI_1]
      rfl
    · unfold lwR
      exact (((((c.up (by omega) _).up (by omega) _).up (by omega) _).up (by omega) _).up (by omega) _).up (by omega) _
    · rw [ew1, ew2, ew3, ew4, hw5]
      unfold lwR
      exact (((((hr.up _ _).up _ _).up _ _).up _ _).up _ _).up _ _
  -- a fault is told and stays
  have bad : ∀ (w5 : Int32) (gz : Nat → Int32) (e : Int32) (j : Nat), FG g9 gz → MF T n e j gz → lt5 (qN T n) (vN T n) M i = Sum.inr (e, j) → bm_run S (d + 8) 187 131 [some (.ref 218), some (.int (nI L)), some (.int w1), some (.int w2), some (.int w3), none, none] [] (st2 σ g8 r) = bm_run S (d + 8) 187 160 [some (.ref 218), some (.int (nI L)), some (.int w1), some (.int w2), some (.int w3), some (.int w4), none] [.int w5] (st2 σ gz r) → ∃ g1 r1, bm_call S (d + 8) 187 [.ref 218] (st2 σ g r) = some (none, st2 σ g1 r1) ∧ FG g g1 ∧ LNO T n (match lt5 (qN T n) (vN T n) M i with | Sum.inl j => Sum.inl (j, lwR R L (vN T n (i + 1)) (vN T n (i + 3)) (vN T n (i + 5)) (vN T n (i + 7)) (if qN T n (i + 8) = 7 then vN T n (i + 9) else 0), C) | Sum.inr e => Sum.inr e) g1 r1 := by
    intro w5 gz e j fz mz h5 rn
    have n0 := MF.n0 mz
    rw [h5]
    refine ⟨gz, r, run.trans (rn.trans ?_), f19.tr fz, mz⟩
    rw [g187_160]
    simp (decide := true) only [bm_run_ite, Option.toList_some, Option.bind_some, Option.toList_some, Option.toList_none, List.cons_append, List.nil_append, List.append_nil, eq_self, not_true_eq_false, not_false_eq_true, ite_true, ite_false, ↓reduceIte, Nat.reduceLT, Nat.reduceEqDiff, Nat.reduceAdd, or_true, true_or, or_false, false_or, e11, n0, g187_169]
  cases hx : lt4 (qN T n) (vN T n) M i with
  | inr e =>
    obtain ⟨w, j⟩ := e
    rw [hx] at m9
    have n0 : ¬ g9 11 = 0 := MF.n0 (show MF T n w j g9 from m9)
    refine bad 0 g9 w j (FG.rfl g9) m9 (by unfold lt5; rw [hx]; rfl) ?_
    rw [g187_131]
    simp (decide := true) only [bm_run_ite, Option.toList_some, Option.bind_some, Option.toList_some, Option.toList_none, List.cons_append, List.nil_append, List.append_nil, eq_self, not_true_eq_false, not_false_eq_true, ite_true, ite_false, ↓reduceIte, Nat.reduceLT, Nat.reduceEqDiff, Nat.reduceAdd, or_true, true_or, or_false, false_or, k9, g187_138, m174e (S := S) (d := d + 6) (σ := σ) (r := r) n0 7, g187_146, g187_159]
  | inl j =>
    have ej := (lt4_l hx).1
    subst ej
    rw [hx] at m9
    have m9b : MT T n (i + 8) g9 := m9
    by_cases q7 : qN T n (i + 8) = 7
    · obtain ⟨g10, k10, m10, f10⟩ := m174y (S := S) (d := d) (r := r) h m9b (w := 7) (by decide) q7
      rw [v7] at k10
      obtain ⟨w5, g11, k11, m11, f11, hw5⟩ := mnm (S := S) (d := d) (r := r) h (lo := 0) (hi := 9) (x := Sum.inl (i + 8 + 1)) m10
      have rn : bm_run S (d + 8) 187 131 [some (.ref 218), some (.int (nI L)), some (.int w1), some (.int w2), some (.int w3), none, none] [] (st2 σ g8 r) = bm_run S (d + 8) 187 160 [some (.ref 218), some (.int (nI L)), some (.int w1), some (.int w2), some (.int w3), some (.int w4), none] [.int w5] (st2 σ g11 r) := by
        rw [g187_131]
        simp (decide := true) only [bm_run_ite, Option.toList_some, Option.bind_some, Option.toList_some, Option.toList_none, List.cons_append, List.nil_append, List.append_nil, eq_self, not_true_eq_false, not_false_eq_true, ite_true, ite_false, ↓reduceIte, Nat.reduceLT, Nat.reduceEqDiff, Nat.reduceAdd, or_true, true_or, or_false, false_or, k9, g187_138, k10, g187_146, g187_149, k11, g187_156]
      have l5 : lt5 (qN T n) (vN T n) M i = nmx (qN T n) (vN T n) 0 9 (Sum.inl (i + 8 + 1)) := by
        unfold lt5
        rw [hx]
        exact if_pos q7
      cases hy : nmx (qN T n) (vN T n) 0 9 (Sum.inl (i + 8 + 1)) with
      | inl j =>
        rw [hy] at m11
        exact fin w5 g11 j (f10.tr f11) m11 hx (l5.trans hy) (by rw [if_pos q7]; exact hw5 j hy) rn
      | inr e =>
        obtain ⟨w, j⟩ := e
        rw [hy] at m11
        exact bad w5 g11 w j (f10.tr f11) m11 (l5.trans hy) rn
    · have k10 := m174n (S := S) (d := d + 6) (σ := σ) (r := r) (not_k m9b (w := 7) (by decide) q7)
      rw [v7] at k10
      refine fin 0 g9 (i + 8) (FG.rfl g9) m9b hx (by unfold lt5; rw [hx]; exact if_neg q7) (by rw [if_neg q7]) ?_
      rw [g187_131]
      simp (decide := true) only [bm_run_ite, Option.toList_some, Option.bind_some, Option.toList_some, Option.toList_none, List.cons_append, List.nil_append, List.append_nil, eq_self, not_true_eq_false, not_false_eq_true, ite_true, ite_false, ↓reduceIte, Nat.reduceLT, Nat.reduceEqDiff, Nat.reduceAdd, or_true, true_or, or_false, false_or, k9, g187_138, k10, g187_146, g187_159]
end MLINE
