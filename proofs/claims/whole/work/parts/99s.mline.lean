/-- (the next token, the row, its code), or a fault -/
abbrev lnR : Type := Sum (Nat × (Nat → Int32) × List Int32) (Int32 × Nat)
def mrz (q : Nat → Nat) (v : Nat → Int32) (M i : Nat) (R : Nat → Int32) (C : List Int32) : lnR :=
  if M = 6 then Sum.inr (4, i) else
  match nmx q v 0 999 (Sum.inl (i + 1)) with
  | Sum.inl j => Sum.inl (j, upd (upd R (26 + M) (v (i + 1))) 3 (nI (M + 1)), C)
  | Sum.inr e => Sum.inr e
def frz (q : Nat → Nat) (v : Nat → Int32) (i : Nat) (R : Nat → Int32) (C : List Int32) : lnR :=
  match nmx q v 0 999 (Sum.inl (i + 1)) with
  | Sum.inl j => Sum.inl (j, upd R 22 (v (i + 1)), C)
  | Sum.inr e => Sum.inr e
/-- owes, to, whom, of, much, at, in -/
def lt1 (q : Nat → Nat) (v : Nat → Int32) (M : Nat) (i : Nat) : xzR := tkx q 4 (nmx q v 0 (nI M - 1) (Sum.inl (i + 1)))
def lt2 (q : Nat → Nat) (v : Nat → Int32) (M : Nat) (i : Nat) : xzR := bdx (lt1 q v M i) (fun j => if q j = 20 ∧ v j = v (i + 1) then Sum.inr (3, j) else Sum.inl j)
def lt3 (q : Nat → Nat) (v : Nat → Int32) (M : Nat) (i : Nat) : xzR := tkx q 6 (nmx q v 1 999 (tkx q 5 (nmx q v 0 (nI M - 1) (lt2 q v M i))))
def lt4 (q : Nat → Nat) (v : Nat → Int32) (M : Nat) (i : Nat) : xzR := nmx q v 0 20 (lt3 q v M i)
def lt5 (q : Nat → Nat) (v : Nat → Int32) (M : Nat) (i : Nat) : xzR := bdx (lt4 q v M i) (fun j => if q j = 7 then nmx q v 0 9 (Sum.inl (j + 1)) else Sum.inl j)
def lwR (R : Nat → Int32) (L : Nat) (a b c e l : Int32) : Nat → Int32 := upd (upd (upd (upd (upd (upd R (32 + L) a) (44 + L) b) (56 + L) c) (68 + L) e) (10 + L) l) 25 (nI (L + 1))
def ltz (q : Nat → Nat) (v : Nat → Int32) (M L i : Nat) (R : Nat → Int32) (C : List Int32) : lnR :=
  if L = 12 then Sum.inr (4, i) else
  match lt5 q v M i with
  | Sum.inl j => Sum.inl (j, lwR R L (v (i + 1)) (v (i + 3)) (v (i + 5)) (v (i + 7)) (if q (i + 8) = 7 then v (i + 9) else 0), C)
  | Sum.inr e => Sum.inr e
theorem nmx_l {q : Nat → Nat} {v : Nat → Int32} {lo hi : Int32} {x : xzR} {j : Nat} (h : nmx q v lo hi x = Sum.inl j) : ∃ i, x = Sum.inl i ∧ j = i + 1 ∧ q i = 20 ∧ inb (v i) lo hi = true := by
  rcases x with i | e
  · refine ⟨i, rfl, ?_⟩
    change (if q i = 20 then (if inb (v i) lo hi = true then Sum.inl (i + 1) else rfx q i 3) else rfx q i 2) = Sum.inl j at h
    by_cases a : q i = 20
    · rw [if_pos a] at h
      by_cases b : inb (v i) lo hi = true
      · rw [if_pos b] at h
        exact ⟨(Sum.inl.inj h).symm, a, b⟩
      · rw [if_neg b] at h; unfold rfx at h; cases h
    · rw [if_neg a] at h; unfold rfx at h; cases h
  · cases h
theorem tkx_l {q : Nat → Nat} {w : Nat} {x : xzR} {j : Nat} (h : tkx q w x = Sum.inl j) : ∃ i, x = Sum.inl i ∧ j = i + 1 ∧ q i = w := by
  rcases x with i | e
  · refine ⟨i, rfl, ?_⟩
    change (if q i = w then Sum.inl (i + 1) else rfx q i 2) = Sum.inl j at h
    by_cases a : q i = w
    · rw [if_pos a] at h
      exact ⟨(Sum.inl.inj h).symm, a⟩
    · rw [if_neg a] at h; unfold rfx at h; cases h
  · cases h
/-- all that a letter's line holds, when it is read -/
theorem lt4_l {q : Nat → Nat} {v : Nat → Int32} {M i j : Nat} (h : lt4 q v M i = Sum.inl j) : j = i + 8 ∧ lt3 q v M i = Sum.inl (i + 7) ∧ lt2 q v M i = Sum.inl (i + 3) ∧ lt1 q v M i = Sum.inl (i + 3) ∧ nmx q v 1 999 (tkx q 5 (nmx q v 0 (nI M - 1) (lt2 q v M i))) = Sum.inl (i + 6) ∧ tkx q 5 (nmx q v 0 (nI M - 1) (lt2 q v M i)) = Sum.inl (i + 5) ∧ nmx q v 0 (nI M - 1) (lt2 q v M i) = Sum.inl (i + 4) ∧ nmx q v 0 (nI M - 1) (Sum.inl (i + 1)) = Sum.inl (i + 2) := by
  obtain ⟨a1, e1, f1, _, _⟩ := nmx_l h
  have e1b := e1
  unfold lt3 at e1b
  obtain ⟨a2, e2, f2, _⟩ := tkx_l e1b
  obtain ⟨a3, e3, f3, _, _⟩ := nmx_l e2
  obtain ⟨a4, e4, f4, _⟩ := tkx_l e3
  obtain ⟨a5, e5, f5, _, _⟩ := nmx_l e4
  have e5b := e5
  unfold lt2 at e5b
  have e6 : lt1 q v M i = Sum.inl a5 := by
    cases hx : lt1 q v M i with
    | inl b =>
      rw [hx] at e5b
      change (if q b = 20 ∧ v b = v (i + 1) then Sum.inr (3, b) else Sum.inl b) = Sum.inl a5 at e5b
      split at e5b
      · cases e5b
      · exact congrArg Sum.inl (Sum.inl.inj e5b)
    | inr e => rw [hx] at e5b; cases e5b
  have e6b := e6
  unfold lt1 at e6b
  obtain ⟨a6, e7, f6, _⟩ := tkx_l e6b
  obtain ⟨a7, e8, f7, _, _⟩ := nmx_l e7
  have : i + 1 = a7 := Sum.inl.inj e8
  subst this
  subst f7 f6 f5 f4 f3 f2 f1
  exact ⟨rfl, e1, e5, e6, e2, e3, e4, e7⟩
section MLINE
variable {S : am_S} {d : Nat} {σ : bm_S} {T : Nat → Int32} {n : Nat} {g r R : Nat → Int32} {C : List Int32}
def RLo (R r : Nat → Int32) : Prop := ∀ m, m < 793 → r m = R m
/-- what a line comes to, in the reference -/
def LNO (T : Nat → Int32) (n : Nat) (x : lnR) (g r : Nat → Int32) : Prop :=
  match x with
  | Sum.inl (j, R, C) => MT T n j g ∧ CD C r ∧ RLo R r
  | Sum.inr (w, j) => MF T n w j g
theorem CD.up {C : List Int32} {r : Nat → Int32} (c : CD C r) {k : Nat} (hk : k < 793) (x : Int32) : CD C (upd r k x) := ⟨by rw [upd_n _ _ (by omega)]; exact c.1, fun m hm => by rw [upd_n _ _ (by omega)]; exact c.2 m hm⟩
theorem RLo.up {R r : Nat → Int32} (h : RLo R r) (k : Nat) (x : Int32) : RLo (upd R k x) (upd r k x) := fun m hm => by
  by_cases e : m = k
  · subst e; rw [upd_s, upd_s]
  · rw [upd_n _ _ e, upd_n _ _ e]; exact h m hm
theorem m186 (h : tx T n σ) {i M : Nat} (hM : M ≤ 6) (m : MT T n i g) (hq : ¬ qN T n i = 22) (c : CD C r) (hr : RLo R r) (h3 : R 3 = nI M) : ∃ g1 r1, bm_call S (d + 8) 186 [.ref 216] (st2 σ g r) = some (none, st2 σ g1 r1) ∧ FG g g1 ∧ LNO T n (mrz (qN T n) (vN T n) M i R C) g1 r1 := by
  have e3 : ∀ g r, (st2 σ g r).1 220 3 = r 3 := fun g r => by rw [s2_20]
  have e11 : ∀ g r, (st2 σ g r).1 216 11 = g 11 := fun g r => by rw [s2_16]
  have r3 : r 3 = nI M := (hr 3 (by omega)).trans h3
  have z := m.1
  unfold mrz
  by_cases q : M = 6
  · subst q
    obtain ⟨g1, k1, m1, f1⟩ := m172t (S := S) (d := d + 7) (σ := σ) (r := r) m (w := 4) (by decide)
    rw [if_neg hq] at m1
    have n0 := MF.n0 m1
    have e6 : nI 6 = 6 := rfl
    rw [if_pos rfl]
    refine ⟨g1, r, ?_, f1, m1⟩
    simp (decide := true) only [e186, g186_0, g186_13, g186_18, g186_25, bm_run_ite, Option.toList_some, Option.bind_some, Option.toList_some, Option.toList_none, List.cons_append, List.nil_append, List.append_nil, eq_self, not_true_eq_false, not_false_eq_true, ite_true, ite_false, ↓reduceIte, Nat.reduceLT, Nat.reduceEqDiff, Nat.reduceAdd, or_true, true_or, or_false, false_or, e3, r3, e6, k1, e11, n0]
  · have n6 : ¬ nI M = 6 := fun y => q ((nI_eq (a := M) (b := 6) (by omega) (by omega)).mp y)
    obtain ⟨g1, k1, m1, f1⟩ := m171t (S := S) (d := d + 1) (r := r) h m
    obtain ⟨w, g2, k2, m2, f2, hw⟩ := mnm (S := S) (d := d) (r := r) h (lo := 0) (hi := 999) (x := Sum.inl (i + 1)) m1
    rw [if_neg q]
    cases hx : nmx (qN T n) (vN T n) 0 999 (Sum.inl (i + 1)) with
    | inl j =>
      rw [hx] at m2 hw
      have ew : w = vN T n (i + 1) := hw j rfl
      subst ew
      have z2 : g2 11 = 0 := (show MT T n j g2 from m2).1
      have a26 : (26 : Int32) + nI M = nI (26 + M) := nI_add 26 M
      have bd : ¬ (nI (26 + M) < 0 ∨ 1694 ≤ 26 + M) := by rintro (y | y); exact nI_pos (by omega) y; omega
      have u3 : ∀ y, upd r (26 + M) y 3 = nI M := fun y => by rw [upd_n _ _ (by omega)]; exact r3
      refine ⟨g2, upd (upd r (26 + M) (vN T n (i + 1))) 3 (nI (M + 1)), ?_, f1.tr f2, m2, (c.up (by omega) _).up (by omega) _, (hr.up _ _).up _ _⟩
      simp (decide := true) only [e186, g186_0, g186_18, g186_26, g186_30, g186_38, g186_47, bm_run_ite, Option.toList_some, Option.bind_some, Option.toList_some, Option.toList_none, List.cons_append, List.nil_append, List.append_nil, eq_self, not_true_eq_false, not_false_eq_true, ite_true, ite_false, ↓reduceIte, Nat.reduceLT, Nat.reduceEqDiff, Nat.reduceAdd, or_true, true_or, or_false, false_or, e3, r3, n6, e11, z, k1, k2, z2, a26, nI_clamp2 (show 26 + M < 2147483648 by omega), bd, s2_wr, u3, nI_1]
    | inr e =>
      obtain ⟨w2, j⟩ := e
      rw [hx] at m2
      have n0 := MF.n0 (show MF T n w2 j g2 from m2)
      refine ⟨g2, r, ?_, f1.tr f2, m2⟩
      simp (decide := true) only [e186, g186_0, g186_18, g186_26, g186_30, g186_38, g186_46, bm_run_ite, Option.toList_some, Option.bind_some, Option.toList_some, Option.toList_none, List.cons_append, List.nil_append, List.append_nil, eq_self, not_true_eq_false, not_false_eq_true, ite_true, ite_false, ↓reduceIte, Nat.reduceLT, Nat.reduceEqDiff, Nat.reduceAdd, or_true, true_or, or_false, false_or, e3, r3, n6, e11, z, k1, k2, n0]
end MLINE
