def lwz (time : Bool) (q : Nat → Nat) (v : Nat → Int32) (K i : Nat) (R : Nat → Int32) (C : List Int32) : lnR :=
  match tkx q 24 (Sum.inl (i + 1)) with
  | Sum.inl j =>
    (match pz time q v (K + 1) 31 (if time = true then 0 else 3) 0 j C with
    | Sum.inl (j2, C2) => Sum.inl (j2, upd (upd (upd R (4 + (if time = true then 1 else 0)) 1) (6 + (if time = true then 1 else 0)) (nI C.length)) (8 + (if time = true then 1 else 0)) (nI C2.length - nI C.length), C2)
    | Sum.inr e => Sum.inr e)
  | Sum.inr e => Sum.inr e
def FH (g g1 : Nat → Int32) : Prop := ∀ i, i ≠ 6 → i ≠ 7 → i ≠ 9 → i ≠ 10 → i ≠ 11 → i ≠ 12 → i ≠ 15 → g1 i = g i
theorem FG.h {g g1 : Nat → Int32} (f : FG g g1) : FH g g1 := fun i a b c e x y _ => f i a b c e x y
theorem FH.tr {g h k : Nat → Int32} (a : FH g h) (b : FH h k) : FH g k := fun i x1 x2 x3 x4 x5 x6 x7 => (b i x1 x2 x3 x4 x5 x6 x7).trans (a i x1 x2 x3 x4 x5 x6 x7)
theorem FH.rfl (g : Nat → Int32) : FH g g := fun _ _ _ _ _ _ _ _ => Eq.refl _
section MLNS
variable {S : am_S} {d : Nat} {σ : bm_S} {T : Nat → Int32} {n K : Nat} {g r R : Nat → Int32} {C : List Int32}
theorem MT.w15 {i : Nat} {g : Nat → Int32} (m : MT T n i g) (x : Int32) : MT T n i (upd g 15 x) := by
  obtain ⟨a, b, c, e, f, k⟩ := m
  exact ⟨by rw [upd_n _ _ (by decide)]; exact a, by rw [upd_n _ _ (by decide)]; exact b, by rw [upd_n _ _ (by decide)]; exact c, by rw [upd_n _ _ (by decide)]; exact e, by rw [upd_n _ _ (by decide)]; exact f, fun h => by rw [upd_n _ _ (by decide)]; exact k h⟩
theorem m188 (h : tx T n σ) (hK : tkK (qN T n) K) (hKn : K ≤ n) {i : Nat} (time : Bool) (hi : i < K) (hC : C.length ≤ i) (m : MT T n i g) (c : CD C r) (hr : RLo R r) : ∃ g1 r1, bm_call S (d + 40) 188 [.ref 218, .int (bI time)] (st2 σ g r) = some (none, st2 σ g1 r1) ∧ FH g g1 ∧ LNO T n (lwz time (qN T n) (vN T n) K i R C) g1 r1 := by
  have v24 : krT 24 = 31 := by decide +kernel
  have e793 : ∀ g r, (st2 σ g r).1 222 793 = r 793 := fun g r => by rw [s2_20]
  have e11 : ∀ g r, (st2 σ g r).1 218 11 = g 11 := fun g r => by rw [s2_16]
  obtain ⟨g1, k1, m1, f1⟩ := m171t (S := S) (d := d + 33) (r := r) h m
  obtain ⟨b2, a2, g2, k2, alt2, m2, f2⟩ := mtk (S := S) (d := d + 32) (r := r) h (w := 24) (by decide) (x := Sum.inl (i + 1)) m1
  rw [v24] at k2
  have c793 := c.1
  have go : bm_call S (d + 40) 188 [.ref 218, .int (bI time)] (st2 σ g r) = bm_run S (d + 40) 188 (if ¬ bI time = 0 then 44 else 36) [some (.ref 218), some (.int (bI time)), some (.int (nI C.length))] [] (st2 σ (upd g2 15 (bI time)) r) := by
    rcases alt2 with ⟨hb, rfl⟩ | ⟨rfl, k3⟩
    · simp (decide := true) only [e188, g188_0, g188_4, g188_10, bm_run_ite, Option.toList_some, Option.bind_some, Option.toList_some, Option.toList_none, List.cons_append, List.nil_append, List.append_nil, eq_self, not_true_eq_false, not_false_eq_true, ite_true, ite_false, ↓reduceIte, Nat.reduceLT, Nat.reduceEqDiff, Nat.reduceAdd, or_true, true_or, or_false, false_or, k1, k2, hb]
      rw [g188_18, e793, c793, s2_wg, bm_run_ite]
    · simp (decide := true) only [e188, g188_0, g188_4, g188_10, g188_13, bm_run_ite, Option.toList_some, Option.bind_some, Option.toList_some, Option.toList_none, List.cons_append, List.nil_append, List.append_nil, eq_self, not_true_eq_false, not_false_eq_true, ite_true, ite_false, ↓reduceIte, Nat.reduceLT, Nat.reduceEqDiff, Nat.reduceAdd, or_true, true_or, or_false, false_or, k1, k2, k3]
      rw [g188_18, e793, c793, s2_wg, bm_run_ite]
  have fh : FH g (upd g2 15 (bI time)) := ((f1.tr f2).h).tr (fun j _ _ _ _ _ _ x => upd_n _ _ x)
  -- a fault
  have bad : ∀ (e : Int32) (j : Nat) (gz rz : Nat → Int32), FG (upd g2 15 (bI time)) gz → MF T n e j gz → bm_run S (d + 40) 188 (if ¬ bI time = 0 then 44 else 36) [some (.ref 218), some (.int (bI time)), some (.int (nI C.length))] [] (st2 σ (upd g2 15 (bI time)) r) = bm_run S (d + 40) 188 49 [some (.ref 218), some (.int (bI time)), some (.int (nI C.length))] [] (st2 σ gz rz) → lwz time (qN T n) (vN T n) K i R C = Sum.inr (e, j) → ∃ g1 r1, bm_call S (d + 40) 188 [.ref 218, .int (bI time)] (st2 σ g r) = some (none, st2 σ g1 r1) ∧ FH g g1 ∧ LNO T n (lwz time (qN T n) (vN T n) K i R C) g1 r1 := by
    intro e j gz rz fz mz rn hz
    have n0 := MF.n0 mz
    rw [hz]
    refine ⟨gz, rz, go.trans (rn.trans ?_), fh.tr fz.h, mz⟩
    rw [g188_49]
    simp (decide := true) only [bm_run_ite, Option.toList_some, Option.bind_some, Option.toList_some, Option.toList_none, List.cons_append, List.nil_append, List.append_nil, eq_self, not_true_eq_false, not_false_eq_true, ite_true, ite_false, ↓reduceIte, Nat.reduceLT, Nat.reduceEqDiff, Nat.reduceAdd, or_true, true_or, or_false, false_or, e11, n0, g188_56]
  cases hx : tkx (qN T n) 24 (Sum.inl (i + 1)) with
  | inr e =>
    obtain ⟨w, j⟩ := e
    rw [hx] at m2
    have mf : MF T n w j (upd g2 15 (bI time)) := by
      obtain ⟨a, b, e⟩ := (show MF T n w j g2 from m2)
      exact ⟨by rw [upd_n _ _ (by decide)]; exact a, b, by rw [upd_n _ _ (by decide)]; exact e⟩
    have n0 := MF.n0 mf
    refine bad w j _ r (FG.rfl _) mf ?_ (by unfold lwz; rw [hx])
    cases time
    · have k5 := m182e (S := S) (d := d + 36) (σ := σ) (r := r) n0 0
      rw [if_neg (by decide), g188_36]
      simp (decide := true) only [bm_run_ite, Option.toList_some, Option.bind_some, Option.toList_some, Option.toList_none, List.cons_append, List.nil_append, List.append_nil, eq_self, not_true_eq_false, not_false_eq_true, ite_true, ite_false, ↓reduceIte, Nat.reduceLT, Nat.reduceEqDiff, Nat.reduceAdd, or_true, true_or, or_false, false_or, k5, g188_41]
    · have k5 := m185e (S := S) (d := d + 33) (σ := σ) (r := r) n0 0
      rw [if_pos (by decide), g188_44]
      simp (decide := true) only [bm_run_ite, Option.toList_some, Option.bind_some, Option.toList_some, Option.toList_none, List.cons_append, List.nil_append, List.append_nil, eq_self, not_true_eq_false, not_false_eq_true, ite_true, ite_false, ↓reduceIte, Nat.reduceLT, Nat.reduceEqDiff, Nat.reduceAdd, or_true, true_or, or_false, false_or, k5]
  | inl j =>
    obtain ⟨a, ea, ej, qa⟩ := tkx_l hx
    have : i + 1 = a := Sum.inl.inj ea
    subst this
    subst ej
    rw [hx] at m2
    have mt : MT T n (i + 1 + 1) g2 := m2
    have i1 : i + 1 < K := lt_K hK (by omega) (by rw [qa]; decide)
    have rd := MRd (S := S) (d := d) (σ := σ) (T := T) (n := n) (K := K) (time := time) h hK hKn 31 (if time = true then 0 else 3) 0 (i + 1 + 1) C (upd g2 15 (bI time)) r (by split <;> omega) (by omega) (by unfold muz; split <;> omega) (by omega) (by omega) (mt.w15 _) c (upd_s _ _ _)
    obtain ⟨g5, r5, k5, f5, y5, o5⟩ := rd
    have rn : bm_run S (d + 40) 188 (if ¬ bI time = 0 then 44 else 36) [some (.ref 218), some (.int (bI time)), some (.int (nI C.length))] [] (st2 σ (upd g2 15 (bI time)) r) = bm_run S (d + 40) 188 49 [some (.ref 218), some (.int (bI time)), some (.int (nI C.length))] [] (st2 σ g5 r5) := by
      cases time
      · replace k5 : bm_call S (d + 39) 182 [.ref 218, .int 0] (st2 σ (upd g2 15 (bI false)) r) = some (none, st2 σ g5 r5) := k5
        rw [if_neg (by decide), g188_36]
        simp (decide := true) only [bm_run_ite, Option.toList_some, Option.bind_some, Option.toList_some, Option.toList_none, List.cons_append, List.nil_append, List.append_nil, eq_self, not_true_eq_false, not_false_eq_true, ite_true, ite_false, ↓reduceIte, Nat.reduceLT, Nat.reduceEqDiff, Nat.reduceAdd, or_true, true_or, or_false, false_or, k5, g188_41]
      · replace k5 : bm_call S (d + 39) 185 [.ref 218, .int 0] (st2 σ (upd g2 15 (bI true)) r) = some (none, st2 σ g5 r5) := k5
        rw [if_pos (by decide), g188_44]
        simp (decide := true) only [bm_run_ite, Option.toList_some, Option.bind_some, Option.toList_some, Option.toList_none, List.cons_append, List.nil_append, List.append_nil, eq_self, not_true_eq_false, not_false_eq_true, ite_true, ite_false, ↓reduceIte, Nat.reduceLT, Nat.reduceEqDiff, Nat.reduceAdd, or_true, true_or, or_false, false_or, k5]
    cases hy : pz time (qN T n) (vN T n) (K + 1) 31 (if time = true then 0 else 3) 0 (i + 1 + 1) C with
    | inr e =>
      obtain ⟨w, j⟩ := e
      rw [hy] at o5
      exact bad w j g5 r5 f5 o5 rn (by unfold lwz; rw [hx]; simp only [hy])
    | inl p =>
      obtain ⟨j2, C2⟩ := p
      rw [hy] at o5
      obtain ⟨n1, n2, n3⟩ := o5
      have hz : lwz time (qN T n) (vN T n) K i R C = Sum.inl (j2, upd (upd (upd R (4 + (if time = true then 1 else 0)) 1) (6 + (if time = true then 1 else 0)) (nI C.length)) (8 + (if time = true then 1 else 0)) (nI C2.length - nI C.length), C2) := by unfold lwz; rw [hx]; simp only [hy]
      rw [hz]
      have r2 : RLo R r5 := fun m hm => (y5 m hm).trans (hr m hm)
      have z0 := n1.1
      have s793 : ∀ x y, upd (upd r5 x 1) y (nI C.length) 793 = nI C2.length ∨ True := fun _ _ => Or.inr trivial
      have b4 : (4 : Int32) + bI time = nI (4 + (if time = true then 1 else 0)) ∧ (6 : Int32) + bI time = nI (6 + (if time = true then 1 else 0)) ∧ (8 : Int32) + bI time = nI (8 + (if time = true then 1 else 0)) := by cases time <;> decide
      obtain ⟨b4, b6, b8⟩ := b4
      generalize ht : (if time = true then 1 else 0 : Nat) = t at *
      have t2 : t ≤ 1 := by rw [← ht]; split <;> omega
      have bd : ∀ b : Nat, b ≤ 80 → ¬ (nI b < 0 ∨ 1694 ≤ b) := fun b hb => by rintro (y | y); exact nI_pos (by omega) y; omega
      have u93 : upd (upd r5 (4 + t) 1) (6 + t) (nI C.length) 793 = nI C2.length := by rw [upd_n _ _ (by omega), upd_n _ _ (by omega)]; exact n2.1
      refine ⟨g5, upd (upd (upd r5 (4 + t) 1) (6 + t) (nI C.length)) (8 + t) (nI C2.length - nI C.length), go.trans (rn.trans ?_), fh.tr f5.h, n1, ((n2.up (by omega) _).up (by omega) _).up (by omega) _, ((r2.up _ _).up _ _).up _ _⟩
      rw [g188_49]
      simp (decide := true) only [bm_run_ite, Option.toList_some, Option.bind_some, Option.toList_some, Option.toList_none, List.cons_append, List.nil_append, List.append_nil, eq_self, not_true_eq_false, not_false_eq_true, ite_true, ite_false, ↓reduceIte, Nat.reduceLT, Nat.reduceEqDiff, Nat.reduceAdd, or_true, true_or, or_false, false_or, e11, z0, g188_57, b4, b6, b8, nI_clamp2 (show 4 + t < 2147483648 by omega), nI_clamp2 (show 6 + t < 2147483648 by omega), nI_clamp2 (show 8 + t < 2147483648 by omega), bd (4 + t) (by omega), bd (6 + t) (by omega), bd (8 + t) (by omega), s2_wr, e793, u93]
end MLNS
