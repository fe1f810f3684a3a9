section MREAD
variable {S : am_S} {d : Nat} {σ : bm_S} {T : Nat → Int32} {n K : Nat} {R g r : Nat → Int32} {C : List Int32}
theorem t220 : bm_tag 222 = 0 ∧ bm_len 222 = 1694 := by decide +kernel
def plR (r : Nat → Int32) : Nat → Int32 := fun k => if k = 1 ∨ k = 2 then 1 else if k < 1694 then 0 else r k
/-- the row as it is before the first word -/
theorem m165 : bm_call S d 165 [.ref 222] σ = some (none, bm_row σ 222 (plR (σ.1 222))) := by
  obtain ⟨ta, tb⟩ := t220
  have step := loop_eq (fun k => bm_run S d 165 2 [some (.ref 222), some (.int (nI k))] [] (bm_row σ 222 (fun i => if i < k then 0 else σ.1 222 i))) 1694 (by
    intro k hk
    have es : (fun i => if i < k + 1 then 0 else σ.1 222 i) = upd (fun i => if i < k then 0 else σ.1 222 i) k 0 := by
      funext i
      unfold upd
      by_cases e : i = k
      · subst e; rw [if_pos rfl, if_pos (by omega)]
      · rw [if_neg e]
        dsimp only
        by_cases q : i < k
        · rw [if_pos q, if_pos (by omega)]
        · rw [if_neg q, if_neg (by omega)]
    have nl : ¬ (1694 : Int32) ≤ nI k := nI_ge (b := 1694) hk (by decide)
    have bd : ¬ (nI k < 0 ∨ 1694 ≤ k) := by rintro (y | y); exact nI_pos (by omega) y; omega
    have ck : (nI k).toNatClampNeg = k := nI_clamp (by omega)
    rw [es, g165_2]
    generalize (fun i => if i < k then 0 else σ.1 222 i) = g at *
    simp (decide := true) only [bm_run_ite, Option.toList_some, Option.bind_some, Option.toList_some, Option.toList_none, List.cons_append, List.nil_append, List.append_nil, eq_self, not_true_eq_false, not_false_eq_true, ite_true, ite_false, ↓reduceIte, Nat.reduceLT, Nat.reduceEqDiff, Nat.reduceAdd, or_true, true_or, or_false, false_or, nl, g165_9, ta, tb, ck, bd, row_wi, nI_1])
  have z : (fun i => if i < 0 then 0 else σ.1 222 i) = σ.1 222 := by funext i; rw [if_neg (by omega)]
  simp only [z, row_self] at step
  rw [e165, g165_0]
  refine (show bm_run S d 165 2 [some (.ref 222), some (.int (nI 0))] [] σ = _ from step).trans ?_
  have nl : (1694 : Int32) ≤ nI 1694 := by decide
  have es : upd (upd (fun i => if i < 1694 then 0 else σ.1 222 i) 1 1) 2 1 = plR (σ.1 222) := by
    funext i
    unfold upd plR
    by_cases e2 : i = 2
    · rw [if_pos e2, if_pos (Or.inr e2)]
    · rw [if_neg e2]
      by_cases e1 : i = 1
      · rw [if_pos e1, if_pos (Or.inl e1)]
      · rw [if_neg e1, if_neg (by omega)]
  rw [g165_2]
  simp (decide := true) only [bm_run_ite, Option.toList_some, Option.bind_some, Option.toList_some, Option.toList_none, List.cons_append, List.nil_append, List.append_nil, eq_self, not_true_eq_false, not_false_eq_true, ite_true, ite_false, ↓reduceIte, Nat.reduceLT, Nat.reduceEqDiff, Nat.reduceAdd, or_true, true_or, or_false, false_or, nl, g165_19, ta, tb, row_wi]
  rw [es]
def hdy (q : Nat → Nat) (v : Nat → Int32) : lnR :=
  match hd4 q v with
  | Sum.inl j => Sum.inl (j, upd (upd R00 1 (v 1)) 2 (v 3), [])
  | Sum.inr e => Sum.inr e
theorem hdz_y {q : Nat → Nat} {v : Nat → Int32} : hdz q v = edz q (hdy q v) := by
  unfold hdz hdy
  cases hd4 q v with
  | inl j => rfl
  | inr e => rfl
/-- the first words, in the reference -/
theorem m191h (h : tx T n σ) {o1 : Option Value} (m : MT T n 0 g) : ∃ g1 r1, bm_run S (d + 42) 191 53 [some (.ref 218), o1, none] [] (st2 σ g (plR r)) = bm_run S (d + 42) 191 108 [some (.ref 218), o1, none] [] (st2 σ g1 r1) ∧ FH g g1 ∧ LNO T n (hdz (qN T n) (vN T n)) g1 r1 := by
  have kv : krT 0 = 0 ∧ krT 1 = 1 := by decide +kernel
  obtain ⟨v0, v1⟩ := kv
  obtain ⟨b1, a1, g1, k1, alt1, m1, f1⟩ := mtk (S := S) (d := d + 34) (r := plR r) h (w := 0) (by decide) (x := Sum.inl 0) m
  rw [v0] at k1
  have s1 : bm_run S (d + 42) 191 53 [some (.ref 218), o1, none] [] (st2 σ g (plR r)) = bm_run S (d + 42) 191 66 [some (.ref 218), o1, none] [] (st2 σ g1 (plR r)) := by
    rw [g191_53]
    rcases alt1 with ⟨hb, rfl⟩ | ⟨rfl, k3⟩
    · simp (decide := true) only [bm_run_ite, Option.toList_some, Option.bind_some, Option.toList_some, Option.toList_none, List.cons_append, List.nil_append, List.append_nil, eq_self, not_true_eq_false, not_false_eq_true, ite_true, ite_false, ↓reduceIte, Nat.reduceLT, Nat.reduceEqDiff, Nat.reduceAdd, or_true, true_or, or_false, false_or, k1, g191_58, hb]
    · simp (decide := true) only [bm_run_ite, Option.toList_some, Option.bind_some, Option.toList_some, Option.toList_none, List.cons_append, List.nil_append, List.append_nil, eq_self, not_true_eq_false, not_false_eq_true, ite_true, ite_false, ↓reduceIte, Nat.reduceLT, Nat.reduceEqDiff, Nat.reduceAdd, or_true, true_or, or_false, false_or, k1, g191_58, g191_61, k3]
  obtain ⟨x1, g2, k2, m2, f2, h2⟩ := mnm (S := S) (d := d + 34) (r := plR r) h (lo := 1) (hi := 6) m1
  have c1 : (1 : Int32).toNatClampNeg = 1 := by decide
  have c2 : (2 : Int32).toNatClampNeg = 2 := by decide
  obtain ⟨b3, a3, g3, k3, alt3, m3, f3⟩ := mtk (S := S) (d := d + 34) (r := upd (plR r) 1 x1) h (w := 1) (by decide) m2
  rw [v1] at k3
  have s3 : bm_run S (d + 42) 191 66 [some (.ref 218), o1, none] [] (st2 σ g1 (plR r)) = bm_run S (d + 42) 191 92 [some (.ref 218), o1, none] [] (st2 σ g3 (upd (plR r) 1 x1)) := by
    rw [g191_66]
    rcases alt3 with ⟨hb, rfl⟩ | ⟨rfl, k4⟩
    · simp (decide := true) only [bm_run_ite, Option.toList_some, Option.bind_some, Option.toList_some, Option.toList_none, List.cons_append, List.nil_append, List.append_nil, eq_self, not_true_eq_false, not_false_eq_true, ite_true, ite_false, ↓reduceIte, Nat.reduceLT, Nat.reduceEqDiff, Nat.reduceAdd, or_true, true_or, or_false, false_or, k2, g191_78, c1, s2_wr, k3, g191_84, hb]
    · simp (decide := true) only [bm_run_ite, Option.toList_some, Option.bind_some, Option.toList_some, Option.toList_none, List.cons_append, List.nil_append, List.append_nil, eq_self, not_true_eq_false, not_false_eq_true, ite_true, ite_false, ↓reduceIte, Nat.reduceLT, Nat.reduceEqDiff, Nat.reduceAdd, or_true, true_or, or_false, false_or, k2, g191_78, c1, s2_wr, k3, g191_84, g191_87, k4]
  obtain ⟨x3, g4, k4, m4, f4, h4⟩ := mnm (S := S) (d := d + 34) (r := upd (plR r) 1 x1) h (lo := 1) (hi := 4) m3
  have ln : LNO T n (hdy (qN T n) (vN T n)) g4 (upd (upd (plR r) 1 x1) 2 x3) := by
    unfold hdy
    cases hx : hd4 (qN T n) (vN T n) with
    | inr e =>
      obtain ⟨w, i⟩ := e
      have e4 : nmx (qN T n) (vN T n) 1 4 (tkx (qN T n) 1 (nmx (qN T n) (vN T n) 1 6 (tkx (qN T n) 0 (Sum.inl 0)))) = Sum.inr (w, i) := hx
      rw [e4] at m4
      exact m4
    | inl j =>
      have e4 : nmx (qN T n) (vN T n) 1 4 (tkx (qN T n) 1 (nmx (qN T n) (vN T n) 1 6 (tkx (qN T n) 0 (Sum.inl 0)))) = Sum.inl j := hx
      obtain ⟨i3, z3, ej, q3, n3⟩ := nmx_l e4
      obtain ⟨i2, z2, ej2, q2⟩ := tkx_l z3
      obtain ⟨i1, z1, ej1, q1, n1⟩ := nmx_l z2
      obtain ⟨i0, z0, ej0, q0⟩ := tkx_l z1
      have : 0 = i0 := Sum.inl.inj z0
      subst this
      subst ej0
      subst ej1
      subst ej2
      have u1 := h2 _ z2
      have u3 := h4 _ e4
      rw [z1] at u1
      rw [z3] at u3
      replace u1 : x1 = vN T n 1 := u1
      replace u3 : x3 = vN T n 3 := u3
      rw [e4] at m4
      subst u1 u3
      refine ⟨m4, ⟨?_, fun m hm => absurd hm (by simp)⟩, fun m hm => ?_⟩
      · rw [upd_n _ _ (by decide), upd_n _ _ (by decide)]; rfl
      · unfold upd plR R00
        by_cases e2 : m = 2
        · rw [if_pos e2, if_pos e2]
        · rw [if_neg e2, if_neg e2]
          by_cases e1 : m = 1
          · rw [if_pos e1, if_pos e1]
          · have e12 : ¬ (m = 1 ∨ m = 2) := by omega
            rw [if_neg e1, if_neg e1, if_neg e12, if_neg e12, if_pos (show m < 1694 by omega)]
  obtain ⟨g5, r5, k5, f5, o5⟩ := m190 (S := S) (d := d + 33) h ln
  rw [← hdz_y] at o5
  refine ⟨g5, r5, (s1.trans s3).trans ?_, (((f1.tr f2).tr (f3.tr f4)).h).tr f5, o5⟩
  rw [g191_92]
  simp (decide := true) only [bm_run_ite, Option.toList_some, Option.bind_some, Option.toList_some, Option.toList_none, List.cons_append, List.nil_append, List.append_nil, eq_self, not_true_eq_false, not_false_eq_true, ite_true, ite_false, ↓reduceIte, Nat.reduceLT, Nat.reduceEqDiff, Nat.reduceAdd, or_true, true_or, or_false, false_or, k4, g191_103, c2, s2_wr, k5]
/-- the reference reads a text, up to its end or its fault -/
theorem m191r (h : tx T n σ) (hK : tkK (qN T n) K) (hKn : K ≤ n) {o1 : Option Value} (m : MT T n 0 g) : ∃ g1 r1, bm_run S (d + 42) 191 53 [some (.ref 218), o1, none] [] (st2 σ g (plR r)) = bm_run S (d + 42) 191 135 [some (.ref 218), o1, none] [] (st2 σ g1 r1) ∧ FH g g1 ∧ LNO T n (rdz (qN T n) (vN T n) K) g1 r1 := by
  have e11 : ∀ g r, (st2 σ g r).1 218 11 = g 11 := fun g r => by rw [s2_16]
  obtain ⟨g1, r1, k1, f1, o1'⟩ := m191h (S := S) (d := d) (r := r) h (o1 := o1) m
  unfold rdz
  cases hx : hdz (qN T n) (vN T n) with
  | inr e =>
    obtain ⟨w, i⟩ := e
    rw [hx] at o1'
    have n0 : ¬ g1 11 = 0 := MF.n0 (show MF T n w i g1 from o1')
    refine ⟨g1, r1, k1.trans ?_, f1, o1'⟩
    rw [g191_108]
    simp (decide := true) only [bm_run_ite, Option.toList_some, Option.bind_some, Option.toList_some, Option.toList_none, List.cons_append, List.nil_append, List.append_nil, eq_self, not_true_eq_false, not_false_eq_true, ite_true, ite_false, ↓reduceIte, Nat.reduceLT, Nat.reduceEqDiff, Nat.reduceAdd, or_true, true_or, or_false, false_or, e11, n0]
  | inl p =>
    obtain ⟨j, R, C⟩ := p
    rw [hx] at o1'
    obtain ⟨n1, n2, n3⟩ := o1'
    obtain ⟨j5, hC, gr⟩ := GR_hd hx
    subst j5 hC
    obtain ⟨M, L, ⟨h1, h2, h3, h4⟩, _⟩ := gr.1
    have jK : 5 ≤ K := hd_K hK hx
    obtain ⟨g2, r2, k2, f2, o2⟩ := m191l (S := S) (d := d) h hK hKn (o1 := o1) (K + 1) 5 R [] g1 r1 (by omega) ⟨⟨M, h1, h3⟩, ⟨L, h2, h4⟩, by simp, jK⟩ n1 n2 n3
    exact ⟨g2, r2, k1.trans k2, f1.tr f2, o2⟩
/-- the reference takes the row over -/
def taR (B r : Nat → Int32) : Nat → Int32 := fun k => if k < 1694 then r k else B k
theorem m191e {o1 : Option Value} {w : Int32} {i : Nat} (m : MF T n w i g) : bm_run S (d + 42) 191 135 [some (.ref 218), o1, none] [] (st2 σ g r) = some (some (.int (Int32.ofInt (-30) - w)), st2 σ (upd (upd g 13 w) 14 (nI (sN T n i))) r) := by
  obtain ⟨h1, h2, h3⟩ := m
  have e11 : ∀ g r, (st2 σ g r).1 218 11 = g 11 := fun g r => by rw [s2_16]
  have e12 : ∀ g r, (st2 σ g r).1 218 12 = g 12 := fun g r => by rw [s2_16]
  have u1 : ∀ x, upd g 13 x 11 = w := fun x => by rw [upd_n _ _ (by decide)]; exact h1
  have u2 : ∀ x, upd g 13 x 12 = nI (sN T n i) := fun x => by rw [upd_n _ _ (by decide)]; exact h3
  have u3 : ∀ x y, upd (upd g 13 x) 14 y 11 = w := fun x y => by rw [upd_n _ _ (by decide)]; exact u1 x
  rw [g191_135]
  simp (decide := true) only [bm_run_ite, Option.toList_some, Option.bind_some, Option.toList_some, Option.toList_none, List.cons_append, List.nil_append, List.append_nil, eq_self, not_true_eq_false, not_false_eq_true, ite_true, ite_false, ↓reduceIte, Nat.reduceLT, Nat.reduceEqDiff, Nat.reduceAdd, or_true, true_or, or_false, false_or, e11, s2_wg, h1, u1, h2, g191_155, e12, u2, g191_159, u3, g191_169]
theorem m191f {o1 : Option Value} {L : Nat} (hL : L ≤ 12) (h25 : r 25 = nI L) (h11 : g 11 = 0) : ∃ g1, bm_run S (d + 42) 191 135 [some (.ref 218), o1, none] [] (st2 σ g r) = some (some (.int (r 0)), bm_row (st2 σ g1 (fun k => if 68 ≤ k ∧ k < 68 + L then r k + r 22 else r k)) 219 (taR (σ.1 219) (fun k => if 68 ≤ k ∧ k < 68 + L then r k + r 22 else r k))) ∧ g1 13 = 0 ∧ g1 14 = Int32.ofInt (-1) ∧ ∀ k, k ≠ 13 → k ≠ 14 → g1 k = g k := by
  have e11 : ∀ g r, (st2 σ g r).1 218 11 = g 11 := fun g r => by rw [s2_16]
  have e20 : ∀ g r, (st2 σ g r).1 222 = r := fun g r => s2_20
  generalize hg1 : upd (upd g 13 0) 14 (Int32.ofInt (-1)) = g1
  have u1 : ∀ x, upd g 13 x 11 = 0 := fun x => by rw [upd_n _ _ (by decide)]; exact h11
  have u3 : g1 11 = 0 := by rw [← hg1, upd_n _ _ (by decide)]; exact u1 _
  have s1 : bm_run S (d + 42) 191 135 [some (.ref 218), o1, none] [] (st2 σ g r) = bm_run S (d + 42) 191 179 [some (.ref 218), am_clr o1, some (.int (nI 0))] [] (st2 σ g1 r) := by
    rw [g191_135]
    simp (decide := true) only [bm_run_ite, Option.toList_some, Option.bind_some, Option.toList_some, Option.toList_none, List.cons_append, List.nil_append, List.append_nil, eq_self, not_true_eq_false, not_false_eq_true, ite_true, ite_false, ↓reduceIte, Nat.reduceLT, Nat.reduceEqDiff, Nat.reduceAdd, or_true, true_or, or_false, false_or, e11, s2_wg, h11, u1, g191_151, g191_159, hg1, u3, g191_177]
    rfl
  obtain ⟨o2, s2⟩ : ∃ o2, bm_run S (d + 42) 191 179 [some (.ref 218), am_clr o1, some (.int (nI 0))] [] (st2 σ g1 r) = bm_run S (d + 42) 191 179 [some (.ref 218), o2, some (.int (nI L))] [] (st2 σ g1 (fun k => if 68 ≤ k ∧ k < 68 + L then r k + r 22 else r k)) := by
    obtain ⟨o2, e, _⟩ := loop_ex (fun j (o : Option Value) => bm_run S (d + 42) 191 179 [some (.ref 218), o, some (.int (nI j))] [] (st2 σ g1 (fun k => if 68 ≤ k ∧ k < 68 + j then r k + r 22 else r k))) (fun _ _ => True) L (am_clr o1) trivial (by
      intro j o hj _
      refine ⟨am_clr o, ?_, trivial⟩
      have es : (fun k => if 68 ≤ k ∧ k < 68 + (j + 1) then r k + r 22 else r k) = upd (fun k => if 68 ≤ k ∧ k < 68 + j then r k + r 22 else r k) (68 + j) (r (68 + j) + r 22) := by
        funext k
        unfold upd
        by_cases e : k = 68 + j
        · subst e; rw [if_pos rfl, if_pos (by omega)]
        · rw [if_neg e]
          dsimp only
          by_cases q : 68 ≤ k ∧ k < 68 + j
          · rw [if_pos q, if_pos (by omega)]
          · rw [if_neg q, if_neg (by omega)]
      have a25 : (fun k => if 68 ≤ k ∧ k < 68 + j then r k + r 22 else r k) 25 = nI L := by show (if _ then _ else _) = _; rw [if_neg (by omega)]; exact h25
      have a22 : (fun k => if 68 ≤ k ∧ k < 68 + j then r k + r 22 else r k) 22 = r 22 := by show (if _ then _ else _) = _; rw [if_neg (by omega)]
      have aj : (fun k => if 68 ≤ k ∧ k < 68 + j then r k + r 22 else r k) (68 + j) = r (68 + j) := by show (if _ then _ else _) = _; rw [if_neg (by omega)]
      have nl : ¬ nI L ≤ nI j := nI_ge hj (by omega)
      have bd : ¬ (nI (68 + j) < 0 ∨ 1694 ≤ 68 + j) := by rintro (y | y); exact nI_pos (by omega) y; omega
      have ck : (nI (68 + j)).toNatClampNeg = 68 + j := nI_clamp (by omega)
      rw [es, g191_179]
      generalize (fun k => if 68 ≤ k ∧ k < 68 + j then r k + r 22 else r k) = p at *
      simp (decide := true) only [bm_run_ite, Option.toList_some, Option.bind_some, Option.toList_some, Option.toList_none, List.cons_append, List.nil_append, List.append_nil, eq_self, not_true_eq_false, not_false_eq_true, ite_true, ite_false, ↓reduceIte, Nat.reduceLT, Nat.reduceEqDiff, Nat.reduceAdd, or_true, true_or, or_false, false_or, e20, a25, nl, g191_190, kA68, ck, bd, aj, a22, s2_wr, nI_1])
    refine ⟨o2, Eq.trans ?_ e⟩
    have z : (fun k => if 68 ≤ k ∧ k < 68 + 0 then r k + r 22 else r k) = r := by funext k; rw [if_neg (by omega)]
    simp only [z]
  generalize hp : (fun k => if 68 ≤ k ∧ k < 68 + L then r k + r 22 else r k) = p at *
  have p25 : p 25 = nI L := by rw [← hp]; show (if _ then _ else _) = _; rw [if_neg (by omega)]; exact h25
  have p0 : p 0 = r 0 := by rw [← hp]; show (if _ then _ else _) = _; rw [if_neg (by omega)]
  have s3 : bm_run S (d + 42) 191 179 [some (.ref 218), o2, some (.int (nI L))] [] (st2 σ g1 p) = bm_run S (d + 42) 191 217 [some (.ref 218), am_clr o2, some (.int (nI 0))] [] (st2 σ g1 p) := by
    have nl : nI L ≤ nI L := nI_le (Nat.le_refl _) (by omega)
    rw [g191_179]
    simp (decide := true) only [bm_run_ite, Option.toList_some, Option.bind_some, Option.toList_some, Option.toList_none, List.cons_append, List.nil_append, List.append_nil, eq_self, not_true_eq_false, not_false_eq_true, ite_true, ite_false, ↓reduceIte, Nat.reduceLT, Nat.reduceEqDiff, Nat.reduceAdd, or_true, true_or, or_false, false_or, e20, p25, nl, g191_215]
    rfl
  have e17 : (st2 σ g1 p).1 219 = σ.1 219 := by unfold st2; rw [bm_row_1n _ _ (by decide), bm_row_1n _ _ (by decide)]
  obtain ⟨o4, s4, _⟩ := loop_ex (fun j (o : Option Value) => bm_run S (d + 42) 191 217 [some (.ref 218), o, some (.int (nI j))] [] (bm_row (st2 σ g1 p) 219 (fun k => if k < j then p k else σ.1 219 k))) (fun _ _ => True) 1694 (am_clr o2) trivial (by
    intro j o hj _
    refine ⟨am_clr o, ?_, trivial⟩
    have es : (fun k => if k < j + 1 then p k else σ.1 219 k) = upd (fun k => if k < j then p k else σ.1 219 k) j (p j) := by
      funext k
      unfold upd
      by_cases e : k = j
      · subst e; rw [if_pos rfl, if_pos (by omega)]
      · rw [if_neg e]
        dsimp only
        by_cases q : k < j
        · rw [if_pos q, if_pos (by omega)]
        · rw [if_neg q, if_neg (by omega)]
    have nl : ¬ (1694 : Int32) ≤ nI j := nI_ge (b := 1694) hj (by decide)
    have bd : ¬ (nI j < 0 ∨ 1694 ≤ j) := by rintro (y | y); exact nI_pos (by omega) y; omega
    have bd2 : ¬ (nI j < 0 ∨ 5082 ≤ j) := by rintro (y | y); exact nI_pos (by omega) y; omega
    have ck : (nI j).toNatClampNeg = j := nI_clamp (by omega)
    rw [es, g191_217]
    generalize (fun k => if k < j then p k else σ.1 219 k) = f at *
    have e2 : (bm_row (st2 σ g1 p) 219 f).1 222 = p := by rw [bm_row_1n _ _ (by decide), e20]
    simp (decide := true) only [bm_run_ite, Option.toList_some, Option.bind_some, Option.toList_some, Option.toList_none, List.cons_append, List.nil_append, List.append_nil, eq_self, not_true_eq_false, not_false_eq_true, ite_true, ite_false, ↓reduceIte, Nat.reduceLT, Nat.reduceEqDiff, Nat.reduceAdd, or_true, true_or, or_false, false_or, nl, g191_224, ck, bd, bd2, e2, row_wi, nI_1])
  have z : bm_row (st2 σ g1 p) 219 (fun k => if k < 0 then p k else σ.1 219 k) = st2 σ g1 p := by
    have : (fun k => if k < 0 then p k else σ.1 219 k) = (st2 σ g1 p).1 219 := by rw [e17]; funext k; rw [if_neg (by omega)]
    rw [this, row_self]
  simp only [z] at s4
  refine ⟨g1, s1.trans (s2.trans (s3.trans (s4.trans ?_))), by rw [← hg1, upd_n _ _ (by decide), upd_s], by rw [← hg1, upd_s], fun k h1 h2 => by rw [← hg1, upd_n _ _ h2, upd_n _ _ h1]⟩
  have nl : (1694 : Int32) ≤ nI 1694 := by decide
  have e0 : ∀ f : Nat → Int32, (bm_row (st2 σ g1 p) 219 f).1 219 0 = f 0 := fun f => by rw [bm_row_1s]
  have ez : (fun k => if k < 1694 then p k else σ.1 219 k) = taR (σ.1 219) p := rfl
  have t0 : taR (σ.1 219) p 0 = r 0 := by unfold taR; rw [if_pos (by decide)]; exact p0
  rw [g191_217]
  simp (decide := true) only [bm_run_ite, Option.toList_some, Option.bind_some, Option.toList_some, Option.toList_none, List.cons_append, List.nil_append, List.append_nil, eq_self, not_true_eq_false, not_false_eq_true, ite_true, ite_false, ↓reduceIte, Nat.reduceLT, Nat.reduceEqDiff, Nat.reduceAdd, or_true, true_or, or_false, false_or, nl, g191_242, ez, e0, t0]
end MREAD
