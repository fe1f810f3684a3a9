/-- what a money is worth, fair by fair -/
def wN (B : Nat → Int32) (i j : Nat) : Nat := cN (woB B (nI j) (B 22 + nI i))
theorem wN_4 (B : Nat → Int32) : hW4 (wN B) := by
  intro i j hj
  obtain ⟨k, h1, h2, e⟩ := woB_rng (B := B) hj (B 22 + nI i)
  unfold wN
  rw [e, cN_nI (by omega)]
  exact ⟨h1, h2⟩
theorem wN_e (B : Nat → Int32) {i j : Nat} (hj : j < 4) : woB B (nI j) (B 22 + nI i) = nI (wN B i j) := by
  obtain ⟨k, h1, h2, e⟩ := woB_rng (B := B) hj (B 22 + nI i)
  unfold wN
  rw [e, cN_nI (by omega)]
section PLAND
variable {S : am_S} {d : Nat} {σ : bm_S} {C n : Nat} {B : Nat → Int32}
/-- the way onward that the class finds -/
theorem c21l {W : Nat → Nat → Nat} (hw : hW4 W) (hC : C ≤ 4) (hC0 : 0 < C) (hn : n ≤ 9) {opt : Nat} (ho : opt ≤ 999000000000) {o1 o2 o3 o4 : Option Value} : ∀ r i k c (σ : bm_S) (o9 o10 : Option Value), i + r = n + 1 → PC W C n σ → σ.2 177 0 = qL opt → k < C → c ≤ 1000000000 → vF W C n r i k c = opt → ∃ σ1, bm_run S (d + 5) 21 94 [some (.ref 177), o1, o2, o3, o4, some (.int (nI n)), some (.int (nI c)), some (.int (nI k)), some (.int (nI i)), o9, o10] [] σ = some (none, σ1) ∧ (∀ a, a ≠ 178 → a ≠ 180 → a ≠ 181 → σ1.1 a = σ.1 a) ∧ σ1.2 = σ.2 ∧ (∀ l, l < i → σ1.1 178 l = σ.1 178 l) ∧ ∀ l, i ≤ l → l ≤ n → σ1.1 178 l = nI (ptF W C n r i k c l) := by
  intro r
  induction r with
  | zero =>
    intro i k c σ o9 o10 hi p h0 hk hc hv
    have lt : nI n < nI i := nI_lt (by omega) (by omega)
    refine ⟨σ, ?_, fun _ _ _ _ => rfl, rfl, fun _ _ => rfl, fun l h1 h2 => by omega⟩
    rw [g21_94]
    simp only [bm_run_ite, Option.toList_some, Option.bind_some, Option.toList_some, Option.toList_none, List.cons_append, List.nil_append, List.append_nil, eq_self, not_true_eq_false, not_false_eq_true, ite_true, ite_false, ↓reduceIte, Nat.reduceLT, Nat.reduceEqDiff, Nat.reduceAdd, or_true, true_or, or_false, false_or, lt, g21_184]
  | succ r ih =>
    intro i k c σ o9 o10 hi p h0 hk hc hv
    have lt : ¬ nI n < nI i := nI_nlt (by omega) (by omega)
    obtain ⟨x1, x2, x3⟩ := nxF_ok (W := W) (n := n) hC0 r i k c
    rw [hv] at x2 x3
    have ne1 : nI i + 1 = nI (i + 1) := nI_1 i
    have vl : ∀ l, l < C → vF W C n r (i + 1) l (chF W i k c l) ≤ 999000000000 := fun l hl => vF_le hC (fun j hj => (hw n j hj).2) r (i + 1) l _ (by omega) (chF_le hc)
    obtain ⟨⟨o10b, s1⟩, e1, f1⟩ := loop_ex (fun l (s : Option Value × bm_S) => bm_run S (d + 5) 21 104 [some (.ref 177), o1, o2, o3, o4, some (.int (nI n)), some (.int (nI c)), some (.int (nI k)), some (.int (nI i)), some (.int (nI l)), s.1] [] s.2) (fun l s => F8 σ s.2) (nxF W C n r i k c) (o10, σ) (F8.rfl σ) (by
      intro l s hl hs
      have ps := hs.PC p
      have k22 := c22 (S := S) (d := d + 2) hw hC hn ps (i := i) (by omega) hk (show l < C by omega) hc
      obtain ⟨s2, k23, f2⟩ := c23 (S := S) (d := d) hw hC hn ps (r := r) (i := i + 1) (k := l) (c := chF W i k c l) (by omega) (by omega) (chF_le hc)
      have o0 : s2.2 177 0 = qL opt := by rw [f2.2, hs.2]; exact h0
      have vl1 := vl l (by omega)
      have ne : ¬ qL (vF W C n r (i + 1) l (chF W i k c l)) = qL opt := fun z => x3 l hl ((qL_eq (by omega) (by omega)).mp z)
      refine ⟨(some (.int (nI (chF W i k c l))), s2), ?_, hs.tr f2⟩
      rw [g21_104]
      simp (disch := omega) only [bm_run_ite, Option.toList_some, Option.bind_some, Option.toList_some, Option.toList_none, List.cons_append, List.nil_append, List.append_nil, eq_self, not_true_eq_false, not_false_eq_true, ite_true, ite_false, ↓reduceIte, Nat.reduceLT, Nat.reduceEqDiff, Nat.reduceAdd, or_true, true_or, or_false, false_or, nI_clamp2, nI_lt0F, nI_leT, nI_leF, nI_ltT, nI_ltF, n_leF, n_leT, nI_1, kA6, kA8, kA10, kA22, kA26, kA32, kA44, kA56, kA68, kA80, kA93, kA163, kA794, not_or, or_self, and_self, and_true, true_and, ps.2.1, g21_113, k22, g21_125, ne1, k23, g21_139, lg_eq0, o0, ne, g21_147, g21_161])
    replace e1 : bm_run S (d + 5) 21 104 [some (.ref 177), o1, o2, o3, o4, some (.int (nI n)), some (.int (nI c)), some (.int (nI k)), some (.int (nI i)), some (.int (nI 0)), o10] [] σ = bm_run S (d + 5) 21 104 [some (.ref 177), o1, o2, o3, o4, some (.int (nI n)), some (.int (nI c)), some (.int (nI k)), some (.int (nI i)), some (.int (nI (nxF W C n r i k c))), o10b] [] s1 := e1
    replace f1 : F8 σ s1 := f1
    have p1 := f1.PC p
    generalize hx : nxF W C n r i k c = x at *
    have k22 := c22 (S := S) (d := d + 2) hw hC hn p1 (i := i) (by omega) hk x1 hc
    obtain ⟨s2, k23, f2⟩ := c23 (S := S) (d := d) hw hC hn p1 (r := r) (i := i + 1) (k := x) (by omega) x1 (chF_le (W := W) (i := i) (k := k) (j := x) hc)
    rw [x2] at k23
    have o0 : s2.2 177 0 = qL opt := by rw [f2.2, f1.2]; exact h0
    have sv : bm_call S (d + 4) 159 [.ref 178, .int (nI i), .int (nI x)] s2 = some (none, bm_wi s2 178 i (nI x)) := set_row t176 l176 (by omega) (by decide) _
    have p3 : PC W C n (bm_wi s2 178 i (nI x)) := by
      have p2 := f2.PC p1
      exact ⟨fun a ha j hj => by rw [wi_n _ (by decide)]; exact p2.1 a ha j hj, by rw [wi_n _ (by decide)]; exact p2.2.1, by rw [wi_n _ (by decide)]; exact p2.2.2⟩
    obtain ⟨s4, k4, fr4, fl4, lo4, hi4⟩ := ih (i + 1) x (chF W i k c x) (bm_wi s2 178 i (nI x)) (some (.int (nI x))) (some (.int (nI (chF W i k c x)))) (by omega) p3 o0 x1 (chF_le hc) x2
    refine ⟨s4, ?_, fun a a1 a2 a3 => by rw [fr4 a a1 a2 a3, wi_n _ a1, f2.1 a a2 a3, f1.1 a a2 a3], by rw [fl4]; show s2.2 = _; rw [f2.2, f1.2], fun l hl => ?_, fun l h1 h2 => ?_⟩
    · rw [g21_94]
      simp only [bm_run_ite, Option.toList_some, Option.bind_some, Option.toList_some, Option.toList_none, List.cons_append, List.nil_append, List.append_nil, eq_self, not_true_eq_false, not_false_eq_true, ite_true, ite_false, ↓reduceIte, Nat.reduceLT, Nat.reduceEqDiff, Nat.reduceAdd, or_true, true_or, or_false, false_or, lt, g21_101]
      refine (show bm_run S (d + 5) 21 104 [some (.ref 177), o1, o2, o3, o4, some (.int (nI n)), some (.int (nI c)), some (.int (nI k)), some (.int (nI i)), some (.int (nI 0)), o10] [] σ = _ from e1).trans ?_
      rw [← k4, g21_104]
      simp (disch := omega) only [bm_run_ite, Option.toList_some, Option.bind_some, Option.toList_some, Option.toList_none, List.cons_append, List.nil_append, List.append_nil, eq_self, not_true_eq_false, not_false_eq_true, ite_true, ite_false, ↓reduceIte, Nat.reduceLT, Nat.reduceEqDiff, Nat.reduceAdd, or_true, true_or, or_false, false_or, nI_clamp2, nI_lt0F, nI_leT, nI_leF, nI_ltT, nI_ltF, n_leF, n_leT, nI_1, kA6, kA8, kA10, kA22, kA26, kA32, kA44, kA56, kA68, kA80, kA93, kA163, kA794, not_or, or_self, and_self, and_true, true_and, p1.2.1, g21_113, k22, g21_125, ne1, k23, g21_139, lg_eq0, o0, g21_150, g21_167, sv, g21_178]
    · rw [lo4 l (by omega), wi_s, upd_n _ _ (by omega), f2.1 178 (by decide) (by decide), f1.1 178 (by decide) (by decide)]
    · rw [ptF, hx]
      show s4.1 178 l = nI (if l = i then x else ptF W C n r (i + 1) x (chF W i k c x) l)
      by_cases e : l = i
      · subst e
        rw [if_pos rfl, lo4 l (by omega), wi_s, upd_s]
      · rw [if_neg e]
        exact hi4 l (by omega) h2
theorem c21 (hb : BK σ 2 B) (hl : LW B) (hC : C ≤ 4) (hC0 : 0 < C) (eC : σ.1 2 1 = nI C) (hn : n ≤ 9) {k c : Nat} (hk : k < C) (hc : c ≤ 999) : ∃ σ1, bm_call S (d + 6) 21 [.ref 177, .ref 2, .int (B 22), .int (nI k), .int (nI c), .int (nI n)] σ = some (none, σ1) ∧ Kp σ σ1 ∧ σ1.2 177 0 = qL (vF (wN B) C n (n + 1) 0 k c) ∧ ∀ l, l ≤ n → σ1.1 178 l = nI (ptF (wN B) C n (n + 1) 0 k c l) := by
  have t2 : bm_tag 2 = 100 := hb.1.1
  have kp0 : Kp σ (bm_wi (bm_wi σ 177 5 (nI C)) 177 6 (nI n)) := ((Kp.rfl σ).wi (by unfold Sc; omega) _ _).wi (by unfold Sc; omega) _ _
  have b0 : BK (bm_wi (bm_wi σ 177 5 (nI C)) 177 6 (nI n)) 2 B := hb.of (by rw [wi_n _ (by decide), wi_n _ (by decide)]) (by rw [wi_n _ (by decide), wi_n _ (by decide)])
  have c5 : (bm_wi (bm_wi σ 177 5 (nI C)) 177 6 (nI n)).1 177 5 = nI C := by rw [wi_s, upd_n _ _ (by decide), wi_s, upd_s]
  have c6 : (bm_wi (bm_wi σ 177 5 (nI C)) 177 6 (nI n)).1 177 6 = nI n := by rw [wi_s, upd_s]
  generalize hs0 : bm_wi (bm_wi σ 177 5 (nI C)) 177 6 (nI n) = σ0 at kp0 b0 c5 c6
  obtain ⟨⟨o7, s1⟩, e1, p1, p2, p3, p4, p5⟩ := loop_ex (fun i (s : Option Value × bm_S) => bm_run S (d + 6) 21 17 [some (.ref 177), some (.ref 2), some (.int (B 22)), some (.int (nI k)), some (.int (nI c)), some (.int (nI n)), some (.int (nI i)), s.1, none, none, none] [] s.2) (fun i s => Kp σ s.2 ∧ BK s.2 2 B ∧ s.2.1 177 5 = nI C ∧ s.2.1 177 6 = nI n ∧ ∀ x, x < i → ∀ j, j < C → s.2.1 179 (4 * x + j) = nI (wN B x j)) (n + 1) (none, σ0) ⟨kp0, b0, c5, c6, fun x hx => absurd hx (by omega)⟩ (by
    intro i s hi hs
    obtain ⟨p1, p2, p3, p4, p5⟩ := hs
    have lt : ¬ nI n < nI i := nI_nlt (by omega) (by omega)
    obtain ⟨s1, e1, q1, q2, q3, q4, q5, q6⟩ := loop_ex (fun j (s : bm_S) => bm_run S (d + 6) 21 27 [some (.ref 177), some (.ref 2), some (.int (B 22)), some (.int (nI k)), some (.int (nI c)), some (.int (nI n)), some (.int (nI i)), some (.int (nI j)), none, none, none] [] s) (fun j s => Kp σ s ∧ BK s 2 B ∧ s.1 177 5 = nI C ∧ s.1 177 6 = nI n ∧ (∀ x, x < i → ∀ j, j < C → s.1 179 (4 * x + j) = nI (wN B x j)) ∧ ∀ x, x < j → s.1 179 (4 * i + x) = nI (wN B i x)) C s.2 ⟨p1, p2, p3, p4, p5, fun x hx => absurd hx (by omega)⟩ (by
      intro j s hj hs
      obtain ⟨q1, q2, q3, q4, q5, q6⟩ := hs
      obtain ⟨s1, kw, r1, r2, r3, r4⟩ := cwt (S := S) (d := d + 2) q2 hl (nI j) (B 22 + nI i)
      rw [wN_e B (show j < 4 by omega)] at kw
      have m1 := (mul4 i (by omega) j (by omega)).1
      have sv : bm_call S (d + 5) 159 [.ref 179, .int (nI (4 * i + j)), .int (nI (wN B i j))] s1 = some (none, bm_wi s1 179 (4 * i + j) (nI (wN B i j))) := set_row t177 l177 (by omega) (by decide) _
      refine ⟨bm_wi s1 179 (4 * i + j) (nI (wN B i j)), ?_, (q1.tr r2).wi (by unfold Sc; omega) _ _, r1.of (wi_n _ (by decide) _ _) (wi_n _ (by decide) _ _), ?_, ?_, fun x hx y hy => ?_, fun x hx => ?_⟩
      · rw [g21_27]
        simp (disch := omega) only [bm_run_ite, Option.toList_some, Option.bind_some, Option.toList_some, Option.toList_none, List.cons_append, List.nil_append, List.append_nil, eq_self, not_true_eq_false, not_false_eq_true, ite_true, ite_false, ↓reduceIte, Nat.reduceLT, Nat.reduceEqDiff, Nat.reduceAdd, or_true, true_or, or_false, false_or, nI_clamp2, nI_lt0F, nI_leT, nI_leF, nI_ltT, nI_ltF, n_leF, n_leT, nI_1, kA6, kA8, kA10, kA22, kA26, kA32, kA44, kA56, kA68, kA80, kA93, kA163, kA794, not_or, or_self, and_self, and_true, true_and, q3, g21_36, t2, kw, m1, g21_57, sv, g21_60]
      · rw [wi_n _ (by decide), r3 177 (by decide)]; exact q3
      · rw [wi_n _ (by decide), r3 177 (by decide)]; exact q4
      · rw [wi_s, upd_n _ _ (by omega), r3 179 (by decide)]; exact q5 x hx y hy
      · rw [wi_s]
        by_cases e : x = j
        · subst e; rw [upd_s]
        · rw [upd_n _ _ (by omega), r3 179 (by decide)]; exact q6 x (by omega))
    refine ⟨(some (.int (nI C)), s1), ?_, q1, q2, q3, q4, fun x hx j hj => ?_⟩
    · rw [g21_17]
      simp only [bm_run_ite, Option.toList_some, Option.bind_some, Option.toList_some, Option.toList_none, List.cons_append, List.nil_append, List.append_nil, eq_self, not_true_eq_false, not_false_eq_true, ite_true, ite_false, ↓reduceIte, Nat.reduceLT, Nat.reduceEqDiff, Nat.reduceAdd, or_true, true_or, or_false, false_or, lt, g21_24]
      refine (show bm_run S (d + 6) 21 27 [some (.ref 177), some (.ref 2), some (.int (B 22)), some (.int (nI k)), some (.int (nI c)), some (.int (nI n)), some (.int (nI i)), some (.int (nI 0)), none, none, none] [] s.2 = _ from e1).trans ?_
      rw [g21_27]
      simp (disch := omega) only [bm_run_ite, Option.toList_some, Option.bind_some, Option.toList_some, Option.toList_none, List.cons_append, List.nil_append, List.append_nil, eq_self, not_true_eq_false, not_false_eq_true, ite_true, ite_false, ↓reduceIte, Nat.reduceLT, Nat.reduceEqDiff, Nat.reduceAdd, or_true, true_or, or_false, false_or, nI_clamp2, nI_lt0F, nI_leT, nI_leF, nI_ltT, nI_ltF, n_leF, n_leT, nI_1, kA6, kA8, kA10, kA22, kA26, kA32, kA44, kA56, kA68, kA80, kA93, kA163, kA794, not_or, or_self, and_self, and_true, true_and, q3, g21_66]
    · by_cases e : x = i
      · subst e; exact q6 j hj
      · exact q5 x (by omega) j hj)
  replace e1 : bm_run S (d + 6) 21 17 [some (.ref 177), some (.ref 2), some (.int (B 22)), some (.int (nI k)), some (.int (nI c)), some (.int (nI n)), some (.int (nI 0)), none, none, none, none] [] σ0 = bm_run S (d + 6) 21 17 [some (.ref 177), some (.ref 2), some (.int (B 22)), some (.int (nI k)), some (.int (nI c)), some (.int (nI n)), some (.int (nI (n + 1))), o7, none, none, none] [] s1 := e1
  replace p1 : Kp σ s1 := p1
  have pc : PC (wN B) C n s1 := ⟨fun i hi j hj => p5 i (by omega) j hj, p3, p4⟩
  obtain ⟨s2, k2, f2⟩ := c23 (S := S) (d := d + 1) (wN_4 B) hC hn pc (r := n + 1) (i := 0) (k := k) (by omega) hk (show c ≤ 1000000000 by omega)
  have pc2 := f2.PC pc
  have pc3 : PC (wN B) C n (bm_wl s2 177 0 (qL (vF (wN B) C n (n + 1) 0 k c))) := pc2
  have ol : (bm_wl s2 177 0 (qL (vF (wN B) C n (n + 1) 0 k c))).2 177 0 = qL (vF (wN B) C n (n + 1) 0 k c) := by simp [bm_wl, bm_rowL, vp_updL]
  have vb := vF_le (W := wN B) (n := n) hC (fun j hj => (wN_4 B n j hj).2) (n + 1) 0 k c (by omega) (show c ≤ 1000000000 by omega)
  obtain ⟨s3, k3, fr3, fl3, _, hi3⟩ := c21l (S := S) (d := d + 1) (wN_4 B) hC hC0 hn vb (o1 := some (.ref 2)) (o2 := some (.int (B 22))) (o3 := some (.int (nI k))) (o4 := some (.int (nI c))) (n + 1) 0 k c (bm_wl s2 177 0 (qL (vF (wN B) C n (n + 1) 0 k c))) none none (by omega) pc3 ol hk (by omega) rfl
  have kps2 : Kp σ s2 := p1.tr f2.kp
  have kps3 : Kp σ s3 := kps2.tr ⟨fun a x y => by rw [fr3 a (fun e => x (by unfold Sc; omega)) (fun e => x (by unfold Sc; omega)) (fun e => x (by unfold Sc; omega))]; rfl, fun b _ => by rw [fr3 218 (by decide) (by decide) (by decide)]; rfl, fun a ha => by rw [fl3]; simp only [bm_wl, bm_rowL]; exact if_neg (by omega)⟩
  refine ⟨s3, ?_, kps3, by rw [fl3]; exact ol, fun l hl => hi3 l (Nat.zero_le _) hl⟩
  have go : bm_call S (d + 6) 21 [.ref 177, .ref 2, .int (B 22), .int (nI k), .int (nI c), .int (nI n)] σ = bm_run S (d + 6) 21 17 [some (.ref 177), some (.ref 2), some (.int (B 22)), some (.int (nI k)), some (.int (nI c)), some (.int (nI n)), some (.int (nI 0)), none, none, none, none] [] σ0 := by
    simp (decide := true) only [e21, g21_0, bm_run_ite, Option.toList_some, Option.bind_some, Option.toList_some, Option.toList_none, List.cons_append, List.nil_append, List.append_nil, eq_self, not_true_eq_false, not_false_eq_true, ite_true, ite_false, ↓reduceIte, Nat.reduceLT, Nat.reduceEqDiff, Nat.reduceAdd, or_true, true_or, or_false, false_or, t2, eC, hs0]
    rfl
  have lt : nI n < nI (n + 1) := nI_lt (by omega) (by omega)
  refine go.trans (e1.trans ?_)
  rw [g21_17]
  replace k2 : bm_call S (d + 5) 23 [.ref 177, .int 0, .int (nI k), .int (nI c)] s1 = some (some (.long (qL (vF (wN B) C n (n + 1) 0 k c))), s2) := k2
  simp only [bm_run_ite, Option.toList_some, Option.bind_some, Option.toList_some, Option.toList_none, List.cons_append, List.nil_append, List.append_nil, eq_self, not_true_eq_false, not_false_eq_true, ite_true, ite_false, ↓reduceIte, Nat.reduceLT, Nat.reduceEqDiff, Nat.reduceAdd, or_true, true_or, or_false, false_or, lt, g21_72, k2, g21_81]
  exact k3
end PLAND
