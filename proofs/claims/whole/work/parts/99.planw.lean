section PLANW
variable {S : am_S} {d : Nat} {C n : Nat} {B : Nat → Int32}
theorem LoC_lt {W : Nat → Nat → Nat} {opt x y v : Nat} {m : Int64} (h : LoC W C n opt x y m) (hv : v ≤ 1000000000) (e : vF W C n (n - x) (x + 1) y v = opt) : m < qL v := by
  rcases h with rfl | ⟨u, hu, rfl, hl⟩
  · exact qL_m1 (by omega)
  · refine (qL_lt (by omega) (by omega)).mpr ?_
    rcases Nat.lt_or_ge u v with q | q
    · exact q
    · have := vF_mono (W := W) (C := C) (n := n) (n - x) (x + 1) y v u q
      omega
theorem BLo_lt {opt : Nat} {σ : bm_S} (h : BLo opt σ) (ho : opt ≤ 999000000000) : σ.2 218 33 < qL opt := by
  rcases h with h | ⟨b, hb, h⟩
  · rw [h]; exact qL_m1 (by omega)
  · rw [h]; exact (qL_lt (by omega) (by omega)).mpr hb
/-- what one way onward does -/
def RC (B : Nat → Int32) (C n opt r i j v : Nat) (σ σ1 : bm_S) : Prop :=
  Kp σ σ1 ∧ (∀ l, l < i → σ1.1 232 l = σ.1 232 l) ∧ (∀ q, q < 4 * i → σ1.2 231 q = σ.2 231 q) ∧
  (LoS (wN B) C n opt i σ → BLo opt σ → vF (wN B) C n r i j v < opt → LoS (wN B) C n opt i σ1 ∧ BLo opt σ1) ∧
  (LoS (wN B) C n opt i σ → BLo opt σ → vF (wN B) C n r i j v = opt → σ1.2 218 33 = qL opt ∧ (∀ l, l < i → l ≤ n → σ1.1 233 l = σ.1 232 l) ∧ ∀ l, i ≤ l → l ≤ n → σ1.1 233 l = nI (ptF (wN B) C n r i j v l)) ∧
  (σ.2 218 33 = qL opt → vF (wN B) C n r i j v ≤ opt → σ1.2 218 33 = qL opt ∧ σ1.1 233 = σ.1 233)
def Mode (S : am_S) (d : Nat) (B : Nat → Int32) (C n opt r : Nat) : Prop := ∀ i k c (σ : bm_S), i + r = n → σ.1 219 = B → k < C → c ≤ 1000000000 → ∃ σ1, bm_call S (d + r + 3) 271 [.ref 218, .int (nI i), .int (nI n), .int (nI k), .long (qL c)] σ = some (none, σ1) ∧ RC B C n opt (r + 1) i k c σ σ1
def Chil (S : am_S) (d : Nat) (B : Nat → Int32) (C n opt r : Nat) : Prop := ∀ i j v (σ : bm_S) (i3 : Int32) (j4 : Int64) (o10 : Option Value), i + r = n → σ.1 219 = B → j < C → v ≤ 1000000000 → ∃ σ1 o7 o8 o10b, bm_run S (d + r + 3) 271 (if nI n ≤ nI i then 139 else 124) [some (.ref 218), some (.int (nI i)), some (.int (nI n)), some (.int i3), some (.long j4), none, some (.int (nI j)), some (.int (B 22 + nI i)), some (.long (qL v)), none, o10] [] σ = bm_run S (d + r + 3) 271 204 [some (.ref 218), some (.int (nI i)), some (.int (nI n)), some (.int i3), some (.long j4), none, some (.int (nI j)), o7, o8, none, o10b] [] σ1 ∧ RC B C n opt r (i + 1) j v σ σ1
theorem Chil_0 (hl : LW B) (hC : C ≤ 4) (hn : n ≤ 9) {opt : Nat} (ho : opt ≤ 999000000000) : Chil S d B C n opt 0 := by
  intro i j v σ i3 j4 o10 hi hB hj hv
  have e : i = n := by omega
  subst e
  obtain ⟨σ1, o7, o8, o10b, k1, kp, f0, f9, y1, y2⟩ := m271e (S := S) (D := d) hB hl hn (show j < 4 by omega) hv i3 j4 o10
  have ev : vF (wN B) C i 0 (i + 1) j v = v * wN B i j := rfl
  refine ⟨σ1, o7, o8, o10b, ?_, kp, fun l _ => by rw [f0], fun q _ => by rw [f9], fun hs hb hv => ⟨fun x h1 h2 => by omega, ?_⟩, fun hs hb hv => ?_, fun hb hv => ?_⟩
  · rw [if_pos (Int32.le_refl _)]; exact k1
  · rw [ev] at hv
    by_cases q : σ.2 218 33 < qL (v * wN B i j)
    · exact Or.inr ⟨_, hv, (y1 q).1⟩
    · have := (y2 q).1
      unfold BLo at hb ⊢
      rw [this]; exact hb
  · rw [ev] at hv
    have q : σ.2 218 33 < qL (v * wN B i j) := by rw [hv]; exact BLo_lt hb ho
    obtain ⟨z1, z2⟩ := y1 q
    refine ⟨by rw [z1, hv], fun l _ h2 => z2 l h2, fun l h1 h2 => by omega⟩
  · rw [ev] at hv
    have q : ¬ σ.2 218 33 < qL (v * wN B i j) := by
      rw [hb]; exact fun z => by have := (qL_lt (by omega) (by omega)).mp z; omega
    exact ⟨(y2 q).1.trans hb, (y2 q).2⟩
theorem Chil_s {opt r : Nat} (hn : n ≤ 9) (h : Mode S d B C n opt r) : Chil S d B C n opt (r + 1) := by
  intro i j v σ i3 j4 o10 hi hB hj hv
  obtain ⟨σ1, k1, rc⟩ := h (i + 1) j v σ (by omega) hB hj hv
  have lt : ¬ nI n ≤ nI i := nI_ge (by omega) (by omega)
  replace k1 : bm_call S (d + (r + 1) + 2) 271 [.ref 218, .int (nI (i + 1)), .int (nI n), .int (nI j), .long (qL v)] σ = some (none, σ1) := k1
  refine ⟨σ1, some (.int (B 22 + nI i)), some (.long (qL v)), o10, ?_, rc⟩
  rw [if_neg lt, g271_124]
  simp only [bm_run_ite, Option.toList_some, Option.bind_some, Option.toList_some, Option.toList_none, List.cons_append, List.nil_append, List.append_nil, eq_self, not_true_eq_false, not_false_eq_true, ite_true, ite_false, ↓reduceIte, Nat.reduceLT, Nat.reduceEqDiff, Nat.reduceAdd, or_true, true_or, or_false, false_or, nI_1, k1, g271_136]
theorem Mode_of (hl : LW B) (hC : C ≤ 4) (hC0 : 0 < C) (eC : B 2 = nI C) (hn : n ≤ 9) {opt r : Nat} (ho : opt ≤ 999000000000) (ch : Chil S d B C n opt r) : Mode S d B C n opt r := by
  intro i k c σ hi hB hk hc
  have s7 : ¬ Sc 219 := by unfold Sc; omega
  have hW := wN_4 B
  obtain ⟨x1, x2, x3⟩ := nxF_ok (W := wN B) (n := n) hC0 r i k c
  have le : ∀ j, j < C → vF (wN B) C n r (i + 1) j (chF (wN B) i k c j) ≤ vF (wN B) C n (r + 1) i k c := fun j hj => mxF_ge (f := fun j => vF (wN B) C n r (i + 1) j (chF (wN B) i k c j)) hj
  have rn : n - i = r := by omega
  obtain ⟨⟨⟨o7, o8, o10⟩, σ1⟩, e1, p1, p2, p3, pA, pB, pC⟩ := loop_ex (fun j (s : (Option Value × Option Value × Option Value) × bm_S) => bm_run S (d + r + 3) 271 3 [some (.ref 218), some (.int (nI i)), some (.int (nI n)), some (.int (nI k)), some (.long (qL c)), none, some (.int (nI j)), s.1.1, s.1.2.1, none, s.1.2.2] [] s.2) (fun j s => Kp σ s.2 ∧ (∀ l, l < i → s.2.1 232 l = σ.1 232 l) ∧ (∀ q, q < 4 * i → s.2.2 231 q = σ.2 231 q) ∧
    (LoS (wN B) C n opt i σ → BLo opt σ → vF (wN B) C n (r + 1) i k c < opt → LoS (wN B) C n opt i s.2 ∧ BLo opt s.2) ∧
    (LoS (wN B) C n opt i σ → BLo opt σ → vF (wN B) C n (r + 1) i k c = opt → (j ≤ nxF (wN B) C n r i k c → LoS (wN B) C n opt i s.2 ∧ BLo opt s.2) ∧ (nxF (wN B) C n r i k c < j → s.2.2 218 33 = qL opt ∧ (∀ l, l < i → l ≤ n → s.2.1 233 l = σ.1 232 l) ∧ ∀ l, i ≤ l → l ≤ n → s.2.1 233 l = nI (ptF (wN B) C n (r + 1) i k c l))) ∧
    (σ.2 218 33 = qL opt → vF (wN B) C n (r + 1) i k c ≤ opt → s.2.2 218 33 = qL opt ∧ s.2.1 233 = σ.1 233)) C ((none, none, none), σ) ⟨Kp.rfl σ, fun _ _ => rfl, fun _ _ => rfl, fun a b _ => ⟨a, b⟩, fun a b _ => ⟨fun _ => ⟨a, b⟩, fun z => absurd z (by omega)⟩, fun a _ => ⟨a, rfl⟩⟩ (by
    intro j s hj hs
    obtain ⟨p1, p2, p3, pA, pB, pC⟩ := hs
    have hBs : s.2.1 219 = B := (p1.at s7 (by omega)).trans hB
    obtain ⟨s1, o8b, k1, fm⟩ := m271h (S := S) (D := d + r) hBs hl hC eC hn (i := i) (by omega) hk hj hc s.1.1 s.1.2.1 s.1.2.2
    have f0 : s1.1 232 = s.2.1 232 := fm.1 232 (by decide) (by decide)
    have f1 : s1.1 233 = s.2.1 233 := fm.1 233 (by decide) (by decide)
    have fl : s1.2 = s.2.2 := fm.2
    have los : LoS (wN B) C n opt i s.2 → LoS (wN B) C n opt i s1 := fun h x a b y hy => by rw [fl]; exact h x a b y hy
    have blo : BLo opt s.2 → BLo opt s1 := fun h => by unfold BLo at h ⊢; rw [fl]; exact h
    have lej := le j hj
    have hv : chF (wN B) i k c j ≤ 1000000000 := chF_le hc
    generalize hvv : chF (wN B) i k c j = v at *
    have m1 := (mul4 i (by omega) j (by omega)).2
    have cl : (nI (4 * i + j)).toNatClampNeg = 4 * i + j := nI_clamp2 (by omega)
    have ci : (nI i).toNatClampNeg = i := nI_clamp2 (by omega)
    have bd : ¬ (nI (4 * i + j) < 0 ∨ 40 ≤ 4 * i + j) := by rintro (z | z); exact nI_pos (by omega) z; omega
    have bi : ¬ (nI i < 0 ∨ 10 ≤ i) := by rintro (z | z); exact nI_pos (by omega) z; omega
    by_cases q : s1.2 231 (4 * i + j) < qL v
    · -- it is taken
      have lgq : 0 < lg_cmp (qL v) (s1.2 231 (4 * i + j)) := (lg_gt0 _ _).mpr q
      have kpw : Kp s1 (bm_wl s1 231 (4 * i + j) (qL v)) := ⟨fun _ _ _ => rfl, fun _ _ => rfl, fun a ha => wl_n _ (by omega) _ _⟩
      have kp2 : Kp s1 (bm_wi (bm_wl s1 231 (4 * i + j) (qL v)) 232 i (nI j)) := kpw.wi (by unfold Sc; omega) _ _
      have w30 : (bm_wi (bm_wl s1 231 (4 * i + j) (qL v)) 232 i (nI j)).1 232 = upd (s.2.1 232) i (nI j) := by rw [wi_s, wl_1, f0]
      have w31 : (bm_wi (bm_wl s1 231 (4 * i + j) (qL v)) 232 i (nI j)).1 233 = s.2.1 233 := by rw [wi_n _ (by decide), wl_1, f1]
      have w29 : (bm_wi (bm_wl s1 231 (4 * i + j) (qL v)) 232 i (nI j)).2 231 = vp_updL (s.2.2 231) (4 * i + j) (qL v) := by rw [wi_2, wl_s, fl]
      have w33 : (bm_wi (bm_wl s1 231 (4 * i + j) (qL v)) 232 i (nI j)).2 218 = s.2.2 218 := by rw [wi_2, wl_n _ (by decide), fl]
      generalize hτ : bm_wi (bm_wl s1 231 (4 * i + j) (qL v)) 232 i (nI j) = τ at *
      have kpt : Kp σ τ := (p1.tr fm.kp).tr kp2
      have hBt : τ.1 219 = B := (kpt.at s7 (by omega)).trans hB
      obtain ⟨s3, o7, o8, o10b, k3, c1, c2, c3, cA, cB, cC⟩ := ch i j v τ (nI k) (qL c) s.1.2.2 hi hBt hj hv
      have u29 : ∀ x, ¬ x = 4 * i + j → τ.2 231 x = s.2.2 231 x := fun x hx => by rw [w29]; exact if_neg hx
      have u29s : τ.2 231 (4 * i + j) = qL v := by rw [w29]; exact if_pos rfl
      have lo1 : LoS (wN B) C n opt i s.2 → LoS (wN B) C n opt (i + 1) τ := fun h x a b y hy => by rw [u29 _ (by omega)]; exact h x (by omega) b y hy
      have bl1 : BLo opt s.2 → BLo opt τ := fun h => by unfold BLo at h ⊢; rw [w33]; exact h
      have lo2 : LoS (wN B) C n opt i s.2 → vF (wN B) C n r (i + 1) j v < opt → LoS (wN B) C n opt (i + 1) s3 → LoS (wN B) C n opt i s3 := fun h hlt h2 x a b y hy => by
        by_cases e : x = i
        · subst e
          rw [c3 _ (by omega)]
          by_cases e2 : y = j
          · subst e2
            rw [u29s]
            exact Or.inr ⟨v, hv, rfl, by rw [rn]; exact hlt⟩
          · rw [u29 _ (by omega)]; exact h x a b y hy
        · exact h2 x (by omega) b y hy
      have c230 : ∀ l, l < i → s3.1 232 l = σ.1 232 l := fun l hl => by rw [c2 l (by omega), w30, upd_n _ _ (by omega)]; exact p2 l hl
      refine ⟨((o7, o8, o10b), s3), ?_, kpt.tr c1, c230, fun x hx => ?_, fun a b e => ?_, fun a b e => ⟨fun z => ?_, fun z => ?_⟩, fun a e => ?_⟩
      · refine k1.trans ?_
        refine Eq.trans ?_ (k3.trans ?_)
        · rw [g271_76]
          simp only [bm_run_ite, Option.toList_some, Option.bind_some, Option.toList_some, Option.toList_none, List.cons_append, List.nil_append, List.append_nil, eq_self, not_true_eq_false, not_false_eq_true, ite_true, ite_false, ↓reduceIte, Nat.reduceLT, Nat.reduceEqDiff, Nat.reduceAdd, or_true, true_or, or_false, false_or, m1, cl, ci, bd, bi, lgq, g271_98, hτ]
        · rw [g271_204]
          simp only [bm_run_ite, Option.toList_some, Option.bind_some, Option.toList_some, Option.toList_none, List.cons_append, List.nil_append, List.append_nil, eq_self, not_true_eq_false, not_false_eq_true, ite_true, ite_false, ↓reduceIte, Nat.reduceLT, Nat.reduceEqDiff, Nat.reduceAdd, or_true, true_or, or_false, false_or, nI_1]
      · show s3.2 231 x = _
        rw [c3 x (by omega), u29 _ (by omega)]; exact p3 x hx
      · obtain ⟨z1, z2⟩ := pA a b e
        have vlt : vF (wN B) C n r (i + 1) j v < opt := by omega
        obtain ⟨z3, z4⟩ := cA (lo1 z1) (bl1 z2) vlt
        exact ⟨lo2 z1 vlt z3, z4⟩
      · have zj : j < nxF (wN B) C n r i k c := by omega
        obtain ⟨z1, z2⟩ := (pB a b e).1 (by omega)
        have ne := x3 j zj
        rw [hvv] at ne
        have vlt : vF (wN B) C n r (i + 1) j v < opt := by omega
        obtain ⟨z3, z4⟩ := cA (lo1 z1) (bl1 z2) vlt
        exact ⟨lo2 z1 vlt z3, z4⟩
      · by_cases zj : j = nxF (wN B) C n r i k c
        · obtain ⟨z1, z2⟩ := (pB a b e).1 (by omega)
          have x2b := x2
          rw [← zj, hvv] at x2b
          obtain ⟨y1, y2, y3⟩ := cB (lo1 z1) (bl1 z2) (by omega)
          refine ⟨y1, fun l h1 h2 => ?_, fun l h1 h2 => ?_⟩
          · show s3.1 233 l = _
            rw [y2 l (by omega) h2, w30, upd_n _ _ (by omega)]; exact p2 l h1
          · show s3.1 233 l = nI (if l = i then nxF (wN B) C n r i k c else ptF (wN B) C n r (i + 1) (nxF (wN B) C n r i k c) (chF (wN B) i k c (nxF (wN B) C n r i k c)) l)
            rw [← zj, hvv]
            by_cases e2 : l = i
            · subst e2
              rw [if_pos rfl, y2 l (by omega) h2, w30, upd_s]
            · rw [if_neg e2]
              exact y3 l (by omega) h2
        · obtain ⟨y1, y2, y3⟩ := (pB a b e).2 (by omega)
          obtain ⟨y4, y5⟩ := cC (by rw [w33]; exact y1) (by omega)
          exact ⟨y4, fun l h1 h2 => by show s3.1 233 l = _; rw [y5, w31]; exact y2 l h1 h2, fun l h1 h2 => by show s3.1 233 l = _; rw [y5, w31]; exact y3 l h1 h2⟩
      · obtain ⟨y1, y2⟩ := pC a e
        obtain ⟨y4, y5⟩ := cC (by rw [w33]; exact y1) (by omega)
        exact ⟨y4, by show s3.1 233 = _; rw [y5, w31]; exact y2⟩
    · -- it is passed by
      have lgq : ¬ 0 < lg_cmp (qL v) (s1.2 231 (4 * i + j)) := fun z => q ((lg_gt0 _ _).mp z)
      refine ⟨((some (.int (B 22 + nI i)), some (.long (qL v)), s.1.2.2), s1), ?_, p1.tr fm.kp, fun l hl => by show s1.1 232 l = _; rw [f0]; exact p2 l hl, fun x hx => by show s1.2 231 x = _; rw [fl]; exact p3 x hx, fun a b e => ⟨los (pA a b e).1, blo (pA a b e).2⟩, fun a b e => ⟨fun z => ⟨los ((pB a b e).1 (by omega)).1, blo ((pB a b e).1 (by omega)).2⟩, fun z => ?_⟩, fun a e => ⟨by show s1.2 218 33 = _; rw [fl]; exact (pC a e).1, by show s1.1 233 = _; rw [f1]; exact (pC a e).2⟩⟩
      · refine k1.trans ?_
        rw [g271_76]
        simp only [bm_run_ite, Option.toList_some, Option.bind_some, Option.toList_some, Option.toList_none, List.cons_append, List.nil_append, List.append_nil, eq_self, not_true_eq_false, not_false_eq_true, ite_true, ite_false, ↓reduceIte, Nat.reduceLT, Nat.reduceEqDiff, Nat.reduceAdd, or_true, true_or, or_false, false_or, m1, cl, bd, lgq, g271_95, g271_204, nI_1]
      · by_cases zj : j = nxF (wN B) C n r i k c
        · exfalso
          apply q
          have x2b := x2
          rw [← zj, hvv] at x2b
          rw [fl]
          exact LoC_lt (((pB a b e).1 (by omega)).1 i (Nat.le_refl _) (by omega) j hj) hv (by rw [rn]; omega)
        · obtain ⟨y1, y2, y3⟩ := (pB a b e).2 (by omega)
          exact ⟨by show s1.2 218 33 = _; rw [fl]; exact y1, fun l h1 h2 => by show s1.1 233 l = _; rw [f1]; exact y2 l h1 h2, fun l h1 h2 => by show s1.1 233 l = _; rw [f1]; exact y3 l h1 h2⟩)
  replace e1 : bm_run S (d + r + 3) 271 3 [some (.ref 218), some (.int (nI i)), some (.int (nI n)), some (.int (nI k)), some (.long (qL c)), none, some (.int (nI 0)), none, none, none, none] [] σ = bm_run S (d + r + 3) 271 3 [some (.ref 218), some (.int (nI i)), some (.int (nI n)), some (.int (nI k)), some (.long (qL c)), none, some (.int (nI C)), o7, o8, none, o10] [] σ1 := e1
  replace p1 : Kp σ σ1 := p1
  have hB1 : σ1.1 219 = B := (p1.at s7 (by omega)).trans hB
  refine ⟨σ1, ?_, p1, p2, p3, pA, fun a b e => (pB a b e).2 x1, pC⟩
  rw [e271, g271_0]
  refine (show bm_run S (d + r + 3) 271 3 [some (.ref 218), some (.int (nI i)), some (.int (nI n)), some (.int (nI k)), some (.long (qL c)), none, some (.int (nI 0)), none, none, none, none] [] σ = _ from e1).trans ?_
  have le0 : nI C ≤ nI C := Int32.le_refl _
  rw [g271_3]
  simp only [bm_run_ite, Option.toList_some, Option.bind_some, Option.toList_some, Option.toList_none, List.cons_append, List.nil_append, List.append_nil, eq_self, not_true_eq_false, not_false_eq_true, ite_true, ite_false, ↓reduceIte, Nat.reduceLT, Nat.reduceEqDiff, Nat.reduceAdd, or_true, true_or, or_false, false_or, hB1, eC, le0, g271_210]
theorem Mode_all (hl : LW B) (hC : C ≤ 4) (hC0 : 0 < C) (eC : B 2 = nI C) (hn : n ≤ 9) {opt : Nat} (ho : opt ≤ 999000000000) : ∀ r, Mode S d B C n opt r := by
  intro r
  induction r with
  | zero => exact Mode_of hl hC hC0 eC hn ho (Chil_0 hl hC hn ho)
  | succ r ih => exact Mode_of hl hC hC0 eC hn ho (Chil_s hn ih)
end PLANW
