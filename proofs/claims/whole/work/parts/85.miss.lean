/-! which letter didn't come -/
/-- one's cash behind this fair, were a letter not there -/
def caL (M L : Nat) (B : Nat → Int32) (l m : Nat) : Int32 := faB M L B (D0 B (bt l)) (26 + m)
def fiP (M L : Nat) (B : Nat → Int32) (X : Nat → Int64) (l n : Nat) : Bool := (List.range n).all (fun m => decide (X m = Int64.ofInt (-1)) || decide (X m = (caL M L B l m).toInt64))
def fiB (M L : Nat) (B : Nat → Int32) (X : Nat → Int64) (l : Nat) : Bool := dB B (B 22) l && fiP M L B X l M
theorem fiP_s (M L : Nat) (B : Nat → Int32) (X : Nat → Int64) (l n : Nat) : fiP M L B X l (n + 1) = (fiP M L B X l n && (decide (X n = Int64.ofInt (-1)) || decide (X n = (caL M L B l n).toInt64))) := by
  unfold fiP
  rw [List.range_succ, List.all_append]; simp
theorem fiP_cg {M L : Nat} {B : Nat → Int32} {X Y : Nat → Int64} {l : Nat} : ∀ {n : Nat}, (∀ m, m < n → X m = Y m) → fiP M L B X l n = fiP M L B Y l n := by
  intro n
  induction n with
  | zero => intro _; rfl
  | succ n ih => intro h; rw [fiP_s, fiP_s, ih (fun m hm => h m (by omega)), h n (by omega)]
theorem void_ltR {L : Nat} (hL : L ≤ 12) {B : Nat → Int32} {l : Nat} (hl : l < L) : ltR L (B, D0 B (bt l)) (upd B (80 + l) 2, dB (upd B (80 + l) 2) (upd B (80 + l) 2 22)) := by
  have e22 : upd B (80 + l) 2 22 = B 22 := upd_n _ _ (by omega)
  refine ⟨fun i hi => upd_n _ _ (by omega), fun j hj => ?_, duO_D0 L B _, duO_dB L _⟩
  show dB (upd B (80 + l) 2) (upd B (80 + l) 2 22) j = D0 B (bt l) j
  rw [e22]
  unfold D0
  rw [tb_bt l (by omega) j (by omega)]
  unfold dB
  by_cases e : j = l
  · subst e
    rw [upd_s]
    simp (decide := true)
  · rw [upd_n _ _ (by omega), upd_n _ _ (by omega)]
    simp [e]
theorem mul6 : ∀ l, l < 12 → nI l * 6 = nI (6 * l) ∧ (6 : Int32) * nI l = nI (6 * l) := by decide +kernel
section MISS
variable {S : am_S} {d : Nat} {σ : bm_S} {M L : Nat} {B : Nat → Int32}
theorem t171 : bm_tag 173 = 0 := by decide +kernel
theorem l171 : bm_len 173 = 72 := by decide +kernel
theorem c29 (h : RW M L σ 5 B) (hb : BK σ 2 B) (hg : GA M L B) {t : Nat} (ht : t < 4) {X : Nat → Int64} (hX : σ.2 (211 + 2 * t) = X) : ∃ σ1, bm_call S (d + 7) 29 [.ref 161, .ref 2, .ref 5, .ref (210 + 2 * t)] σ = some (some (.int (orS (fiB M L B X) L)), σ1) ∧ Kp σ σ1 ∧ (∀ l, l < L → dB B (B 22) l = true → ∀ m, m < M → σ1.1 173 (6 * l + m) = caL M L B l m) := by
  have hM := h.M6
  have hL := h.L12
  have o : ob 2 162 := by unfold ob; omega
  obtain ⟨t1, t2, t3⟩ := isT4 t ht
  obtain ⟨⟨⟨o6, o7, o8⟩, σ1⟩, e1, p1, p2, p3⟩ := loop_ex (fun k (s : (Option Value × Option Value × Option Value) × bm_S) => bm_run S (d + 7) 29 6 [some (.ref 161), some (.ref 2), some (.ref 5), some (.ref (210 + 2 * t)), some (.int (orS (fiB M L B X) k)), some (.int (nI k)), s.1.1, s.1.2.1, s.1.2.2] [] s.2) (fun k s => (∀ a, (a < 162 ∨ 171 < a) → a ≠ 4 → a ≠ 173 → s.2.1 a = σ.1 a) ∧ s.2.2 = σ.2 ∧ (∀ l, l < k → dB B (B 22) l = true → ∀ m, m < M → s.2.1 173 (6 * l + m) = caL M L B l m)) L ((none, none, none), σ) ⟨fun _ _ _ _ => rfl, rfl, fun l hl => absurd hl (by omega)⟩ (by
    intro k s hk hp
    obtain ⟨p1, p2, p3⟩ := hp
    have r5 : RW M L s.2 5 B := h.of (fun a _ _ => p1 a (by omega) (by omega) (by omega))
    have bb : BK s.2 2 B := hb.of (p1 2 (by omega) (by omega) (by omega)) (p1 3 (by omega) (by omega) (by omega))
    have fk : fiB M L B X k = (dB B (B 22) k && fiP M L B X k M) := rfl
    rw [orS, fk]
    cases hd : dB B (B 22) k
    · refine ⟨s, ?_, p1, p2, fun l hl hq m hm => ?_⟩
      · rw [g29_6]
        simp only [Bool.false_and, Bool.false_eq_true, if_false]
        simp (disch := omega) only [bm_run_ite, Option.toList_some, Option.bind_some, Option.toList_some, Option.toList_none, List.cons_append, List.nil_append, List.append_nil, eq_self, not_true_eq_false, not_false_eq_true, ite_true, ite_false, ↓reduceIte, Nat.reduceLT, Nat.reduceEqDiff, Nat.reduceAdd, or_true, true_or, or_false, false_or, nI_clamp2, nI_lt0F, nI_leT, nI_leF, nI_ltT, nI_ltF, n_leF, n_leT, nI_1, kA6, kA8, kA10, kA22, kA26, kA32, kA44, kA56, kA68, kA80, kA93, kA163, kA794, not_or, or_self, and_self, and_true, true_and, isW5.t0, r5.f1, r5.f3, g29_15, c82n r5 hk, hd, g29_25, bI_itn, Bool.false_eq_true, g29_28, g29_156, i_or0]
      · by_cases e : l = k
        · rw [e, hd] at hq; cases hq
        · exact p3 l (by omega) hq m hm
    · obtain ⟨s1, k1, f1, w1⟩ := c77 (S := S) (d := d + 4) (σ := s.2) isW5 w160 (by decide)
      have r1 := w1 r5
      have sv : bm_call S (d + 6) 159 [.ref 168, .int (nI k), .int 2] s1 = some (none, bm_wi s1 (162 + 6) k 2) := r1.s6 hk 2
      have r2 := r1.w6 hk 2
      have ag : agL B (upd B (80 + k) 2) := fun i hi => upd_n _ _ (by omega)
      have b2 : BK (bm_wi s1 (162 + 6) k 2) 2 (upd B (80 + k) 2) := agL_bk (bb.of (by rw [wi_n _ (by omega), f1.1 2 (by omega)]) (by rw [wi_n _ (by omega), f1.1 3 (by omega)])) ag
      obtain ⟨s3, k3, r3, f3⟩ := c101h (S := S) (d := d + 2) r2 o b2 (agL_GW hM hL hg.1 ag) false
      replace k3 : bm_call S (d + 6) 101 [.ref 162, .ref 2, .int 0] (bm_wi s1 (162 + 6) k 2) = some (none, s3) := k3
      generalize hs2 : bm_wi s1 (162 + 6) k 2 = s2 at *
      have s3n : ∀ a, (a < 162 ∨ 171 < a) → a ≠ 4 → s3.1 a = s.2.1 a := fun a h1 h2 => by rw [f3.1 a (by omega) (by omega), ← hs2, wi_n _ (by omega), f1.1 a (by omega)]
      have s3x : s3.2 = σ.2 := by rw [f3.2, ← hs2]; show s1.2 = _; rw [f1.2, p2]
      have ca : ∀ m, m < M → hoB M L (upd B (80 + k) 2) false (26 + m) = caL M L B k m := fun m hm => late_faB hM hL (void_ltR hL hk) (26 + m) (by omega)
      -- the inner loop
      obtain ⟨⟨o8b, g⟩, e4, q1, q2⟩ := loop_ex (fun m (z : Option Value × (Nat → Int32)) => bm_run S (d + 7) 29 67 [some (.ref 161), some (.ref 2), some (.ref 5), some (.ref (210 + 2 * t)), some (.int (orS (fiB M L B X) k)), some (.int (nI k)), some (.int (bI (fiP M L B X k m))), some (.int (nI m)), z.1] [] (bm_row s3 173 z.2)) (fun m z => (∀ j, j < m → z.2 (6 * k + j) = caL M L B k j) ∧ ∀ i, i < 6 * k → z.2 i = s3.1 173 i) M (s.1.2.2, s3.1 173) ⟨fun j hj => absurd hj (by omega), fun _ _ => rfl⟩ (by
        intro m z hm hq
        obtain ⟨q1, q2⟩ := hq
        have rr : ∀ g, RW M L (bm_row s3 173 g) 162 (hoB M L (upd B (80 + k) 2) false) := fun g => r3.of (fun a _ _ => bm_row_1n _ _ (by omega))
        have a1 : bm_call S (d + 6) 158 [.ref 163, .int (nI m)] (bm_row s3 173 z.2) = some (some (.int (caL M L B k m)), bm_row s3 173 z.2) := by
          have := (rr z.2).a1 (S := S) (d := d + 6) hm
          rw [ca m hm] at this
          exact this
        have sr := set_row (S := S) (d := d + 6) (σ := bm_row s3 173 z.2) t171 l171 (show 6 * k + m < 72 by omega) (by decide) (caL M L B k m)
        rw [wi_row] at sr
        have x5 : ∀ g, (bm_row s3 173 g).1 5 0 = nI M := fun g => by rw [bm_row_1n _ _ (by decide), s3n 5 (by omega) (by omega)]; exact r5.f0
        have c7 := c73 (S := S) (d := d + 6) (σ := bm_row s3 173 (upd z.2 (6 * k + m) (caL M L B k m))) ht (show m < 40 by omega)
        have x2 : (bm_row s3 173 (upd z.2 (6 * k + m) (caL M L B k m))).2 = σ.2 := s3x
        rw [x2, hX] at c7
        have m6 := (mul6 k (by omega)).1
        refine ⟨(some (.int (caL M L B k m)), upd z.2 (6 * k + m) (caL M L B k m)), ?_, fun j hj => ?_, fun i hi => ?_⟩
        · rw [g29_67, fiP_s]
          by_cases w1 : X m = Int64.ofInt (-1)
          · simp (disch := omega) only [bm_run_ite, Option.toList_some, Option.bind_some, Option.toList_some, Option.toList_none, List.cons_append, List.nil_append, List.append_nil, eq_self, not_true_eq_false, not_false_eq_true, ite_true, ite_false, ↓reduceIte, Nat.reduceLT, Nat.reduceEqDiff, Nat.reduceAdd, or_true, true_or, or_false, false_or, nI_clamp2, nI_lt0F, nI_leT, nI_leF, nI_ltT, nI_ltF, n_leF, n_leT, nI_1, kA6, kA8, kA10, kA22, kA26, kA32, kA44, kA56, kA68, kA80, kA93, kA163, kA794, not_or, or_self, and_self, and_true, true_and, isW5.t0, x5, g29_76, a1, g29_88, m6, nI_add, sr, g29_107, t1, c7, g29_113, lg_eq0, w1, decide_true, Bool.true_or, Bool.and_true, g29_136]
          · by_cases w2 : X m = (caL M L B k m).toInt64
            · have w3 : ¬ (caL M L B k m).toInt64 = Int64.ofInt (-1) := by rw [← w2]; exact w1
              rw [w2] at c7 ⊢
              simp (disch := omega) only [bm_run_ite, Option.toList_some, Option.bind_some, Option.toList_some, Option.toList_none, List.cons_append, List.nil_append, List.append_nil, eq_self, not_true_eq_false, not_false_eq_true, ite_true, ite_false, ↓reduceIte, Nat.reduceLT, Nat.reduceEqDiff, Nat.reduceAdd, or_true, true_or, or_false, false_or, nI_clamp2, nI_lt0F, nI_leT, nI_leF, nI_ltT, nI_ltF, n_leF, n_leT, nI_1, kA6, kA8, kA10, kA22, kA26, kA32, kA44, kA56, kA68, kA80, kA93, kA163, kA794, not_or, or_self, and_self, and_true, true_and, isW5.t0, x5, g29_76, a1, g29_88, m6, nI_add, sr, g29_107, t1, c7, g29_113, lg_eq0, w3, g29_120, g29_126, decide_true, Bool.or_true, Bool.and_true, g29_136]
            · have e0 : bI false = (0 : Int32) := rfl
              simp (disch := omega) only [bm_run_ite, Option.toList_some, Option.bind_some, Option.toList_some, Option.toList_none, List.cons_append, List.nil_append, List.append_nil, eq_self, not_true_eq_false, not_false_eq_true, ite_true, ite_false, ↓reduceIte, Nat.reduceLT, Nat.reduceEqDiff, Nat.reduceAdd, or_true, true_or, or_false, false_or, nI_clamp2, nI_lt0F, nI_leT, nI_leF, nI_ltT, nI_ltF, n_leF, n_leT, nI_1, kA6, kA8, kA10, kA22, kA26, kA32, kA44, kA56, kA68, kA80, kA93, kA163, kA794, not_or, or_self, and_self, and_true, true_and, isW5.t0, x5, g29_76, a1, g29_88, m6, nI_add, sr, g29_107, t1, c7, g29_113, lg_eq0, w1, w2, g29_120, g29_126, g29_133, decide_false, Bool.or_false, Bool.and_false, g29_136, e0]
        · show upd z.2 (6 * k + m) _ (6 * k + j) = _
          by_cases e : j = m
          · rw [e, upd_s]
          · rw [upd_n _ _ (by omega)]; exact q1 j (by omega)
        · show upd z.2 (6 * k + m) _ i = _
          rw [upd_n _ _ (by omega)]; exact q2 i hi)
      rw [bm_row_self] at e4
      replace q1 : ∀ j, j < M → g (6 * k + j) = caL M L B k j := q1
      replace q2 : ∀ i, i < 6 * k → g i = s3.1 173 i := q2
      have bk : (1 : Int32) <<< (nI k &&& 31) = bt k := rfl
      have xM : (bm_row s3 173 g).1 5 0 = nI M := by rw [bm_row_1n _ _ (by decide), s3n 5 (by omega) (by omega)]; exact r5.f0
      have go : bm_run S (d + 7) 29 6 [some (.ref 161), some (.ref 2), some (.ref 5), some (.ref (210 + 2 * t)), some (.int (orS (fiB M L B X) k)), some (.int (nI k)), s.1.1, s.1.2.1, s.1.2.2] [] s.2 = bm_run S (d + 7) 29 142 [some (.ref 161), some (.ref 2), some (.ref 5), some (.ref (210 + 2 * t)), some (.int (orS (fiB M L B X) k)), some (.int (nI k)), some (.int (bI (fiP M L B X k M))), some (.int (nI M)), o8b] [] (bm_row s3 173 g) := by
        rw [g29_6]
        simp (disch := omega) only [bm_run_ite, Option.toList_some, Option.bind_some, Option.toList_some, Option.toList_none, List.cons_append, List.nil_append, List.append_nil, eq_self, not_true_eq_false, not_false_eq_true, ite_true, ite_false, ↓reduceIte, Nat.reduceLT, Nat.reduceEqDiff, Nat.reduceAdd, or_true, true_or, or_false, false_or, nI_clamp2, nI_lt0F, nI_leT, nI_leF, nI_ltT, nI_ltF, n_leF, n_leT, nI_1, kA6, kA8, kA10, kA22, kA26, kA32, kA44, kA56, kA68, kA80, kA93, kA163, kA794, not_or, or_self, and_self, and_true, true_and, isW5.t0, r5.f1, r5.f3, g29_15, c82n r5 hk, hd, g29_25, bI_itn, g29_31, k1, g29_39, sv, g29_52, k3, g29_61]
        refine (show bm_run S (d + 7) 29 67 [some (.ref 161), some (.ref 2), some (.ref 5), some (.ref (210 + 2 * t)), some (.int (orS (fiB M L B X) k)), some (.int (nI k)), some (.int (bI (fiP M L B X k 0))), some (.int (nI 0)), s.1.2.2] [] s3 = _ from e4).trans ?_
        rw [g29_67]
        simp (disch := omega) only [bm_run_ite, Option.toList_some, Option.bind_some, Option.toList_some, Option.toList_none, List.cons_append, List.nil_append, List.append_nil, eq_self, not_true_eq_false, not_false_eq_true, ite_true, ite_false, ↓reduceIte, Nat.reduceLT, Nat.reduceEqDiff, Nat.reduceAdd, or_true, true_or, or_false, false_or, nI_clamp2, nI_lt0F, nI_leT, nI_leF, nI_ltT, nI_ltF, n_leF, n_leT, nI_1, kA6, kA8, kA10, kA22, kA26, kA32, kA44, kA56, kA68, kA80, kA93, kA163, kA794, not_or, or_self, and_self, and_true, true_and, isW5.t0, xM]
      refine ⟨((some (.int (bI (fiP M L B X k M))), some (.int (nI M)), o8b), bm_row s3 173 g), ?_, fun a h1 h2 h3 => ?_, s3x, fun l hl hq m hm => ?_⟩
      · refine go.trans ?_
        rw [g29_142]
        cases hf : fiP M L B X k M
        · simp only [bm_run_ite, Option.toList_some, Option.bind_some, Option.toList_some, Option.toList_none, List.cons_append, List.nil_append, List.append_nil, eq_self, not_true_eq_false, not_false_eq_true, ite_true, ite_false, ↓reduceIte, Nat.reduceLT, Nat.reduceEqDiff, Nat.reduceAdd, or_true, true_or, or_false, false_or, bI_ite, Bool.false_eq_true, g29_156, nI_1, Bool.true_and, i_or0]
        · simp only [bm_run_ite, Option.toList_some, Option.bind_some, Option.toList_some, Option.toList_none, List.cons_append, List.nil_append, List.append_nil, eq_self, not_true_eq_false, not_false_eq_true, ite_true, ite_false, ↓reduceIte, Nat.reduceLT, Nat.reduceEqDiff, Nat.reduceAdd, or_true, true_or, or_false, false_or, bI_ite, g29_147, bk, g29_156, nI_1, Bool.true_and]
      · show (bm_row s3 173 g).1 a = _
        rw [bm_row_1n _ _ h3, s3n a h1 h2]; exact p1 a h1 h2 h3
      · show (bm_row s3 173 g).1 173 (6 * l + m) = _
        rw [row_row1]
        by_cases e : l = k
        · rw [e]; exact q1 m hm
        · rw [q2 _ (by omega), s3n 173 (by omega) (by omega)]; exact p3 l (by omega) hq m hm)
  replace p1 : ∀ a, (a < 162 ∨ 171 < a) → a ≠ 4 → a ≠ 173 → σ1.1 a = σ.1 a := p1
  replace p2 : σ1.2 = σ.2 := p2
  have f1 : σ1.1 5 1 = nI L := by rw [p1 5 (by omega) (by omega) (by omega)]; exact h.f1
  refine ⟨σ1, ?_, ⟨fun a x y => p1 a (by unfold Sc at x; omega) (by unfold Sc at x; omega) (by unfold Sc at x; omega), fun b _ => by rw [p1 218 (by omega) (by omega) (by omega)], fun a _ => by rw [p2]⟩, p3⟩
  rw [e29, g29_0]
  refine (show bm_run S (d + 7) 29 6 [some (.ref 161), some (.ref 2), some (.ref 5), some (.ref (210 + 2 * t)), some (.int 0), some (.int (nI 0)), none, none, none] [] σ = _ from e1).trans ?_
  rw [g29_6]
  simp (disch := omega) only [bm_run_ite, Option.toList_some, Option.bind_some, Option.toList_some, Option.toList_none, List.cons_append, List.nil_append, List.append_nil, eq_self, not_true_eq_false, not_false_eq_true, ite_true, ite_false, ↓reduceIte, Nat.reduceLT, Nat.reduceEqDiff, Nat.reduceAdd, or_true, true_or, or_false, false_or, nI_clamp2, nI_lt0F, nI_leT, nI_leF, nI_ltT, nI_ltF, n_leF, n_leT, nI_1, kA6, kA8, kA10, kA22, kA26, kA32, kA44, kA56, kA68, kA80, kA93, kA163, kA794, not_or, or_self, and_self, and_true, true_and, isW5.t0, f1, g29_162]
theorem m276 (h : MR M L σ) (hB : σ.1 219 = B) (hg : GA M L B) {t : Nat} (ht : t < 4) {X : Nat → Int64} (hX : ∀ m, m < M → σ.2 237 (40 * t + m) = X m) : ∃ σ1, bm_call S (d + 6) 276 [.ref 218, .int (nI t)] σ = some (some (.int (orS (fiB M L B X) L)), σ1) ∧ σ1.1 219 = B ∧ Kp σ σ1 ∧ (∀ l, l < L → dB B (B 22) l = true → ∀ m, m < M → σ1.1 234 (6 * l + m) = caL M L B l m) := by
  have hM := h.M6
  have hL := h.L12
  have m3 := h.m
  have m25 := h.l
  rw [hB] at m3 m25
  have mm := m207 (S := S) (d := d + 4) h (B 22)
  rw [hB] at mm
  obtain ⟨⟨⟨o5, o6⟩, σ1⟩, e1, p1, p2, p3⟩ := loop_ex (fun k (s : (Option Value × Option Value) × bm_S) => bm_run S (d + 6) 276 17 [some (.ref 218), some (.int (nI t)), some (.int (orS (dB B (B 22)) L)), some (.int (orS (fiB M L B X) k)), some (.int (nI k)), s.1.1, s.1.2] [] s.2) (fun k s => s.2.1 219 = B ∧ Kp σ s.2 ∧ (∀ l, l < k → dB B (B 22) l = true → ∀ m, m < M → s.2.1 234 (6 * l + m) = caL M L B l m)) L ((none, none), σ) ⟨hB, Kp.rfl σ, fun l hl => absurd hl (by omega)⟩ (by
    intro k s hk hp
    obtain ⟨p1, p2, p3⟩ := hp
    have tk : tb (orS (dB B (B 22)) L) k = dB B (B 22) k := by rw [orS_tb _ (by omega) L (by omega)]; simp [hk]
    have fk : fiB M L B X k = (dB B (B 22) k && fiP M L B X k M) := rfl
    rw [orS, fk]
    cases hd : dB B (B 22) k
    · rw [hd] at tk
      refine ⟨s, ?_, p1, p2, fun l hl hq m hm => ?_⟩
      · rw [g276_17]
        simp only [Bool.false_and, Bool.false_eq_true, if_false]
        simp (disch := omega) only [bm_run_ite, Option.toList_some, Option.bind_some, Option.toList_some, Option.toList_none, List.cons_append, List.nil_append, List.append_nil, eq_self, not_true_eq_false, not_false_eq_true, ite_true, ite_false, ↓reduceIte, Nat.reduceLT, Nat.reduceEqDiff, Nat.reduceAdd, or_true, true_or, or_false, false_or, nI_clamp2, nI_lt0F, nI_leT, nI_leF, nI_ltT, nI_ltF, n_leF, n_leT, nI_1, kA6, kA8, kA10, kA22, kA26, kA32, kA44, kA56, kA68, kA80, kA93, kA163, kA794, not_or, or_self, and_self, and_true, true_and, p1, m25, g276_29, m176 _ (show k < 32 by omega), tk, g276_36, bI_itn, Bool.false_eq_true, g276_39, g276_177, i_or0]
      · by_cases e : l = k
        · rw [e, hd] at hq; cases hq
        · exact p3 l (by omega) hq m hm
    · rw [hd] at tk
      obtain ⟨g1, k1, kg⟩ := m215 (S := S) (d := d + 5) (σ := s.2)
      have b1 : (bm_row s.2 228 g1).1 219 = B := (bm_row_1n _ _ (by decide)).trans p1
      obtain ⟨s2, k2, b2, f2⟩ := m212 (S := S) (d := d) (σ := bm_row s.2 228 g1) ⟨h.1, by rw [b1]; exact m3, by rw [b1]; exact m25⟩ (by rw [b1]; exact hg.1) (bt k)
      rw [b1] at b2
      have ca : ∀ m, s2.1 219 (26 + m) = caL M L B k m := fun m => by rw [b2]; rfl
      have c3 : s2.1 219 3 = nI M := by rw [b2, faB_out hM hL (by omega)]; exact m3
      have s2x : s2.2 = s.2.2 := f2.2.2
      have s232 : s2.1 234 = s.2.1 234 := by rw [f2.1 234 (by decide) (by decide) (by decide), bm_row_1n _ _ (by decide)]
      have xx : ∀ m, m < M → s2.2 237 (40 * t + m) = X m := fun m hm => by rw [s2x, p2.2.2 237 (by omega)]; exact hX m hm
      have m6 := (mul6 k (by omega)).2
      obtain ⟨g, e4, q1, q2⟩ := loop_ex (fun m (g : Nat → Int32) => bm_run S (d + 6) 276 61 [some (.ref 218), some (.int (nI t)), some (.int (orS (dB B (B 22)) L)), some (.int (orS (fiB M L B X) k)), some (.int (nI k)), some (.int (bI (fiP M L B X k m))), some (.int (nI m))] [] (bm_row s2 234 g)) (fun m g => (∀ j, j < m → g (6 * k + j) = caL M L B k j) ∧ ∀ i, i < 6 * k → g i = s2.1 234 i) M (s2.1 234) ⟨fun j hj => absurd hj (by omega), fun _ _ => rfl⟩ (by
        intro m g hm hq
        obtain ⟨q1, q2⟩ := hq
        have r7 : ∀ g, (bm_row s2 234 g).1 219 = s2.1 219 := fun g => bm_row_1n _ _ (by decide)
        have r2 : ∀ g, (bm_row s2 234 g).2 = s2.2 := fun g => rfl
        have an : ∀ b : Bool, bI b &&& 1 = bI b := by decide
        have an0 : ∀ b : Bool, bI b &&& 0 = 0 := by decide
        have e0 : bI false = (0 : Int32) := rfl
        have xm := xx m hm
        refine ⟨upd g (6 * k + m) (caL M L B k m), ?_, fun j hj => ?_, fun i hi => ?_⟩
        · rw [g276_61, fiP_s]
          by_cases w1 : X m = Int64.ofInt (-1)
          · simp (disch := omega) only [bm_run_ite, Option.toList_some, Option.bind_some, Option.toList_some, Option.toList_none, List.cons_append, List.nil_append, List.append_nil, eq_self, not_true_eq_false, not_false_eq_true, ite_true, ite_false, ↓reduceIte, Nat.reduceLT, Nat.reduceEqDiff, Nat.reduceAdd, or_true, true_or, or_false, false_or, nI_clamp2, nI_lt0F, nI_leT, nI_leF, nI_ltT, nI_ltF, n_leF, n_leT, nI_1, kA6, kA8, kA10, kA22, kA26, kA32, kA44, kA56, kA68, kA80, kA93, kA163, kA794, not_or, or_self, and_self, and_true, true_and, r7, c3, g276_72, m6, nI_add, mul40 t ht, wi_row, ca, r2, xm, lg_eq0, w1, decide_true, Bool.true_or, Bool.and_true, g276_143, g276_148, an]
          · by_cases w2 : X m = (caL M L B k m).toInt64
            · simp (disch := omega) only [bm_run_ite, Option.toList_some, Option.bind_some, Option.toList_some, Option.toList_none, List.cons_append, List.nil_append, List.append_nil, eq_self, not_true_eq_false, not_false_eq_true, ite_true, ite_false, ↓reduceIte, Nat.reduceLT, Nat.reduceEqDiff, Nat.reduceAdd, or_true, true_or, or_false, false_or, nI_clamp2, nI_lt0F, nI_leT, nI_leF, nI_ltT, nI_ltF, n_leF, n_leT, nI_1, kA6, kA8, kA10, kA22, kA26, kA32, kA44, kA56, kA68, kA80, kA93, kA163, kA794, not_or, or_self, and_self, and_true, true_and, r7, c3, g276_72, m6, nI_add, mul40 t ht, wi_row, ca, r2, xm, lg_eq0, w1, w2, g276_116, decide_true, Bool.or_true, Bool.and_true, g276_143, g276_148, an, ite_self]
            · simp (disch := omega) only [bm_run_ite, Option.toList_some, Option.bind_some, Option.toList_some, Option.toList_none, List.cons_append, List.nil_append, List.append_nil, eq_self, not_true_eq_false, not_false_eq_true, ite_true, ite_false, ↓reduceIte, Nat.reduceLT, Nat.reduceEqDiff, Nat.reduceAdd, or_true, true_or, or_false, false_or, nI_clamp2, nI_lt0F, nI_leT, nI_leF, nI_ltT, nI_ltF, n_leF, n_leT, nI_1, kA6, kA8, kA10, kA22, kA26, kA32, kA44, kA56, kA68, kA80, kA93, kA163, kA794, not_or, or_self, and_self, and_true, true_and, r7, c3, g276_72, m6, nI_add, mul40 t ht, wi_row, ca, r2, xm, lg_eq0, w1, w2, g276_116, decide_false, Bool.or_false, Bool.and_false, g276_147, g276_148, an0, e0]
        · by_cases e : j = m
          · rw [e, upd_s]
          · rw [upd_n _ _ (by omega)]; exact q1 j (by omega)
        · rw [upd_n _ _ (by omega)]; exact q2 i hi)
      rw [bm_row_self] at e4
      have bk : (1 : Int32) <<< (nI k &&& 31) = bt k := rfl
      have r3 : (bm_row s2 234 g).1 219 = s2.1 219 := bm_row_1n _ _ (by decide)
      have e26 : (bm_row s2 234 g).1 228 = g1 := by rw [bm_row_1n _ _ (by decide), f2.1 228 (by decide) (by decide) (by decide), row_row1]
      have ea := again (σ := s.2) (τ := bm_row s2 234 g) kg e26 (fun i hi => by rw [r3, b2, p1]; exact faB_out hM hL (by omega))
      rw [p1, r3] at ea
      have go : bm_run S (d + 6) 276 17 [some (.ref 218), some (.int (nI t)), some (.int (orS (dB B (B 22)) L)), some (.int (orS (fiB M L B X) k)), some (.int (nI k)), s.1.1, s.1.2] [] s.2 = bm_run S (d + 6) 276 161 [some (.ref 218), some (.int (nI t)), some (.int (orS (dB B (B 22)) L)), some (.int (orS (fiB M L B X) k)), some (.int (nI k)), some (.int (bI (fiP M L B X k M))), some (.int (nI M))] [] (bm_row (bm_row s2 234 g) 219 B) := by
        rw [g276_17]
        simp (disch := omega) only [bm_run_ite, Option.toList_some, Option.bind_some, Option.toList_some, Option.toList_none, List.cons_append, List.nil_append, List.append_nil, eq_self, not_true_eq_false, not_false_eq_true, ite_true, ite_false, ↓reduceIte, Nat.reduceLT, Nat.reduceEqDiff, Nat.reduceAdd, or_true, true_or, or_false, false_or, nI_clamp2, nI_lt0F, nI_leT, nI_leF, nI_ltT, nI_ltF, n_leF, n_leT, nI_1, kA6, kA8, kA10, kA22, kA26, kA32, kA44, kA56, kA68, kA80, kA93, kA163, kA794, not_or, or_self, and_self, and_true, true_and, p1, m25, g276_29, m176 _ (show k < 32 by omega), tk, g276_36, bI_itn, g276_42, k1, g276_46, bk, k2, g276_54]
        refine (show bm_run S (d + 6) 276 61 [some (.ref 218), some (.int (nI t)), some (.int (orS (dB B (B 22)) L)), some (.int (orS (fiB M L B X) k)), some (.int (nI k)), some (.int (bI (fiP M L B X k 0))), some (.int (nI 0))] [] s2 = _ from e4).trans ?_
        rw [g276_61]
        simp (disch := omega) only [bm_run_ite, Option.toList_some, Option.bind_some, Option.toList_some, Option.toList_none, List.cons_append, List.nil_append, List.append_nil, eq_self, not_true_eq_false, not_false_eq_true, ite_true, ite_false, ↓reduceIte, Nat.reduceLT, Nat.reduceEqDiff, Nat.reduceAdd, or_true, true_or, or_false, false_or, nI_clamp2, nI_lt0F, nI_leT, nI_leF, nI_ltT, nI_ltF, n_leF, n_leT, nI_1, kA6, kA8, kA10, kA22, kA26, kA32, kA44, kA56, kA68, kA80, kA93, kA163, kA794, not_or, or_self, and_self, and_true, true_and, r3, c3, g276_157, m216, ea]
      have kf : Kp s.2 (bm_row (bm_row s2 234 g) 219 B) := by
        refine ⟨fun a x y => ?_, fun b hb => ?_, fun a _ => by show s2.2 a = _; rw [s2x]⟩
        · by_cases e : a = 219
          · subst e; rw [row_row1, p1]
          · rw [bm_row_1n _ _ e, bm_row_1n _ _ (by unfold Sc at x; omega), f2.1 a y e (by unfold Sc at x; omega), bm_row_1n _ _ (by unfold Sc at x; omega)]
        · rw [bm_row_1n _ _ (by decide), bm_row_1n _ _ (by decide), f2.2.1 b (by omega), bm_row_1n _ _ (by decide)]
      refine ⟨((some (.int (bI (fiP M L B X k M))), some (.int (nI M))), bm_row (bm_row s2 234 g) 219 B), ?_, row_row1 _ _ _, p2.tr kf, fun l hl hq m hm => ?_⟩
      · refine go.trans ?_
        rw [g276_161]
        cases hf : fiP M L B X k M
        · simp only [bm_run_ite, Option.toList_some, Option.bind_some, Option.toList_some, Option.toList_none, List.cons_append, List.nil_append, List.append_nil, eq_self, not_true_eq_false, not_false_eq_true, ite_true, ite_false, ↓reduceIte, Nat.reduceLT, Nat.reduceEqDiff, Nat.reduceAdd, or_true, true_or, or_false, false_or, bI_ite, Bool.false_eq_true, g276_174, g276_175, g276_177, nI_1, Bool.true_and]
        · simp only [bm_run_ite, Option.toList_some, Option.bind_some, Option.toList_some, Option.toList_none, List.cons_append, List.nil_append, List.append_nil, eq_self, not_true_eq_false, not_false_eq_true, ite_true, ite_false, ↓reduceIte, Nat.reduceLT, Nat.reduceEqDiff, Nat.reduceAdd, or_true, true_or, or_false, false_or, bI_ite, g276_167, bk, g276_175, g276_177, nI_1, Bool.true_and]
      · show (bm_row (bm_row s2 234 g) 219 B).1 234 (6 * l + m) = _
        rw [bm_row_1n _ _ (by decide), row_row1]
        by_cases e : l = k
        · rw [e]; exact q1 m hm
        · rw [q2 _ (by omega), s232]; exact p3 l (by omega) hq m hm)
  replace p1 : σ1.1 219 = B := p1
  refine ⟨σ1, ?_, p1, p2, p3⟩
  simp only [e276, g276_0, bm_run_ite, Option.toList_some, Option.bind_some, Option.toList_some, Option.toList_none, List.cons_append, List.nil_append, List.append_nil, eq_self, not_true_eq_false, not_false_eq_true, ite_true, ite_false, ↓reduceIte, Nat.reduceLT, Nat.reduceEqDiff, Nat.reduceAdd, or_true, true_or, or_false, false_or, hB, mm, g276_11]
  refine (show bm_run S (d + 6) 276 17 [some (.ref 218), some (.int (nI t)), some (.int (orS (dB B (B 22)) L)), some (.int 0), some (.int (nI 0)), none, none] [] σ = _ from e1).trans ?_
  rw [g276_17]
  simp (disch := omega) only [bm_run_ite, Option.toList_some, Option.bind_some, Option.toList_some, Option.toList_none, List.cons_append, List.nil_append, List.append_nil, eq_self, not_true_eq_false, not_false_eq_true, ite_true, ite_false, ↓reduceIte, Nat.reduceLT, Nat.reduceEqDiff, Nat.reduceAdd, or_true, true_or, or_false, false_or, nI_clamp2, nI_lt0F, nI_leT, nI_leF, nI_ltT, nI_ltF, n_leF, n_leT, nI_1, kA6, kA8, kA10, kA22, kA26, kA32, kA44, kA56, kA68, kA80, kA93, kA163, kA794, not_or, or_self, and_self, and_true, true_and, p1, m25, g276_183]
end MISS
