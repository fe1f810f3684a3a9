/-! bytes laid on the tape -/
def byF (x : Int32) (j : Nat) : Int32 := (am_ush x (nI (24 - 8 * j))).toInt8.toInt32.toInt8.toInt32
theorem tb_i8 (y : Int32) {l : Nat} (h : l < 8) : tb y.toInt8.toInt32 l = tb y l := by
  have e : y.toInt8.toInt32.toBitVec = (y.toBitVec.signExtend 8).signExtend 32 := rfl
  unfold tb
  rw [e, BitVec.getLsbD_signExtend, BitVec.getLsbD_signExtend]
  simp [h, show l < 32 by omega]
theorem i8_idem (y : Int32) : y.toInt8.toInt32.toInt8.toInt32 = y.toInt8.toInt32 := by simp
theorem ush_tb (x : Int32) {s l : Nat} (hs : s < 32) (hl : s + l < 32) : tb (am_ush x (nI s)) l = tb x (s + l) := by
  have ha : ∀ s, s < 32 → ((nI s).toUInt32 &&& Int32.toUInt32 31).toNat % 32 = s := by decide +kernel
  show (x.toUInt32 >>> ((nI s).toUInt32 &&& Int32.toUInt32 31)).toNat.testBit l = _
  rw [UInt32.toNat_shiftRight, ha s hs, Nat.testBit_shiftRight]
  rfl
theorem shr_tb (x : Int32) {s l : Nat} (hs : s < 32) (hl : s + l < 32) : tb (x >>> (nI s &&& 31)) l = tb x (s + l) := by
  have e : (x >>> (nI s &&& 31)).toBitVec = x.toBitVec.sshiftRight s := by
    rw [Int32.toBitVec_shiftRight]
    show x.toBitVec.sshiftRight ((nI s &&& 31).toBitVec.smod 32).toNat = _
    rw [sh_amt s hs]
  unfold tb
  rw [e, BitVec.getLsbD_sshiftRight, if_pos hl]
  have : ¬ 32 ≤ l := by omega
  simp [this]
theorem by255 (x : Int32) {j : Nat} (hj : j < 4) : byF x j &&& 255 = (x >>> (nI (24 - 8 * j) &&& 31)) &&& 255 := by
  have e : ∀ l, l < 32 → tb 255 l = decide (l < 8) := by decide +kernel
  apply tb_ext
  intro l hl
  rw [tb_and, tb_and, e l hl]
  by_cases q : l < 8
  · unfold byF
    rw [tb_i8 _ q, tb_i8 _ q, ush_tb x (by omega) (by omega), shr_tb x (by omega) (by omega)]
  · simp [q]
theorem byF_i8 (x : Int32) (j : Nat) : (byF x j).toInt8.toInt32 = byF x j := by unfold byF; rw [i8_idem, i8_idem]
def shv (k : Nat) : Int32 := Int32.ofInt (24 - 8 * (k : Int))
theorem shv_s : ∀ k, k < 4 → shv k + Int32.ofInt (-8) = shv (k + 1) ∧ ¬ shv k < 0 ∧ shv k = nI (24 - 8 * k) := by decide +kernel
theorem shv_4 : shv 4 < 0 := by decide
/-- a tape with its length -/
def tpS (σ : bm_S) (a b c : Nat) (g : Nat → Int32) (n : Int32) : bm_S := bm_wi (bm_row σ a g) b c n
theorem tpS_wi (σ : bm_S) {a b c : Nat} (h : a ≠ b) (g : Nat → Int32) (n m v : Int32) (k : Nat) : bm_wi (bm_wi (tpS σ a b c g n) a k v) b c m = tpS σ a b c (upd g k v) m := by
  unfold tpS
  refine Prod.ext ?_ rfl
  funext x
  by_cases e1 : x = b
  · subst e1
    rw [wi_s, wi_s, wi_n _ (fun z => h z.symm), wi_s, bm_row_1n _ _ (fun z => h z.symm), bm_row_1n _ _ (fun z => h z.symm), upd_upd]
  · by_cases e2 : x = a
    · subst e2
      rw [wi_n _ e1, wi_s, wi_n _ e1, row_row1, wi_n _ e1, row_row1]
    · rw [wi_n _ e1, wi_n _ e2, wi_n _ e1, bm_row_1n _ _ e2, wi_n _ e1, bm_row_1n _ _ e2]
theorem tpS_n (σ : bm_S) {a b c : Nat} (g : Nat → Int32) (n : Int32) : (tpS σ a b c g n).1 b c = n := by unfold tpS; rw [wi_s, upd_s]
theorem tpS_0 (σ : bm_S) {a b c : Nat} (n : Int32) (h : σ.1 b c = n) : tpS σ a b c (σ.1 a) n = σ := by
  unfold tpS
  rw [bm_row_self, bm_wi_def]
  have : upd (σ.1 b) c n = σ.1 b := by
    funext j
    unfold upd
    split
    · next e => rw [e, h]
    · rfl
  rw [this, bm_row_self]
section FEED
variable {S : am_S} {d : Nat} {σ : bm_S} {M L : Nat}
theorem c153 (x : Int32) {t : Nat} (ht : t + 4 ≤ 900) (h0 : σ.1 0 1 = nI t) : ∃ g, bm_call S d 153 [.ref 0, .int x] σ = some (none, tpS σ 1 0 1 g (nI (t + 4))) ∧ (∀ i, (i < t ∨ t + 4 ≤ i) → g i = σ.1 1 i) ∧ ∀ j, j < 4 → g (t + j) = byF x j := by
  obtain ⟨g, e1, p1, p2⟩ := loop_ex (fun k (g : Nat → Int32) => bm_run S d 153 3 [some (.ref 0), some (.int x), some (.int (shv k))] [] (tpS σ 1 0 1 g (nI (t + k)))) (fun k g => (∀ i, (i < t ∨ t + k ≤ i) → g i = σ.1 1 i) ∧ ∀ j, j < k → g (t + j) = byF x j) 4 (σ.1 1) ⟨fun _ _ => rfl, fun j hj => absurd hj (by omega)⟩ (by
    intro k g hk hp
    obtain ⟨p1, p2⟩ := hp
    obtain ⟨s1, s2, s3⟩ := shv_s k hk
    have n9 : nI (t + k) < 900 := nI_lt (b := 900) (by omega) (by decide)
    refine ⟨upd g (t + k) (byF x k), ?_, fun i hi => ?_, fun j hj => ?_⟩
    · rw [g153_3, ← s1]
      have ev : ((am_ush x (shv k)).toInt8.toInt32).toInt8.toInt32 = byF x k := by rw [s3]; rfl
      have r0 : ∀ y, (bm_wi (tpS σ 1 0 1 g (nI (t + k))) 1 (t + k) y).1 0 1 = nI (t + k) := fun y => by rw [wi_n _ (by decide), tpS_n]
      have e9 : t + k + 1 = t + (k + 1) := by omega
      simp (disch := omega) only [bm_run_ite, Option.toList_some, Option.bind_some, Option.toList_some, Option.toList_none, List.cons_append, List.nil_append, List.append_nil, eq_self, not_true_eq_false, not_false_eq_true, ite_true, ite_false, ↓reduceIte, Nat.reduceLT, Nat.reduceEqDiff, Nat.reduceAdd, or_true, true_or, or_false, false_or, nI_clamp2, nI_lt0F, nI_leT, nI_leF, nI_ltT, nI_ltF, n_leF, n_leT, nI_1, kA6, kA8, kA10, kA22, kA26, kA32, kA44, kA56, kA68, kA80, kA93, kA163, kA794, not_or, or_self, and_self, and_true, true_and, s2, g153_7, g153_14, tpS_n, n9, g153_27, ev, r0, tpS_wi σ (show (1 : Nat) ≠ 0 by decide), e9]
    · rw [upd_n _ _ (by omega)]; exact p1 i (by omega)
    · by_cases e : j = k
      · rw [e, upd_s]
      · rw [upd_n _ _ (by omega)]; exact p2 j (by omega))
  refine ⟨g, ?_, p1, p2⟩
  have z : tpS σ 1 0 1 (σ.1 1) (nI (t + 0)) = σ := tpS_0 σ _ h0
  rw [z] at e1
  rw [e153, g153_0]
  refine (show bm_run S d 153 3 [some (.ref 0), some (.int x), some (.int 24)] [] σ = _ from e1).trans ?_
  rw [g153_3]
  simp only [bm_run_ite, Option.toList_some, Option.bind_some, Option.toList_some, Option.toList_none, List.cons_append, List.nil_append, List.append_nil, eq_self, not_true_eq_false, not_false_eq_true, ite_true, ite_false, ↓reduceIte, Nat.reduceLT, Nat.reduceEqDiff, Nat.reduceAdd, or_true, true_or, or_false, false_or, shv_4, g153_56]
def arF (a b c e f : Int32) (q : Nat) : Int32 := if q = 0 then a else if q = 1 then b else if q = 2 then c else if q = 3 then e else f
theorem sh24 : ∀ k, k < 20 → (24 : Int32) - (8 : Int32) * (am_rem (nI k) 4) = nI (24 - 8 * (k % 4)) := by decide +kernel
theorem m166s (a b c e f : Int32) {k : Nat} (hk : k < 20) (o : Option Value) (ρ : bm_S) : bm_run S d 166 31 [some (.ref 218), some (.int a), some (.int b), some (.int c), some (.int e), some (.int f), some (.int (nI k)), o] [] ρ = bm_run S d 166 77 [some (.ref 218), some (.int a), some (.int b), some (.int c), some (.int e), some (.int f), some (.int (nI k)), o] [.int (arF a b c e f (k / 4))] ρ := by
  have q : k < 4 ∨ (4 ≤ k ∧ k < 8) ∨ (8 ≤ k ∧ k < 12) ∨ (12 ≤ k ∧ k < 16) ∨ 16 ≤ k := by omega
  have lt : ∀ m : Nat, k < m → m < 100 → ¬ nI m ≤ nI k := fun m h1 h2 => nI_ge h1 (by omega)
  have ge : ∀ m : Nat, m ≤ k → nI m ≤ nI k := fun m h1 => nI_le h1 (by omega)
  rw [g166_31]
  rcases q with q | ⟨q1, q⟩ | ⟨q1, q⟩ | ⟨q1, q⟩ | q1
  · have e0 : k / 4 = 0 := by omega
    have x4 : ¬ (4 : Int32) ≤ nI k := lt 4 q (by decide)
    simp only [bm_run_ite, Option.toList_some, Option.bind_some, Option.toList_some, Option.toList_none, List.cons_append, List.nil_append, List.append_nil, eq_self, not_true_eq_false, not_false_eq_true, ite_true, ite_false, ↓reduceIte, Nat.reduceLT, Nat.reduceEqDiff, Nat.reduceAdd, or_true, true_or, or_false, false_or, x4, g166_37, e0]; rfl
  · have e0 : k / 4 = 1 := by omega
    have x4 : (4 : Int32) ≤ nI k := ge 4 q1
    have x8 : ¬ (8 : Int32) ≤ nI k := lt 8 q (by decide)
    simp only [bm_run_ite, Option.toList_some, Option.bind_some, Option.toList_some, Option.toList_none, List.cons_append, List.nil_append, List.append_nil, eq_self, not_true_eq_false, not_false_eq_true, ite_true, ite_false, ↓reduceIte, Nat.reduceLT, Nat.reduceEqDiff, Nat.reduceAdd, or_true, true_or, or_false, false_or, x4, g166_41, x8, g166_48, e0]; rfl
  · have e0 : k / 4 = 2 := by omega
    have x4 : (4 : Int32) ≤ nI k := ge 4 (by omega)
    have x8 : (8 : Int32) ≤ nI k := ge 8 q1
    have x12 : ¬ (12 : Int32) ≤ nI k := lt 12 q (by decide)
    simp only [bm_run_ite, Option.toList_some, Option.bind_some, Option.toList_some, Option.toList_none, List.cons_append, List.nil_append, List.append_nil, eq_self, not_true_eq_false, not_false_eq_true, ite_true, ite_false, ↓reduceIte, Nat.reduceLT, Nat.reduceEqDiff, Nat.reduceAdd, or_true, true_or, or_false, false_or, x4, g166_41, x8, g166_52, x12, g166_59, e0]; rfl
  · have e0 : k / 4 = 3 := by omega
    have x4 : (4 : Int32) ≤ nI k := ge 4 (by omega)
    have x8 : (8 : Int32) ≤ nI k := ge 8 (by omega)
    have x12 : (12 : Int32) ≤ nI k := ge 12 q1
    have x16 : ¬ (16 : Int32) ≤ nI k := lt 16 q (by decide)
    simp only [bm_run_ite, Option.toList_some, Option.bind_some, Option.toList_some, Option.toList_none, List.cons_append, List.nil_append, List.append_nil, eq_self, not_true_eq_false, not_false_eq_true, ite_true, ite_false, ↓reduceIte, Nat.reduceLT, Nat.reduceEqDiff, Nat.reduceAdd, or_true, true_or, or_false, false_or, x4, g166_41, x8, g166_52, x12, g166_63, x16, g166_70, e0]; rfl
  · have e0 : k / 4 = 4 := by omega
    have x4 : (4 : Int32) ≤ nI k := ge 4 (by omega)
    have x8 : (8 : Int32) ≤ nI k := ge 8 (by omega)
    have x12 : (12 : Int32) ≤ nI k := ge 12 (by omega)
    have x16 : (16 : Int32) ≤ nI k := ge 16 q1
    simp only [bm_run_ite, Option.toList_some, Option.bind_some, Option.toList_some, Option.toList_none, List.cons_append, List.nil_append, List.append_nil, eq_self, not_true_eq_false, not_false_eq_true, ite_true, ite_false, ↓reduceIte, Nat.reduceLT, Nat.reduceEqDiff, Nat.reduceAdd, or_true, true_or, or_false, false_or, x4, g166_41, x8, g166_52, x12, g166_63, x16, g166_75, e0]; rfl
theorem p_feed (h : RS M L σ) (a b c e f : Int32) : PR S (d + 10) 109 166 [.int a, .int b, .int c, .int e, .int f] σ := by
  have h0 := h
  obtain ⟨⟨c1, c2, c3⟩, ps, im, tr, ⟨t, u1, u2, u3, u4⟩, x1, x2⟩ := h0
  have a20 : nI t + 20 = nI (t + 20) := nI_add t 20
  by_cases q : t + 20 ≤ 900
  case neg =>
    have q9 : ¬ nI (t + 20) ≤ 900 := nI_ge (a := 900) (by omega) (by omega)
    refine PR.ofk (v := .int (Int32.ofInt (-5))) h ⟨σ, by simp only [e109, g109_0, g109_13, bm_run_ite, Option.toList_some, Option.bind_some, Option.toList_some, Option.toList_none, List.cons_append, List.nil_append, List.append_nil, eq_self, not_true_eq_false, not_false_eq_true, ite_true, ite_false, ↓reduceIte, Nat.reduceLT, Nat.reduceEqDiff, Nat.reduceAdd, or_true, true_or, or_false, false_or, u2, a20, q9], Kp.rfl σ⟩ ?_
    intro τ k
    have j1 : (bm_wi τ 218 0 0).1 218 5 = nI t := by rw [wi_s, upd_n _ _ (by decide), k.2.1 5 (by omega)]; exact u3
    exact ⟨_, by simp only [e166, g166_0, g166_18, bm_run_ite, Option.toList_some, Option.bind_some, Option.toList_some, Option.toList_none, List.cons_append, List.nil_append, List.append_nil, eq_self, not_true_eq_false, not_false_eq_true, ite_true, ite_false, ↓reduceIte, Nat.reduceLT, Nat.reduceEqDiff, Nat.reduceAdd, or_true, true_or, or_false, false_or, j1, a20, q9], kp_t0 τ⟩
  have q9 : nI (t + 20) ≤ 900 := nI_le (b := 900) q (by decide)
  obtain ⟨g1, k1, p1, b1⟩ := c153 (S := S) (d := d + 9) (σ := σ) a (t := t) (by omega) u2
  generalize hσ1 : tpS σ 1 0 1 g1 (nI (t + 4)) = σ1 at k1
  have r1 : σ1.1 1 = g1 := by rw [← hσ1]; unfold tpS; rw [wi_n _ (by decide), row_row1]
  obtain ⟨g2, k2, p2, b2⟩ := c153 (S := S) (d := d + 9) (σ := σ1) b (t := t + 4) (by omega) (by rw [← hσ1, tpS_n])
  generalize hσ2 : tpS σ1 1 0 1 g2 (nI (t + 4 + 4)) = σ2 at k2
  have r2 : σ2.1 1 = g2 := by rw [← hσ2]; unfold tpS; rw [wi_n _ (by decide), row_row1]
  obtain ⟨g3, k3, p3, b3⟩ := c153 (S := S) (d := d + 9) (σ := σ2) c (t := t + 4 + 4) (by omega) (by rw [← hσ2, tpS_n])
  generalize hσ3 : tpS σ2 1 0 1 g3 (nI (t + 4 + 4 + 4)) = σ3 at k3
  have r3 : σ3.1 1 = g3 := by rw [← hσ3]; unfold tpS; rw [wi_n _ (by decide), row_row1]
  obtain ⟨g4, k4, p4, b4⟩ := c153 (S := S) (d := d + 9) (σ := σ3) e (t := t + 4 + 4 + 4) (by omega) (by rw [← hσ3, tpS_n])
  generalize hσ4 : tpS σ3 1 0 1 g4 (nI (t + 4 + 4 + 4 + 4)) = σ4 at k4
  have r4 : σ4.1 1 = g4 := by rw [← hσ4]; unfold tpS; rw [wi_n _ (by decide), row_row1]
  obtain ⟨g5, k5, p5, b5⟩ := c153 (S := S) (d := d + 9) (σ := σ4) f (t := t + 4 + 4 + 4 + 4) (by omega) (by rw [← hσ4, tpS_n])
  generalize hσ5 : tpS σ4 1 0 1 g5 (nI (t + 4 + 4 + 4 + 4 + 4)) = σ5 at k5
  have r5 : σ5.1 1 = g5 := by rw [← hσ5]; unfold tpS; rw [wi_n _ (by decide), row_row1]
  rw [r1] at p2
  rw [r2] at p3
  rw [r3] at p4
  rw [r4] at p5
  have n5 : σ5.1 0 1 = nI (t + 20) := by rw [← hσ5, tpS_n]
  have fz : ∀ (ρ : bm_S) (g : Nat → Int32) (n : Int32), (∀ x, x ≠ 0 → x ≠ 1 → (tpS ρ 1 0 1 g n).1 x = ρ.1 x) ∧ (∀ y, y ≠ 1 → (tpS ρ 1 0 1 g n).1 0 y = ρ.1 0 y) ∧ (tpS ρ 1 0 1 g n).2 = ρ.2 := by
    intro ρ g n
    refine ⟨fun x h1 h2 => ?_, fun y hy => ?_, rfl⟩
    · unfold tpS; rw [wi_n _ h1, bm_row_1n _ _ h2]
    · unfold tpS; rw [wi_s, upd_n _ _ hy, bm_row_1n _ _ (by decide)]
  have sn : ∀ x, x ≠ 0 → x ≠ 1 → σ5.1 x = σ.1 x := by
    intro x h1 h2
    rw [← hσ5, (fz _ _ _).1 x h1 h2, ← hσ4, (fz _ _ _).1 x h1 h2, ← hσ3, (fz _ _ _).1 x h1 h2, ← hσ2, (fz _ _ _).1 x h1 h2, ← hσ1, (fz _ _ _).1 x h1 h2]
  have s0 : ∀ y, y ≠ 1 → σ5.1 0 y = σ.1 0 y := by
    intro y hy
    rw [← hσ5, (fz _ _ _).2.1 y hy, ← hσ4, (fz _ _ _).2.1 y hy, ← hσ3, (fz _ _ _).2.1 y hy, ← hσ2, (fz _ _ _).2.1 y hy, ← hσ1, (fz _ _ _).2.1 y hy]
  have sx : σ5.2 = σ.2 := by rw [← hσ5, ← hσ4, ← hσ3, ← hσ2, ← hσ1]; rfl
  have old : ∀ i, i < t → g5 i = σ.1 1 i := by
    intro i hi
    rw [p5 i (by omega), p4 i (by omega), p3 i (by omega), p2 i (by omega), p1 i (by omega)]
  have new : ∀ k, k < 20 → g5 (t + k) = byF (arF a b c e f (k / 4)) (k % 4) := by
    intro k hk
    have q : k < 4 ∨ (4 ≤ k ∧ k < 8) ∨ (8 ≤ k ∧ k < 12) ∨ (12 ≤ k ∧ k < 16) ∨ 16 ≤ k := by omega
    rcases q with q | ⟨q1, q⟩ | ⟨q1, q⟩ | ⟨q1, q⟩ | q1
    · rw [p5 _ (by omega), p4 _ (by omega), p3 _ (by omega), p2 _ (by omega), b1 k q, show k / 4 = 0 by omega, show k % 4 = k by omega]; rfl
    · rw [p5 _ (by omega), p4 _ (by omega), p3 _ (by omega), show t + k = t + 4 + (k - 4) by omega, b2 _ (by omega), show k / 4 = 1 by omega, show k % 4 = k - 4 by omega]; rfl
    · rw [p5 _ (by omega), p4 _ (by omega), show t + k = t + 4 + 4 + (k - 8) by omega, b3 _ (by omega), show k / 4 = 2 by omega, show k % 4 = k - 8 by omega]; rfl
    · rw [p5 _ (by omega), show t + k = t + 4 + 4 + 4 + (k - 12) by omega, b4 _ (by omega), show k / 4 = 3 by omega, show k % 4 = k - 12 by omega]; rfl
    · rw [show t + k = t + 4 + 4 + 4 + 4 + (k - 16) by omega, b5 _ (by omega), show k / 4 = 4 by omega, show k % 4 = k - 16 by omega]; rfl
  have m5 : (bm_wi σ5 218 0 0).1 218 5 = nI t := by rw [wi_s, upd_n _ _ (by decide), sn 218 (by decide) (by decide)]; exact u3
  obtain ⟨⟨o7, g⟩, e7, y1, y2⟩ := loop_ex (fun k (s : Option Value × (Nat → Int32)) => bm_run S (d + 10) 166 24 [some (.ref 218), some (.int a), some (.int b), some (.int c), some (.int e), some (.int f), some (.int (nI k)), s.1] [] (tpS (bm_wi σ5 218 0 0) 221 218 5 s.2 (nI (t + k)))) (fun k s => (∀ i, i < t → s.2 i = σ.1 221 i) ∧ ∀ j, j < k → s.2 (t + j) = (arF a b c e f (j / 4) >>> (nI (24 - 8 * (j % 4)) &&& 31)) &&& 255) 20 (none, σ.1 221) ⟨fun _ _ => rfl, fun j hj => absurd hj (by omega)⟩ (by
    intro k s hk hp
    obtain ⟨p1, p2⟩ := hp
    have n20 : ¬ (20 : Int32) ≤ nI k := nI_ge (b := 20) hk (by decide)
    have r0 : ∀ y, (bm_wi (tpS (bm_wi σ5 218 0 0) 221 218 5 s.2 (nI (t + k))) 221 (t + k) y).1 218 5 = nI (t + k) := fun y => by rw [wi_n _ (by decide), tpS_n]
    have e9 : t + k + 1 = t + (k + 1) := by omega
    refine ⟨(some (.int (arF a b c e f (k / 4))), upd s.2 (t + k) ((arF a b c e f (k / 4) >>> (nI (24 - 8 * (k % 4)) &&& 31)) &&& 255)), ?_, fun i hi => ?_, fun j hj => ?_⟩
    · rw [g166_24]
      simp (disch := omega) only [bm_run_ite, Option.toList_some, Option.bind_some, Option.toList_some, Option.toList_none, List.cons_append, List.nil_append, List.append_nil, eq_self, not_true_eq_false, not_false_eq_true, ite_true, ite_false, ↓reduceIte, Nat.reduceLT, Nat.reduceEqDiff, Nat.reduceAdd, or_true, true_or, or_false, false_or, nI_clamp2, nI_lt0F, nI_leT, nI_leF, nI_ltT, nI_ltF, n_leF, n_leT, nI_1, kA6, kA8, kA10, kA22, kA26, kA32, kA44, kA56, kA68, kA80, kA93, kA163, kA794, not_or, or_self, and_self, and_true, true_and, n20, m166s a b c e f hk, g166_77, tpS_n, sh24 k hk, r0, tpS_wi (bm_wi σ5 218 0 0) (show (221 : Nat) ≠ 218 by decide), e9]
    · show upd s.2 (t + k) _ i = _
      rw [upd_n _ _ (by omega)]; exact p1 i hi
    · show upd s.2 (t + k) _ (t + j) = _
      by_cases z : j = k
      · rw [z, upd_s]
      · rw [upd_n _ _ (by omega)]; exact p2 j (by omega))
  replace y1 : ∀ i, i < t → g i = σ.1 221 i := y1
  replace y2 : ∀ j, j < 20 → g (t + j) = (arF a b c e f (j / 4) >>> (nI (24 - 8 * (j % 4)) &&& 31)) &&& 255 := y2
  have z : tpS (bm_wi σ5 218 0 0) 221 218 5 (σ.1 221) (nI (t + 0)) = bm_wi σ5 218 0 0 := by
    have : σ.1 221 = (bm_wi σ5 218 0 0).1 221 := by rw [wi_n _ (by decide), sn 221 (by decide) (by decide)]
    rw [this]
    exact tpS_0 _ _ m5
  rw [z] at e7
  generalize hρ : tpS (bm_wi σ5 218 0 0) 221 218 5 g (nI (t + 20)) = ρ at e7
  have ρ5 : ρ.1 218 5 = nI (t + 20) := by rw [← hρ, tpS_n]
  have ρ19 : ρ.1 221 = g := by rw [← hρ]; unfold tpS; rw [wi_n _ (by decide), row_row1]
  have ρn : ∀ x, x ≠ 218 → x ≠ 221 → ρ.1 x = σ5.1 x := fun x h1 h2 => by rw [← hρ]; unfold tpS; rw [wi_n _ h1, bm_row_1n _ _ h2, wi_n _ h1]
  have ρ16 : ∀ y, y ≠ 0 → y ≠ 5 → ρ.1 218 y = σ5.1 218 y := fun y h1 h2 => by rw [← hρ]; unfold tpS; rw [wi_s, upd_n _ _ h2, bm_row_1n _ _ (by decide), wi_s, upd_n _ _ h1]
  have ρx : ρ.2 = σ.2 := by rw [← hρ]; exact sx
  have rk : ∀ x, x ≠ 0 → x ≠ 1 → x ≠ 218 → x ≠ 221 → ρ.1 x = σ.1 x := fun x h1 h2 h3 h4 => (ρn x h3 h4).trans (sn x h1 h2)
  have e17 := rk 219 (by decide) (by decide) (by decide) (by decide)
  obtain ⟨n, e0, p1', p2', p3', p4', p5', p6'⟩ := ps
  refine ⟨.int (nI (t + 20)), σ5, ρ, M, L, ?_, ?_, ⟨⟨by rw [e17]; exact c1, ?_, ?_⟩, ⟨n, e0, p1', p2', ?_, ?_, ?_, ?_⟩, ?_, ?_, ⟨t + 20, q, ?_, ?_, ?_⟩, ?_, ?_⟩⟩
  · simp only [e109, g109_0, g109_16, g109_21, g109_26, g109_31, g109_37, g109_43, bm_run_ite, Option.toList_some, Option.bind_some, Option.toList_some, Option.toList_none, List.cons_append, List.nil_append, List.append_nil, eq_self, not_true_eq_false, not_false_eq_true, ite_true, ite_false, ↓reduceIte, Nat.reduceLT, Nat.reduceEqDiff, Nat.reduceAdd, or_true, true_or, or_false, false_or, u2, a20, q9, k1, k2, k3, k4, k5, n5]
  · simp only [e166, g166_0, g166_21, bm_run_ite, Option.toList_some, Option.bind_some, Option.toList_some, Option.toList_none, List.cons_append, List.nil_append, List.append_nil, eq_self, not_true_eq_false, not_false_eq_true, ite_true, ite_false, ↓reduceIte, Nat.reduceLT, Nat.reduceEqDiff, Nat.reduceAdd, or_true, true_or, or_false, false_or, m5, a20, q9]
    refine (show bm_run S (d + 10) 166 24 [some (.ref 218), some (.int a), some (.int b), some (.int c), some (.int e), some (.int f), some (.int (nI 0)), none] [] _ = _ from e7).trans ?_
    have n20 : (20 : Int32) ≤ nI 20 := by decide
    rw [g166_24]
    simp only [bm_run_ite, Option.toList_some, Option.bind_some, Option.toList_some, Option.toList_none, List.cons_append, List.nil_append, List.append_nil, eq_self, not_true_eq_false, not_false_eq_true, ite_true, ite_false, ↓reduceIte, Nat.reduceLT, Nat.reduceEqDiff, Nat.reduceAdd, or_true, true_or, or_false, false_or, n20, g166_121, ρ5]
  · rw [e17]; exact c2.of (fun x h1 h2 => rk x (by omega) (by omega) (by omega) (by omega))
  · rw [e17]; exact c3.of (rk 2 (by omega) (by omega) (by omega) (by omega)) (rk 3 (by omega) (by omega) (by omega) (by omega))
  · rw [e17]; exact p3'
  · rw [rk 42 (by omega) (by omega) (by omega) (by omega)]; exact p4'
  · rw [rk 42 (by omega) (by omega) (by omega) (by omega)]; exact p5'
  · intro i hi
    obtain ⟨L1, q1, q2⟩ := p6' i hi
    have hm : (e0 + i) % 10 < 10 := Nat.mod_lt _ (by decide)
    rw [e17]
    exact ⟨L1, q1, q2.of (fun x h1 h2 => rk x (by omega) (by omega) (by omega) (by omega))⟩
  · intro j hj
    have im1 := im j hj
    unfold IM at im1 ⊢
    rw [rk (182 + 14 * j) (by omega) (by omega) (by omega) (by omega), rk 220 (by omega) (by omega) (by omega) (by omega), e17]
    rcases im1 with z | ⟨z1, z2, M2, L2, o1, o2, o3⟩
    · exact Or.inl z
    · exact Or.inr ⟨z1, z2, M2, L2, o1, o2.of (fun x h1 h2 => rk x (by omega) (by omega) (by omega) (by omega)), o3.of (rk _ (by omega) (by omega) (by omega) (by omega)) (rk _ (by omega) (by omega) (by omega) (by omega))⟩
  · intro j hj
    have := tr j hj
    unfold TR at this ⊢
    rw [rk (210 + 2 * j) (by omega) (by omega) (by omega) (by omega), rk 235 (by omega) (by omega) (by omega) (by omega), rk 236 (by omega) (by omega) (by omega) (by omega), ρx]
    exact this
  · rw [ρn 0 (by omega) (by omega)]; exact n5
  · exact ρ5
  · intro i hi
    rw [ρn 1 (by omega) (by omega), r5, ρ19]
    rcases Nat.lt_or_ge i t with w | w
    · rw [old i w, y1 i w]; exact u4 i w
    · have hk := new (i - t) (by omega)
      have hy := y2 (i - t) (by omega)
      rw [show t + (i - t) = i by omega] at hk hy
      rw [hk, hy]
      exact ⟨by255 _ (Nat.mod_lt _ (by decide)), byF_i8 _ _⟩
  · rw [ρn 0 (by omega) (by omega), s0 2 (by decide), ρ16 13 (by decide) (by decide), sn 218 (by decide) (by decide)]; exact x1
  · rw [ρn 0 (by omega) (by omega), s0 3 (by decide), ρ16 14 (by decide) (by decide), sn 218 (by decide) (by decide)]; exact x2
end FEED
