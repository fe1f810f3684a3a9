/-! how likely, by the class -/
def wcF (B : Nat → Int32) (u : Nat → Nat) (j : Nat) : Nat → Int64
  | 0 => 1
  | i + 1 => if j.testBit i = true then wcF B u j i * (B (10 + u i)).toInt64 else wcF B u j i * ((10 : Int32) - B (10 + u i)).toInt64
def dyF (B : Nat → Int32) (u : Nat → Nat) (j : Nat) : Nat → Nat → Int32
  | 0 => B
  | i + 1 => if j.testBit i = true then upd (dyF B u j i) (68 + u i) (dyF B u j i (68 + u i) + 1) else dyF B u j i
theorem dyF_10 {B : Nat → Int32} {u : Nat → Nat} {j i : Nat} : ∀ {n : Nat}, i < 68 → dyF B u j n i = B i := by
  intro n
  induction n with
  | zero => intro _; rfl
  | succ n ih =>
    intro h
    rw [dyF]
    split
    · rw [upd_n _ _ (by omega)]; exact ih h
    · exact ih h
/-- letter by letter it is the same -/
theorem link {B : Nat → Int32} {P : Nat → Bool} {u : Nat → Nat} {L j : Nat} (hL : L ≤ 12) (hu : ∀ l, l < L → P l = true → u (cnD P l) = l) : ∀ k, k ≤ L → wcF B u j (cnD P k) = wtF B P (mkF P L j) k ∧ dyF B u j (cnD P k) = dlB B (nI (mkF P L j)) k := by
  intro k
  induction k with
  | zero => intro _; exact ⟨rfl, rfl⟩
  | succ k ih =>
    intro hk
    obtain ⟨h1, h2⟩ := ih (by omega)
    have tx : tb (nI (mkF P L j)) k = (P k && j.testBit (cnD P k)) := by rw [tb_nI (by omega), mkF_bit P j L k (by omega)]
    have tx2 : (mkF P L j).testBit k = (P k && j.testBit (cnD P k)) := mkF_bit P j L k (by omega)
    cases hp : P k
    · have e : cnD P (k + 1) = cnD P k := by rw [cnD, hp]; rfl
      rw [hp] at tx
      rw [e, wtF, dlB, hp, tx]
      simpa using ⟨h1, h2⟩
    · have e : cnD P (k + 1) = cnD P k + 1 := by rw [cnD, hp]; rfl
      have uk := hu k (by omega) hp
      rw [hp, Bool.true_and] at tx tx2
      rw [e, wtF, dlB, wcF, dyF, uk, hp, if_pos rfl, tx, tx2, h1, h2]
      have o : dlB B (nI (mkF P L j)) k (68 + k) = B (68 + k) := dlB_out (by omega)
      rw [o]
      exact ⟨rfl, rfl⟩
section ODDSC
variable {S : am_S} {d : Nat} {σ : bm_S} {M L : Nat} {B : Nat → Int32}
theorem t170 : bm_tag 172 = 0 := by decide +kernel
theorem l170 : bm_len 172 = 12 := by decide +kernel
theorem c28 (h : RW M L σ 5 B) (h6 : RW M L σ 162 B) {u : Nat → Nat} {n j : Nat} (hn : n ≤ 12) (hu : ∀ i, i < n → u i < L) (hr : ∀ i, i < n → σ.1 172 i = nI (u i)) : ∃ σ1, bm_call S (d + 2) 28 [.ref 161, .ref 5, .int (nI n), .int (nI j)] σ = some (some (.long (wcF B u j n)), σ1) ∧ RW M L σ1 162 (dyF B u j n) ∧ Fx 162 σ σ1 := by
  have hL := h.L12
  obtain ⟨⟨⟨o7, o8, o9⟩, σ1⟩, e1, p1, p2⟩ := loop_ex (fun i (s : (Option Value × Option Value × Option Value) × bm_S) => bm_run S (d + 2) 28 6 [some (.ref 161), some (.ref 5), some (.int (nI n)), some (.int (nI j)), some (.long (wcF B u j i)), none, some (.int (nI i)), s.1.1, s.1.2.1, s.1.2.2] [] s.2) (fun i s => RW M L s.2 162 (dyF B u j i) ∧ Fx 162 σ s.2) n ((none, none, none), σ) ⟨h6, Fx.rfl _ _⟩ (by
    intro i s hi hp
    obtain ⟨p1, p2⟩ := hp
    have ui := hu i hi
    have r5 : RW M L s.2 5 B := h.of (fun a _ _ => p2.1 a (by omega))
    have a1 : bm_call S (d + 1) 158 [.ref 172, .int (nI i)] s.2 = some (some (.int (nI (u i))), s.2) := by
      rw [at_row t170 l170 (by omega) (by decide), p2.1 172 (by omega), hr i hi]
    have a2 : bm_call S (d + 1) 158 [.ref 12, .int (nI (u i))] s.2 = some (some (.int (B (10 + u i))), s.2) := r5.a7 ui
    have tj : tb (nI j) i = j.testBit i := tb_nI (by omega)
    have k1 := c103 (S := S) (d := d) p1 ui
    have es : dyF B u j (i + 1) = if j.testBit i = true then upd (dyF B u j i) (68 + u i) (dyF B u j i (68 + u i) + 1) else dyF B u j i := rfl
    rw [es]
    generalize dyF B u j i = C at p1 k1
    have i9 : (5 : Nat) + 7 = 12 := rfl
    cases hb : j.testBit i
    · rw [hb] at tj
      refine ⟨((some (.int (nI (u i))), some (.int (B (10 + u i))), some (.int 0)), s.2), ?_, by simpa using p1, p2⟩
      rw [g28_6, wcF, hb]
      simp (disch := omega) only [bm_run_ite, Option.toList_some, Option.bind_some, Option.toList_some, Option.toList_none, List.cons_append, List.nil_append, List.append_nil, eq_self, not_true_eq_false, not_false_eq_true, ite_true, ite_false, ↓reduceIte, Nat.reduceLT, Nat.reduceEqDiff, Nat.reduceAdd, or_true, true_or, or_false, false_or, nI_clamp2, nI_lt0F, nI_leT, nI_leF, nI_ltT, nI_ltF, n_leF, n_leT, nI_1, kA6, kA8, kA10, kA22, kA26, kA32, kA44, kA56, kA68, kA80, kA93, kA163, kA794, not_or, or_self, and_self, and_true, true_and, g28_12, a1, g28_21, isW5.t0, i9, a2, g28_32, sh1 _ (show i < 32 by omega), tj, bI_ite, Bool.false_eq_true, g28_47, g28_48, g28_63, g28_69, g28_86]
    · rw [hb] at tj
      refine ⟨((some (.int (nI (u i))), some (.int (B (10 + u i))), some (.int 1)), bm_wi s.2 (162 + 5) (u i) (C (68 + u i) + 1)), ?_, by rw [if_pos rfl]; exact p1.w5 ui _, p2.wi (by omega) (by omega) _ _⟩
      rw [g28_6, wcF, hb]
      simp (disch := omega) only [bm_run_ite, Option.toList_some, Option.bind_some, Option.toList_some, Option.toList_none, List.cons_append, List.nil_append, List.append_nil, eq_self, not_true_eq_false, not_false_eq_true, ite_true, ite_false, ↓reduceIte, Nat.reduceLT, Nat.reduceEqDiff, Nat.reduceAdd, or_true, true_or, or_false, false_or, nI_clamp2, nI_lt0F, nI_leT, nI_leF, nI_ltT, nI_ltF, n_leF, n_leT, nI_1, kA6, kA8, kA10, kA22, kA26, kA32, kA44, kA56, kA68, kA80, kA93, kA163, kA794, not_or, or_self, and_self, and_true, true_and, g28_12, a1, g28_21, isW5.t0, i9, a2, g28_32, sh1 _ (show i < 32 by omega), tj, bI_ite, g28_43, g28_48, nz10, g28_57, g28_69, g28_77, k1, g28_86])
  replace p1 : RW M L σ1 162 (dyF B u j n) := p1
  refine ⟨σ1, ?_, p1, p2⟩
  rw [e28, g28_0]
  refine (show bm_run S (d + 2) 28 6 [some (.ref 161), some (.ref 5), some (.int (nI n)), some (.int (nI j)), some (.long 1), none, some (.int (nI 0)), none, none, none] [] σ = _ from e1).trans ?_
  rw [g28_6]
  simp (disch := omega) only [bm_run_ite, Option.toList_some, Option.bind_some, Option.toList_some, Option.toList_none, List.cons_append, List.nil_append, List.append_nil, eq_self, not_true_eq_false, not_false_eq_true, ite_true, ite_false, ↓reduceIte, Nat.reduceLT, Nat.reduceEqDiff, Nat.reduceAdd, or_true, true_or, or_false, false_or, nI_clamp2, nI_lt0F, nI_leT, nI_leF, nI_ltT, nI_ltF, n_leF, n_leT, nI_1, kA6, kA8, kA10, kA22, kA26, kA32, kA44, kA56, kA68, kA80, kA93, kA163, kA794, not_or, or_self, and_self, and_true, true_and, g28_92]
theorem mv_cond {B : Nat → Int32} {m : Option Nat} {M : Nat} (hM : M ≤ 6) (hm : ∀ k, m = some k → k < M ∧ tb (B 24) k = false) {y : Int32} (hy : ∀ k, k < 32 → tb (B 24) k = true → tb y k = true) (o12 o13 : Option Value) (n : Int32) (wl acc : Int64) (jx : Int32) (τ : bm_S) (wt : Int64) (h16 : τ.1 162 2 = y) (h5 : τ.1 5 2 = B 24) : ∃ o12b o13b, bm_run S (d + 9) 27 117 [some (.ref 161), some (.ref 2), some (.ref 5), some (.int (mvF m)), some (.int n), some (.long wl), none, some (.long acc), none, some (.int jx), some (.long wt), none, o12, o13] [] τ = bm_run S (d + 9) 27 80 [some (.ref 161), some (.ref 2), some (.ref 5), some (.int (mvF m)), some (.int n), some (.long wl), none, some (.long (acc + if cdF B m y = true then wt else 0)), none, some (.int (jx + 1)), some (.long wt), none, o12b, o13b] [] τ := by
  have ad : acc + 0 = acc := Int64.add_zero acc
  refine ⟨am_clr (some (.int (y &&& (B 24 ^^^ Int32.ofInt (-1))))), some (.int (if cdF B m y = true then 1 else 0)), ?_⟩
  have z01 : ¬ (1 : Int32) = 0 := by decide
  rw [g27_117]
  cases m with
  | none =>
    have e0 : mvF none = Int32.ofInt (-1) := rfl
    have e1 : cdF B none y = decide (y = B 24) := rfl
    have fz : (y &&& (B 24 ^^^ Int32.ofInt (-1)) = 0) ↔ y = B 24 := by
      constructor
      · intro h
        apply tb_ext
        intro l hl
        have h1 : tb (y &&& (B 24 ^^^ Int32.ofInt (-1))) l = false := by rw [h]; exact tb_0 l
        rw [tb_and, tb_xor, tb_m1 l hl] at h1
        cases q : tb (B 24) l
        · rw [q] at h1; simpa using h1
        · exact hy l hl q
      · intro h
        rw [h]
        apply tb_ext
        intro l hl
        rw [tb_0, tb_and, tb_xor, tb_m1 l hl]
        cases tb (B 24) l <;> rfl
    rw [e0, e1]
    by_cases q : y = B 24
    · have q2 := fz.mpr q
      rw [h16, h5, q2]
      simp only [bm_run_ite, Option.toList_some, Option.bind_some, Option.toList_some, Option.toList_none, List.cons_append, List.nil_append, List.append_nil, eq_self, not_true_eq_false, not_false_eq_true, ite_true, ite_false, ↓reduceIte, Nat.reduceLT, Nat.reduceEqDiff, Nat.reduceAdd, or_true, true_or, or_false, false_or, isW5.t0, g27_138, g27_143, g27_165, z01, q, decide_true, g27_172, g27_179]
    · have q2 : ¬ (y &&& (B 24 ^^^ Int32.ofInt (-1)) = 0) := fun z => q (fz.mp z)
      rw [h16, h5]
      simp only [bm_run_ite, Option.toList_some, Option.bind_some, Option.toList_some, Option.toList_none, List.cons_append, List.nil_append, List.append_nil, eq_self, not_true_eq_false, not_false_eq_true, ite_true, ite_false, ↓reduceIte, Nat.reduceLT, Nat.reduceEqDiff, Nat.reduceAdd, or_true, true_or, or_false, false_or, isW5.t0, g27_138, q2, g27_147, g27_165, q, decide_false, Bool.false_eq_true, g27_179, ad]
  | some k =>
    obtain ⟨hk, hb⟩ := hm k rfl
    have e0 : mvF (some k) = nI k := rfl
    have e1 : cdF B (some k) y = tb y k := rfl
    have n1 := nm1 (show k < 2147483648 by omega)
    have tf : tb (y &&& (B 24 ^^^ Int32.ofInt (-1))) k = tb y k := by
      rw [tb_and, tb_xor, tb_m1 k (by omega), hb]; simp
    rw [e0, e1, h16, h5]
    cases q : tb y k
    · rw [q] at tf
      simp only [bm_run_ite, Option.toList_some, Option.bind_some, Option.toList_some, Option.toList_none, List.cons_append, List.nil_append, List.append_nil, eq_self, not_true_eq_false, not_false_eq_true, ite_true, ite_false, ↓reduceIte, Nat.reduceLT, Nat.reduceEqDiff, Nat.reduceAdd, or_true, true_or, or_false, false_or, isW5.t0, n1, g27_151, sh1 _ (show k < 32 by omega), tf, bI_ite, g27_164, g27_165, Bool.false_eq_true, g27_179, ad]
    · rw [q] at tf
      simp only [bm_run_ite, Option.toList_some, Option.bind_some, Option.toList_some, Option.toList_none, List.cons_append, List.nil_append, List.append_nil, eq_self, not_true_eq_false, not_false_eq_true, ite_true, ite_false, ↓reduceIte, Nat.reduceLT, Nat.reduceEqDiff, Nat.reduceAdd, or_true, true_or, or_false, false_or, isW5.t0, n1, g27_151, sh1 _ (show k < 32 by omega), tf, bI_ite, g27_160, g27_165, z01, g27_172, g27_179]
theorem c27 (h : RW M L σ 5 B) (hb : BK σ 2 B) (hg : GA M L B) (m : Option Nat) (hm : ∀ k, m = some k → k < M ∧ tb (B 24) k = false) : ∃ σ1, bm_call S (d + 9) 27 [.ref 161, .ref 2, .ref 5, .int (mvF m)] σ = some (some (.int (odR M L B m)), σ1) ∧ Kp σ σ1 := by
  have hM := h.M6
  have hL := h.L12
  have o : ob 2 162 := by unfold ob; omega
  have p12 := pow12 hL
  have cnl := cnD_n (puF B) L
  -- who may be late
  obtain ⟨g, e1, p1⟩ := loop_ex (fun k (g : Nat → Int32) => bm_run S (d + 9) 27 9 [some (.ref 161), some (.ref 2), some (.ref 5), some (.int (mvF m)), some (.int (nI (cnD (puF B) k))), some (.long (tnF (cnD (puF B) k))), none, some (.int (nI k)), none, none, none, none, none, none] [] (bm_row σ 172 g)) (fun k g => ∀ l, l < k → puF B l = true → g (cnD (puF B) l) = nI l) L (σ.1 172) (fun l hl => absurd hl (by omega)) (by
    intro k g hk hp
    have r5 : RW M L (bm_row σ 172 g) 5 B := h.of (fun a _ _ => bm_row_1n _ _ (by omega))
    have a7 : bm_call S (d + 8) 158 [.ref 12, .int (nI k)] (bm_row σ 172 g) = some (some (.int (B (10 + k))), bm_row σ 172 g) := r5.a7 hk
    have i9 : (5 : Nat) + 7 = 12 := rfl
    have ck := cnD_n (puF B) k
    cases hd : dB B (B 22) k
    · have hpk : puF B k = false := by unfold puF; rw [hd]; rfl
      have e : cnD (puF B) (k + 1) = cnD (puF B) k := by rw [cnD, hpk]; rfl
      refine ⟨g, ?_, fun l hl hq => ?_⟩
      · rw [g27_9, e]
        simp (disch := omega) only [bm_run_ite, Option.toList_some, Option.bind_some, Option.toList_some, Option.toList_none, List.cons_append, List.nil_append, List.append_nil, eq_self, not_true_eq_false, not_false_eq_true, ite_true, ite_false, ↓reduceIte, Nat.reduceLT, Nat.reduceEqDiff, Nat.reduceAdd, or_true, true_or, or_false, false_or, nI_clamp2, nI_lt0F, nI_leT, nI_leF, nI_ltT, nI_ltF, n_leF, n_leT, nI_1, kA6, kA8, kA10, kA22, kA26, kA32, kA44, kA56, kA68, kA80, kA93, kA163, kA794, not_or, or_self, and_self, and_true, true_and, r5.t, r5.f1, g27_18, r5.f3, c82n r5 hk, hd, g27_28, bI_ite, Bool.false_eq_true, g27_68]
      · by_cases z : l = k
        · rw [z, hpk] at hq; cases hq
        · exact hp l (by omega) hq
    · by_cases q : 0 < B (10 + k)
      · have hpk : puF B k = true := by unfold puF; rw [hd]; simp [q]
        have e : cnD (puF B) (k + 1) = cnD (puF B) k + 1 := by rw [cnD, hpk]; rfl
        have sr := set_row (S := S) (d := d + 8) (σ := bm_row σ 172 g) t170 l170 (show cnD (puF B) k < 12 by omega) (by decide) (nI k)
        rw [wi_row] at sr
        refine ⟨upd g (cnD (puF B) k) (nI k), ?_, fun l hl hq => ?_⟩
        · rw [g27_9, e, tnF]
          simp (disch := omega) only [bm_run_ite, Option.toList_some, Option.bind_some, Option.toList_some, Option.toList_none, List.cons_append, List.nil_append, List.append_nil, eq_self, not_true_eq_false, not_false_eq_true, ite_true, ite_false, ↓reduceIte, Nat.reduceLT, Nat.reduceEqDiff, Nat.reduceAdd, or_true, true_or, or_false, false_or, nI_clamp2, nI_lt0F, nI_leT, nI_leF, nI_ltT, nI_ltF, n_leF, n_leT, nI_1, kA6, kA8, kA10, kA22, kA26, kA32, kA44, kA56, kA68, kA80, kA93, kA163, kA794, not_or, or_self, and_self, and_true, true_and, r5.t, r5.f1, g27_18, r5.f3, c82n r5 hk, hd, g27_28, bI_ite, g27_31, i9, a7, g27_40, q, g27_46, sr, g27_57, g27_68]
        · by_cases z : l = k
          · rw [z, upd_s]
          · have := cnD_lt2 (show l < k by omega) hq
            rw [upd_n _ _ (by omega)]; exact hp l (by omega) hq
      · have hpk : puF B k = false := by unfold puF; rw [hd]; simp [q]
        have e : cnD (puF B) (k + 1) = cnD (puF B) k := by rw [cnD, hpk]; rfl
        refine ⟨g, ?_, fun l hl hq => ?_⟩
        · rw [g27_9, e]
          simp (disch := omega) only [bm_run_ite, Option.toList_some, Option.bind_some, Option.toList_some, Option.toList_none, List.cons_append, List.nil_append, List.append_nil, eq_self, not_true_eq_false, not_false_eq_true, ite_true, ite_false, ↓reduceIte, Nat.reduceLT, Nat.reduceEqDiff, Nat.reduceAdd, or_true, true_or, or_false, false_or, nI_clamp2, nI_lt0F, nI_leT, nI_leF, nI_ltT, nI_ltF, n_leF, n_leT, nI_1, kA6, kA8, kA10, kA22, kA26, kA32, kA44, kA56, kA68, kA80, kA93, kA163, kA794, not_or, or_self, and_self, and_true, true_and, r5.t, r5.f1, g27_18, r5.f3, c82n r5 hk, hd, g27_28, bI_ite, g27_31, i9, a7, g27_40, q, g27_43, g27_68]
        · by_cases z : l = k
          · rw [z, hpk] at hq; cases hq
          · exact hp l (by omega) hq)
  rw [bm_row_self] at e1
  generalize hρ : bm_row σ 172 g = ρ at e1
  have ρn : ∀ a, a ≠ 172 → ρ.1 a = σ.1 a := fun a ha => by rw [← hρ]; exact bm_row_1n _ _ ha
  have ρ170 : ρ.1 172 = g := by rw [← hρ, row_row1]
  have r5 : RW M L ρ 5 B := h.of (fun a _ _ => ρn a (by omega))
  have hbρ : BK ρ 2 B := hb.of (ρn 2 (by omega)) (ρn 3 (by omega))
  have hun : ∀ i, i < cnD (puF B) L → ∃ l, l < L ∧ puF B l = true ∧ cnD (puF B) l = i ∧ g i = nI l := by
    intro i hi
    obtain ⟨l, h1, h2, h3⟩ := cnD_surj hi
    exact ⟨l, h1, h2, h3, by rw [← h3]; exact p1 l h1 h2⟩
  have hu : ∀ i, i < cnD (puF B) L → cN (g i) < L ∧ g i = nI (cN (g i)) := by
    intro i hi
    obtain ⟨l, h1, _, _, e⟩ := hun i hi
    rw [e, cN_nI (by omega)]
    exact ⟨h1, rfl⟩
  have hul : ∀ l, l < L → puF B l = true → cN (g (cnD (puF B) l)) = l := by
    intro l h1 h2
    rw [p1 l h1 h2, cN_nI (by omega)]
  obtain ⟨⟨⟨o10, o12, o13⟩, σ2⟩, e2, f2⟩ := loop_ex (fun j (s : (Option Value × Option Value × Option Value) × bm_S) => bm_run S (d + 9) 27 80 [some (.ref 161), some (.ref 2), some (.ref 5), some (.int (mvF m)), some (.int (nI (cnD (puF B) L))), some (.long (tnF (cnD (puF B) L))), none, some (.long (smL (fun j => odG M L B m (mkF (puF B) L j)) j)), none, some (.int (nI j)), s.1.1, none, s.1.2.1, s.1.2.2] [] s.2) (fun _ s => Fb 162 2 ρ s.2) (2 ^ cnD (puF B) L) ((none, none, none), ρ) (Fb.rfl _ _ _) (by
    intro j s hj fs
    have pn : 2 ^ cnD (puF B) L ≤ 2 ^ L := Nat.pow_le_pow_right (by decide) cnl
    have rr5 : RW M L s.2 5 B := fs.RWo (by omega) (by omega) r5
    have bb : BK s.2 2 B := fs.BK o hbρ
    obtain ⟨s1, k1, f1, w1⟩ := c77 (S := S) (d := d + 6) (σ := s.2) isW5 w160 (by decide)
    have rr1 : RW M L s1 5 B := rr5.of (fun a _ _ => f1.1 a (by omega))
    have hr1 : ∀ i, i < cnD (puF B) L → s1.1 172 i = nI (cN (g i)) := by
      intro i hi
      rw [f1.1 172 (by omega), fs.1 172 (by omega) (by omega), ρ170]
      exact (hu i hi).2
    obtain ⟨s2, k2, r2, f2⟩ := c28 (S := S) (d := d + 6) rr1 (w1 rr5) (u := fun i => cN (g i)) (n := cnD (puF B) L) (j := j) (by omega) (fun i hi => (hu i hi).1) hr1
    obtain ⟨l1, l2⟩ := link (B := B) (P := puF B) (u := fun i => cN (g i)) (L := L) (j := j) hL hul L (Nat.le_refl L)
    rw [l1] at k2
    rw [l2] at r2
    have hX : ∀ l, l < L → tb (nI (mkF (puF B) L j)) l = true → dB B (B 22) l = true := by
      intro l hl q
      rw [tb_nI (by omega), mkF_bit _ _ _ _ hl, Bool.and_eq_true] at q
      have := q.1
      unfold puF at this
      rw [Bool.and_eq_true] at this
      exact this.1
    have ag : agL B (dlB B (nI (mkF (puF B) L j)) L) := fun i hi => dlB_out (by omega)
    have f12 := f1.b (b := 2) |>.tr f2.b
    obtain ⟨s3, k3, r3, f3⟩ := c101h (S := S) (d := d + 4) r2 o (agL_bk (f12.BK o bb) ag) (agL_GW hM hL hg.1 ag) false
    replace k3 : bm_call S (d + 8) 101 [.ref 162, .ref 2, .int 0] s2 = some (none, s3) := k3
    have f13 := f12.tr f3
    have e24 : hoB M L (dlB B (nI (mkF (puF B) L j)) L) false 24 = lbB M L B (nI (mkF (puF B) L j)) := late_faB hM hL (late_ltR hL hX) 24 (by omega)
    have q16 : s3.1 162 2 = lbB M L B (nI (mkF (puF B) L j)) := r3.f2.trans e24
    have q5 : s3.1 5 2 = B 24 := by rw [f13.1 5 (by omega) (by omega)]; exact rr5.f2
    have es : smL (fun j => odG M L B m (mkF (puF B) L j)) (j + 1) = smL (fun j => odG M L B m (mkF (puF B) L j)) j + odG M L B m (mkF (puF B) L j) := rfl
    rw [es]
    generalize smL (fun j => odG M L B m (mkF (puF B) L j)) j = acc
    obtain ⟨o12b, o13b, kc⟩ := mv_cond (S := S) (d := d) (m := m) hM hm (y := lbB M L B (nI (mkF (puF B) L j))) (fun k hk hq => lbB_up hM hL _ hk hq) s.1.2.1 s.1.2.2 (nI (cnD (puF B) L)) (tnF (cnD (puF B) L)) acc (nI j) s3 (wtF B (puF B) (mkF (puF B) L j) L) q16 q5
    refine ⟨((some (.long (wtF B (puF B) (mkF (puF B) L j) L)), o12b, o13b), s3), ?_, fs.tr f13⟩
    have nle : ¬ bt (cnD (puF B) L) ≤ nI j := by rw [bt_pow _ (by omega)]; exact nI_ge hj (by omega)
    have bk : (1 : Int32) <<< (nI (cnD (puF B) L) &&& 31) = bt (cnD (puF B) L) := rfl
    rw [g27_80]
    simp only [bm_run_ite, Option.toList_some, Option.bind_some, Option.toList_some, Option.toList_none, List.cons_append, List.nil_append, List.append_nil, eq_self, not_true_eq_false, not_false_eq_true, ite_true, ite_false, ↓reduceIte, Nat.reduceLT, Nat.reduceEqDiff, Nat.reduceAdd, or_true, true_or, or_false, false_or, bk, nle, g27_89, k1, g27_97, k2, g27_106, k3]
    rw [kc, nI_1]
    rfl)
  replace f2 : Fb 162 2 ρ σ2 := f2
  have ss := sub_sum (puF B) L (odG M L B m)
  refine ⟨σ2, ?_, ?_⟩
  · rw [e27, g27_0]
    refine (show bm_run S (d + 9) 27 9 [some (.ref 161), some (.ref 2), some (.ref 5), some (.int (mvF m)), some (.int (nI (cnD (puF B) 0))), some (.long (tnF (cnD (puF B) 0))), none, some (.int (nI 0)), none, none, none, none, none, none] [] σ = _ from e1).trans ?_
    rw [g27_9]
    simp (disch := omega) only [bm_run_ite, Option.toList_some, Option.bind_some, Option.toList_some, Option.toList_none, List.cons_append, List.nil_append, List.append_nil, eq_self, not_true_eq_false, not_false_eq_true, ite_true, ite_false, ↓reduceIte, Nat.reduceLT, Nat.reduceEqDiff, Nat.reduceAdd, or_true, true_or, or_false, false_or, nI_clamp2, nI_lt0F, nI_leT, nI_leF, nI_ltT, nI_ltF, n_leF, n_leT, nI_1, kA6, kA8, kA10, kA22, kA26, kA32, kA44, kA56, kA68, kA80, kA93, kA163, kA794, not_or, or_self, and_self, and_true, true_and, r5.t, r5.f1, g27_74]
    refine (show bm_run S (d + 9) 27 80 [some (.ref 161), some (.ref 2), some (.ref 5), some (.int (mvF m)), some (.int (nI (cnD (puF B) L))), some (.long (tnF (cnD (puF B) L))), none, some (.long 0), none, some (.int (nI 0)), none, none, none, none] [] ρ = _ from e2).trans ?_
    have pn : 2 ^ cnD (puF B) L ≤ 2 ^ L := Nat.pow_le_pow_right (by decide) cnl
    have bk : (1 : Int32) <<< (nI (cnD (puF B) L) &&& 31) = bt (cnD (puF B) L) := rfl
    have le : bt (cnD (puF B) L) ≤ nI (2 ^ cnD (puF B) L) := by rw [bt_pow _ (by omega)]; exact Int32.le_refl _
    have t0 := tnF_0 (cnD (puF B) L) (by omega)
    rw [g27_80]
    simp only [bm_run_ite, Option.toList_some, Option.bind_some, Option.toList_some, Option.toList_none, List.cons_append, List.nil_append, List.append_nil, eq_self, not_true_eq_false, not_false_eq_true, ite_true, ite_false, ↓reduceIte, Nat.reduceLT, Nat.reduceEqDiff, Nat.reduceAdd, or_true, true_or, or_false, false_or, bk, le, g27_185, c160, t0, g27_196, ss]
    rfl
  · have k1 : Kp σ ρ := by rw [← hρ]; exact (Kp.rfl σ).row (by unfold Sc; omega) g
    exact k1.tr (f2.kp (by omega))
theorem p_calm (h : RS M L σ) : PR S (d + 10) 139 268 [] σ := by
  have hg := h.ga
  generalize hB : σ.1 219 = B at hg
  refine PR.ofk (v := .int (odR M L B none)) h ?_ ?_
  · have hr := h.rw
    have hb := h.bk
    rw [hB] at hr hb
    obtain ⟨σ1, k1, kp⟩ := c27 (S := S) (d := d) hr hb hg none (fun k hk => by cases hk)
    replace k1 : bm_call S (d + 9) 27 [.ref 161, .ref 2, .ref 5, .int (Int32.ofInt (-1))] σ = some (some (.int (odR M L B none)), σ1) := k1
    exact ⟨σ1, by simp only [e139, g139_0, g139_16, bm_run_ite, Option.toList_some, Option.bind_some, Option.toList_some, Option.toList_none, List.cons_append, List.nil_append, List.append_nil, eq_self, not_true_eq_false, not_false_eq_true, ite_true, ite_false, ↓reduceIte, Nat.reduceLT, Nat.reduceEqDiff, Nat.reduceAdd, or_true, true_or, or_false, false_or, k1], kp⟩
  · intro τ k
    obtain ⟨hτ, eB⟩ := h.kB k
    have e0 : (bm_wi τ 218 0 0).1 219 = B := (t0_B τ).trans (eB.trans hB)
    obtain ⟨σ1, k1, kp⟩ := m267 (S := S) (d := d + 1) hτ.t0.mr e0 hg none (fun k hk => by cases hk)
    replace k1 : bm_call S (d + 9) 267 [.ref 218, .int (Int32.ofInt (-1))] (bm_wi τ 218 0 0) = some (some (.int (odR M L B none)), σ1) := k1
    exact ⟨σ1, by simp only [e268, g268_0, g268_10, bm_run_ite, Option.toList_some, Option.bind_some, Option.toList_some, Option.toList_none, List.cons_append, List.nil_append, List.append_nil, eq_self, not_true_eq_false, not_false_eq_true, ite_true, ite_false, ↓reduceIte, Nat.reduceLT, Nat.reduceEqDiff, Nat.reduceAdd, or_true, true_or, or_false, false_or, k1], (kp_t0 τ).tr kp⟩
theorem p_danger (h : RS M L σ) (i : Int32) : PR S (d + 10) 140 269 [.int i] σ := by
  have hM := h.rw.M6
  have hg := h.ga
  have hr := h.rw
  have hb := h.bk
  generalize hB : σ.1 219 = B at hg hr hb
  cases hi : hasI i M
  · refine PR.ofk (v := .int (Int32.ofInt (-2))) h ⟨σ, by simp (decide := true) only [e140, g140_0, g140_8, g140_11, g140_14, g140_22, g140_25, g140_28, g140_44, bm_run_ite, Option.toList_some, Option.bind_some, Option.toList_some, Option.toList_none, List.cons_append, List.nil_append, List.append_nil, eq_self, not_true_eq_false, not_false_eq_true, ite_true, ite_false, ↓reduceIte, Nat.reduceLT, Nat.reduceEqDiff, Nat.reduceAdd, or_true, true_or, or_false, false_or, c78 hr, hi, bI_itn, Bool.false_eq_true], Kp.rfl σ⟩ ?_
    intro τ k
    exact ⟨_, by simp (decide := true) only [e269, g269_0, g269_11, g269_14, g269_19, g269_24, g269_27, g269_32, g269_37, bm_run_ite, Option.toList_some, Option.bind_some, Option.toList_some, Option.toList_none, List.cons_append, List.nil_append, List.append_nil, eq_self, not_true_eq_false, not_false_eq_true, ite_true, ite_false, ↓reduceIte, Nat.reduceLT, Nat.reduceEqDiff, Nat.reduceAdd, or_true, true_or, or_false, false_or, m193i (h.kB k).1.t0.mr, hi, bI_itn, Bool.false_eq_true], kp_t0 τ⟩
  obtain ⟨m, hm, rfl⟩ := hasI_of hi (by omega)
  cases hq : tb (B 24) m
  case true =>
    refine PR.ofk (v := .int (Int32.ofInt (-5))) h ⟨σ, by simp (decide := true) only [e140, g140_0, g140_8, g140_11, g140_14, g140_22, g140_25, g140_28, g140_44, bm_run_ite, Option.toList_some, Option.bind_some, Option.toList_some, Option.toList_none, List.cons_append, List.nil_append, List.append_nil, eq_self, not_true_eq_false, not_false_eq_true, ite_true, ite_false, ↓reduceIte, Nat.reduceLT, Nat.reduceEqDiff, Nat.reduceAdd, or_true, true_or, or_false, false_or, c78 hr, hi, bI_itn, bI_ite, c80 hr (show m < 32 by omega), hq], Kp.rfl σ⟩ ?_
    intro τ k
    have e0 : (bm_wi τ 218 0 0).1 219 = B := (t0_B τ).trans ((h.kB k).2.trans hB)
    exact ⟨_, by simp (decide := true) only [e269, g269_0, g269_11, g269_14, g269_19, g269_24, g269_27, g269_32, g269_37, bm_run_ite, Option.toList_some, Option.bind_some, Option.toList_some, Option.toList_none, List.cons_append, List.nil_append, List.append_nil, eq_self, not_true_eq_false, not_false_eq_true, ite_true, ite_false, ↓reduceIte, Nat.reduceLT, Nat.reduceEqDiff, Nat.reduceAdd, or_true, true_or, or_false, false_or, m193i (h.kB k).1.t0.mr, hi, bI_itn, bI_ite, m196 (show m < 32 by omega), e0, hq], kp_t0 τ⟩
  refine PR.ofk (v := .int (odR M L B (some m))) h ?_ ?_
  · obtain ⟨σ1, k1, kp⟩ := c27 (S := S) (d := d) hr hb hg (some m) (fun k hk => by cases hk; exact ⟨hm, hq⟩)
    replace k1 : bm_call S (d + 9) 27 [.ref 161, .ref 2, .ref 5, .int (nI m)] σ = some (some (.int (odR M L B (some m))), σ1) := k1
    exact ⟨σ1, by simp (decide := true) only [e140, g140_0, g140_8, g140_11, g140_14, g140_22, g140_25, g140_28, g140_44, bm_run_ite, Option.toList_some, Option.bind_some, Option.toList_some, Option.toList_none, List.cons_append, List.nil_append, List.append_nil, eq_self, not_true_eq_false, not_false_eq_true, ite_true, ite_false, ↓reduceIte, Nat.reduceLT, Nat.reduceEqDiff, Nat.reduceAdd, or_true, true_or, or_false, false_or, c78 hr, hi, bI_itn, bI_ite, c80 hr (show m < 32 by omega), hq, k1], kp⟩
  · intro τ k
    obtain ⟨hτ, eB⟩ := h.kB k
    have e0 : (bm_wi τ 218 0 0).1 219 = B := (t0_B τ).trans (eB.trans hB)
    obtain ⟨σ1, k1, kp⟩ := m267 (S := S) (d := d + 1) hτ.t0.mr e0 hg (some m) (fun k hk => by cases hk; exact hm)
    replace k1 : bm_call S (d + 9) 267 [.ref 218, .int (nI m)] (bm_wi τ 218 0 0) = some (some (.int (odR M L B (some m))), σ1) := k1
    exact ⟨σ1, by simp (decide := true) only [e269, g269_0, g269_11, g269_14, g269_19, g269_24, g269_27, g269_32, g269_37, bm_run_ite, Option.toList_some, Option.bind_some, Option.toList_some, Option.toList_none, List.cons_append, List.nil_append, List.append_nil, eq_self, not_true_eq_false, not_false_eq_true, ite_true, ite_false, ↓reduceIte, Nat.reduceLT, Nat.reduceEqDiff, Nat.reduceAdd, or_true, true_or, or_false, false_or, m193i hτ.t0.mr, hi, bI_itn, bI_ite, m196 (show m < 32 by omega), e0, hq, k1], (kp_t0 τ).tr kp⟩
end ODDSC
