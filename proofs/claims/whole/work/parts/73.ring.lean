/-! rings told -/
theorem loop_allx {β γ : Type} (F : Nat → γ → β) (P : Nat → γ → Prop) (ok : Nat → Bool) (b : β) (n : Nat) (s0 : γ) (h0 : P 0 s0) (hs : ∀ k s, k < n → P k s → (ok k = true → ∃ s1, F k s = F (k + 1) s1 ∧ P (k + 1) s1) ∧ (ok k = false → F k s = b)) : ((List.range n).all ok = true ∧ ∃ s1, F 0 s0 = F n s1 ∧ P n s1) ∨ ((List.range n).all ok = false ∧ F 0 s0 = b) := by
  induction n with
  | zero => exact Or.inl ⟨rfl, s0, rfl, h0⟩
  | succ n ih =>
    rcases ih (fun k s hk => hs k s (by omega)) with ⟨a1, s1, e1, p1⟩ | ⟨a1, e1⟩
    · obtain ⟨x1, x2⟩ := hs n s1 (by omega) p1
      rw [List.range_succ, List.all_append]
      cases q : ok n
      · exact Or.inr ⟨by simp [q], e1.trans (x2 q)⟩
      · obtain ⟨s2, e2, p2⟩ := x1 q
        exact Or.inl ⟨by simp [q, a1], s2, e1.trans e2, p2⟩
    · rw [List.range_succ, List.all_append]
      exact Or.inr ⟨by rw [a1]; rfl, e1⟩
def usF (f : Nat → Nat) : Nat → Int32
  | 0 => 0
  | k + 1 => usF f k ||| bt (f k)
def nwF (f : Nat → Nat) (k : Nat) : Bool := (List.range k).all (fun i => !decide (f i = f k))
theorem usF_tb {f : Nat → Nat} {l : Nat} (hl : l < 32) : ∀ k, (∀ i, i < k → f i < 32) → tb (usF f k) l = !(List.range k).all (fun i => !decide (f i = l)) := by
  intro k
  induction k with
  | zero => intro _; exact tb_0 l
  | succ k ih =>
    intro h
    rw [usF, tb_or, ih (fun i hi => h i (by omega)), tb_bt _ (h k (by omega)) l hl, List.range_succ, List.all_append]
    by_cases q : f k = l
    · simp [q]
    · have q2 : ¬ l = f k := fun z => q z.symm
      simp [q, q2]
def rgK (B : Nat → Int32) (f : Nat → Nat) (n k : Nat) : Bool := oB B (f k) && nwF f k && decide (B (44 + f k) = B (32 + f (if k + 1 < n then k + 1 else 0)))
def rgB (B : Nat → Int32) (f : Nat → Nat) (n : Nat) : Bool := (List.range n).all (rgK B f n)
def lsF (B : Nat → Int32) (f : Nat → Nat) (s : Int32) : Nat → Int32
  | 0 => s
  | k + 1 => if B (56 + f k) < lsF B f s k then B (56 + f k) else lsF B f s k
def csS (f : Nat → Nat) (v : Int32) (C : Nat → Int32) (k : Nat) : Nat → Int32 := if C (56 + f k) - v = 0 then upd (upd C (56 + f k) (C (56 + f k) - v)) (80 + f k) 1 else upd C (56 + f k) (C (56 + f k) - v)
/-- a ring is cancelled -/
def csB (B : Nat → Int32) (f : Nat → Nat) (n : Nat) : Nat → Int32 := itR (csS f (lsF B f 999999 n)) B n
theorem lsF_eq {B : Nat → Int32} {f : Nat → Nat} {L : Nat} (gm : GM L B) : ∀ n, 1 ≤ n → (∀ k, k < n → f k < L) → lsF B f 999 n = lsF B f 999999 n := by
  intro n
  induction n with
  | zero => intro h; omega
  | succ n ih =>
    intro _ hf
    rcases Nat.eq_zero_or_pos n with q | q
    · subst q
      obtain ⟨y, hy, ey⟩ := gm (f 0) (hf 0 (by omega))
      show (if B (56 + f 0) < 999 then B (56 + f 0) else 999) = (if B (56 + f 0) < 999999 then B (56 + f 0) else 999999)
      rw [ey]
      have h2 : nI y < 999999 := nI_lt (b := 999999) (by omega) (by decide)
      rw [if_pos h2]
      rcases Nat.lt_or_ge y 999 with w | w
      · rw [if_pos (show nI y < 999 from nI_lt (b := 999) w (by decide))]
      · have : y = 999 := by omega
        subst this
        rfl
    · rw [lsF, lsF, ih q (fun k hk => hf k (by omega))]
theorem lsF_le {B : Nat → Int32} {f : Nat → Nat} {L : Nat} (gm : GM L B) : ∀ n, (∀ k, k < n → f k < L) → ∃ z, z ≤ 999999 ∧ lsF B f 999999 n = nI z ∧ ∀ k, k < n → ∀ y, y ≤ 999 → B (56 + f k) = nI y → z ≤ y := by
  intro n
  induction n with
  | zero => intro _; exact ⟨999999, by omega, rfl, fun k hk => by omega⟩
  | succ n ih =>
    intro hf
    obtain ⟨z, hz, ez, hk⟩ := ih (fun k hk => hf k (by omega))
    obtain ⟨y, hy, ey⟩ := gm (f n) (hf n (by omega))
    have uq : ∀ y2, y2 ≤ 999 → B (56 + f n) = nI y2 → y2 = y := by
      intro y2 h2 e2
      exact (nI_eq (by omega) (by omega)).mp (e2.symm.trans ey)
    rw [lsF, ez, ey]
    by_cases q : nI y < nI z
    · have q1 : y < z := (nI_ltI (by omega) (by omega)).mp q
      refine ⟨y, by omega, by rw [if_pos q], fun k hk2 y2 h2 e2 => ?_⟩
      by_cases e : k = n
      · subst e; rw [uq y2 h2 e2]; exact Nat.le_refl _
      · have := hk k (by omega) y2 h2 e2; omega
    · have q1 : ¬ y < z := fun w => q (nI_lt w (by omega))
      refine ⟨z, hz, by rw [if_neg q], fun k hk2 y2 h2 e2 => ?_⟩
      by_cases e : k = n
      · subst e; rw [uq y2 h2 e2]; omega
      · exact hk k (by omega) y2 h2 e2
theorem OKB.mu {M L : Nat} {B : Nat → Int32} (h : OKB M L B) {l k : Nat} (hl : l < L) (hk : k ≤ 999) : OKB M L (upd B (56 + l) (nI k)) := by
  have h0 := h
  obtain ⟨⟨⟨hl0, go, gm, gc⟩, nb, bm⟩, z, lt, ⟨h1, h2, h3, h4⟩, hn, hf, sc⟩ := h0
  have e : ∀ i, i ≠ 56 + l → upd B (56 + l) (nI k) i = B i := fun i hi => upd_n _ _ hi
  have es : upd B (56 + l) (nI k) (56 + l) = nI k := upd_s _ _ _
  generalize upd B (56 + l) (nI k) = C at *
  have hc : ∀ p j, cdB C p j = cdB B p j := fun p j => e _ (by omega)
  have ht : ∀ p n, tyF C p n = tyF B p n := by
    intro p n
    induction n with
    | zero => rfl
    | succ n ih => rw [tyF, tyF, ih, hc]
  refine ⟨⟨⟨?_, ?_, ?_, ?_⟩, ?_, ?_⟩, ?_, ?_, ⟨h1, h2, ?_, ?_⟩, ?_, ?_, sc.cg (fun i hi => e _ (by omega))⟩
  · unfold LW wfL at hl0 ⊢
    simp only [hc, ht]
    rw [e 1 (by omega), e 4 (by omega), e 5 (by omega), e 6 (by omega), e 7 (by omega), e 8 (by omega), e 9 (by omega)]
    exact hl0
  · intro j hj
    obtain ⟨a, b, ha, hb, hab, ea, eb⟩ := go j hj
    exact ⟨a, b, ha, hb, hab, by rw [e _ (by omega)]; exact ea, by rw [e _ (by omega)]; exact eb⟩
  · intro j hj
    by_cases q : j = l
    · subst q; exact ⟨k, hk, es⟩
    · obtain ⟨y, hy, ey⟩ := gm j hj
      exact ⟨y, hy, by rw [e _ (by omega)]; exact ey⟩
  · intro j hj
    obtain ⟨y, hy, ey⟩ := gc j hj
    exact ⟨y, hy, by rw [e _ (by omega)]; exact ey⟩
  · intro j hj ho m hm hb
    rw [e 24 (by omega)] at hb
    unfold tou oB at *
    rw [e _ (by omega)] at ho
    rw [e _ (by omega), e _ (by omega)]
    exact nb j hj ho m hm hb
  · intro j hj hk; rw [e _ (by omega)]; exact bm j hj hk
  · intro j q1 q2; rw [e _ (by omega)]; exact z j q1 q2
  · intro j hj
    obtain ⟨x, q1, q2⟩ := lt j hj
    exact ⟨x, q1, by rw [e _ (by omega)]; exact q2⟩
  · rw [e _ (by omega)]; exact h3
  · rw [e _ (by omega)]; exact h4
  · rw [e _ (by omega)]; exact hn
  · rw [e _ (by omega)]; exact hf
theorem csS_out {f : Nat → Nat} {v : Int32} {C : Nat → Int32} {k i : Nat} (h : i ≠ 56 + f k ∧ i ≠ 80 + f k) : csS f v C k i = C i := by
  unfold csS
  split
  · rw [upd_n _ _ h.2, upd_n _ _ h.1]
  · rw [upd_n _ _ h.1]
theorem csB_out {B : Nat → Int32} {f : Nat → Nat} {n : Nat} {v : Int32} {L : Nat} (hL : L ≤ 12) (hf : ∀ k, k < n → f k < L) {i : Nat} (h : i < 56 ∨ (68 ≤ i ∧ i < 80) ∨ 92 ≤ i) : itR (csS f v) B n i = B i := by
  refine itR_out (fun C l hl => csS_out ?_)
  have := hf l hl
  omega
theorem nwF_ne {f : Nat → Nat} {i k : Nat} (h : nwF f k = true) (hi : i < k) : f i ≠ f k := by
  unfold nwF at h
  rw [List.all_eq_true] at h
  have := h i (List.mem_range.mpr hi)
  simpa using this
theorem OKB.cs {M L : Nat} {B : Nat → Int32} (h : OKB M L B) {f : Nat → Nat} {n : Nat} (hf : ∀ k, k < n → f k < L) (inj : ∀ k, k < n → nwF f k = true) : OKB M L (csB B f n) := by
  obtain ⟨z, hz, ez, hk⟩ := lsF_le h.1.1.2.2.1 n hf
  unfold csB
  rw [ez]
  have gm := h.1.1.2.2.1
  have hL := h.2.2.2.1.2.1
  have main : ∀ k, k ≤ n → OKB M L (itR (csS f (nI z)) B k) := by
    intro k
    induction k with
    | zero => intro _; exact h
    | succ k ih =>
      intro hkn
      have h1 := ih (by omega)
      have fk := hf k (by omega)
      have e56 : itR (csS f (nI z)) B k (56 + f k) = B (56 + f k) := by
        refine itR_out (fun C l hl => csS_out ?_)
        have := nwF_ne (inj k (by omega)) hl
        have := hf l (by omega)
        omega
      obtain ⟨y, hy, ey⟩ := gm (f k) fk
      have zy := hk k (by omega) y hy ey
      have e9 : ∀ {C : Nat → Int32}, itR (csS f (nI z)) B k = C → itR (csS f (nI z)) B (k + 1) = csS f (nI z) C k := fun q => by rw [itR, q]
      generalize hC : itR (csS f (nI z)) B k = C at h1 e56
      rw [e9 hC]
      unfold csS
      rw [e56, ey, nI_sub zy]
      have h2 := h1.mu fk (k := y - z) (by omega)
      split
      · exact h2.how fk (by decide)
      · exact h2
  exact main n (Nat.le_refl n)
section RING
variable {S : am_S} {d : Nat} {σ : bm_S} {M L w : Nat} {B : Nat → Int32}
theorem t147 : bm_tag 147 = 0 := by decide +kernel
theorem l147 : bm_len 147 = 6 := by decide +kernel
theorem c98 (h : RW M L σ w B) {f : Nat → Nat} {n : Nat} (h1 : 1 ≤ n) (h6 : n ≤ 6) (hf : ∀ k, k < n → f k < L) (hr : ∀ k, k < n → σ.1 147 k = nI (f k)) : bm_call S (d + 2) 98 [.ref w, .ref 147, .int (nI n)] σ = some (some (.int (bI (rgB B f n))), σ) := by
  have hL := h.L12
  have ar : ∀ k, k < n → bm_call S (d + 1) 158 [.ref 147, .int (nI k)] σ = some (some (.int (nI (f k))), σ) := by
    intro k hk
    rw [at_row t147 l147 (by omega) (by decide), hr k hk]
  have step := loop_allx (fun k (s : Option Value × Option Value) => bm_run S (d + 2) 98 5 [some (.ref w), some (.ref 147), some (.int (nI n)), some (.int (usF f k)), some (.int (nI k)), s.1, s.2] [] σ) (fun _ _ => True) (rgK B f n) (some (some (.int 0), σ)) n (none, none) trivial (by
    intro k s hk _
    have fk := hf k hk
    obtain ⟨k2, e2, hk2⟩ : ∃ k2, (if k + 1 < n then k + 1 else 0) = k2 ∧ k2 < n := ⟨_, rfl, by split <;> omega⟩
    have fk2 := hf k2 hk2
    have hu : tb (usF f k) (f k) = !nwF f k := usF_tb (by omega) k (fun i hi => by have := hf i (by omega); omega)
    have h81 := c81n (S := S) (d := d) h fk
    have a1 := ar k hk
    have a2 := ar k2 hk2
    have us : usF f (k + 1) = usF f k ||| bt (f k) := rfl
    have ub : (1 : Int32) <<< (nI (f k) &&& 31) = bt (f k) := rfl
    have go : bm_run S (d + 2) 98 5 [some (.ref w), some (.ref 147), some (.int (nI n)), some (.int (usF f k)), some (.int (nI k)), s.1, s.2] [] σ = bm_run S (d + 2) 98 39 [some (.ref w), some (.ref 147), some (.int (nI n)), some (.int (usF f k)), some (.int (nI k)), some (.int (nI (f k))), s.2] [.int (nI (f k2))] σ := by
      rw [g98_5]
      by_cases q : k + 1 < n
      · rw [if_pos q] at e2; subst e2
        simp (disch := omega) only [bm_run_ite, Option.toList_some, Option.bind_some, Option.toList_some, Option.toList_none, List.cons_append, List.nil_append, List.append_nil, eq_self, not_true_eq_false, not_false_eq_true, ite_true, ite_false, ↓reduceIte, Nat.reduceLT, Nat.reduceEqDiff, Nat.reduceAdd, or_true, true_or, or_false, false_or, nI_clamp2, nI_lt0F, nI_leT, nI_leF, nI_ltT, nI_ltF, n_leF, n_leT, nI_1, kA6, kA8, kA10, kA22, kA26, kA32, kA44, kA56, kA68, kA80, kA93, kA163, kA794, not_or, or_self, and_self, and_true, true_and, g98_11, g98_17, g98_28, g98_36, a1, a2]
      · rw [if_neg q] at e2; subst e2
        replace a2 : bm_call S (d + 1) 158 [.ref 147, .int 0] σ = some (some (.int (nI (f 0))), σ) := a2
        simp (disch := omega) only [bm_run_ite, Option.toList_some, Option.bind_some, Option.toList_some, Option.toList_none, List.cons_append, List.nil_append, List.append_nil, eq_self, not_true_eq_false, not_false_eq_true, ite_true, ite_false, ↓reduceIte, Nat.reduceLT, Nat.reduceEqDiff, Nat.reduceAdd, or_true, true_or, or_false, false_or, nI_clamp2, nI_lt0F, nI_leT, nI_leF, nI_ltT, nI_ltF, n_leF, n_leT, nI_1, kA6, kA8, kA10, kA22, kA26, kA32, kA44, kA56, kA68, kA80, kA93, kA163, kA794, not_or, or_self, and_self, and_true, true_and, g98_11, g98_17, g98_35, g98_36, a1, a2]
    constructor
    · intro ok
      unfold rgK at ok
      simp only [Bool.and_eq_true, decide_eq_true_eq] at ok
      obtain ⟨⟨o1, o2⟩, o3⟩ := ok
      rw [e2] at o3
      refine ⟨(some (.int (nI (f k))), some (.int (nI (f k2)))), go.trans ?_, trivial⟩
      simp (disch := omega) only [bm_run_ite, Option.toList_some, Option.bind_some, Option.toList_some, Option.toList_none, List.cons_append, List.nil_append, List.append_nil, eq_self, not_true_eq_false, not_false_eq_true, ite_true, ite_false, ↓reduceIte, Nat.reduceLT, Nat.reduceEqDiff, Nat.reduceAdd, or_true, true_or, or_false, false_or, nI_clamp2, nI_lt0F, nI_leT, nI_leF, nI_ltT, nI_ltF, n_leF, n_leT, nI_1, kA6, kA8, kA10, kA22, kA26, kA32, kA44, kA56, kA68, kA80, kA93, kA163, kA794, not_or, or_self, and_self, and_true, true_and, g98_39, g98_47, g98_50, g98_59, g98_68, g98_77, g98_82, h.t, h81, o1, bI_ite, bI_itn, sh1 _ (show f k < 32 by omega), hu, o2, h.a3, h.a2, o3, us, ub, Bool.not_true, Bool.false_eq_true]
    · intro ok
      refine go.trans ?_
      cases o1 : oB B (f k)
      · simp (disch := omega) only [bm_run_ite, Option.toList_some, Option.bind_some, Option.toList_some, Option.toList_none, List.cons_append, List.nil_append, List.append_nil, eq_self, not_true_eq_false, not_false_eq_true, ite_true, ite_false, ↓reduceIte, Nat.reduceLT, Nat.reduceEqDiff, Nat.reduceAdd, or_true, true_or, or_false, false_or, nI_clamp2, nI_lt0F, nI_leT, nI_leF, nI_ltT, nI_ltF, n_leF, n_leT, nI_1, kA6, kA8, kA10, kA22, kA26, kA32, kA44, kA56, kA68, kA80, kA93, kA163, kA794, not_or, or_self, and_self, and_true, true_and, g98_39, g98_47, g98_80, h.t, h81, o1, bI_ite, Bool.false_eq_true]
      · cases o2 : nwF f k
        · simp (disch := omega) only [bm_run_ite, Option.toList_some, Option.bind_some, Option.toList_some, Option.toList_none, List.cons_append, List.nil_append, List.append_nil, eq_self, not_true_eq_false, not_false_eq_true, ite_true, ite_false, ↓reduceIte, Nat.reduceLT, Nat.reduceEqDiff, Nat.reduceAdd, or_true, true_or, or_false, false_or, nI_clamp2, nI_lt0F, nI_leT, nI_leF, nI_ltT, nI_ltF, n_leF, n_leT, nI_1, kA6, kA8, kA10, kA22, kA26, kA32, kA44, kA56, kA68, kA80, kA93, kA163, kA794, not_or, or_self, and_self, and_true, true_and, g98_39, g98_47, g98_50, g98_80, h.t, h81, o1, bI_ite, bI_itn, sh1 _ (show f k < 32 by omega), hu, o2, Bool.not_false]
        · have o3 : ¬ B (44 + f k) = B (32 + f k2) := by
            intro z
            unfold rgK at ok
            rw [e2, o1, o2] at ok
            simp [z] at ok
          simp (disch := omega) only [bm_run_ite, Option.toList_some, Option.bind_some, Option.toList_some, Option.toList_none, List.cons_append, List.nil_append, List.append_nil, eq_self, not_true_eq_false, not_false_eq_true, ite_true, ite_false, ↓reduceIte, Nat.reduceLT, Nat.reduceEqDiff, Nat.reduceAdd, or_true, true_or, or_false, false_or, nI_clamp2, nI_lt0F, nI_leT, nI_leF, nI_ltT, nI_ltF, n_leF, n_leT, nI_1, kA6, kA8, kA10, kA22, kA26, kA32, kA44, kA56, kA68, kA80, kA93, kA163, kA794, not_or, or_self, and_self, and_true, true_and, g98_39, g98_47, g98_50, g98_59, g98_68, g98_77, g98_80, h.t, h81, o1, bI_ite, bI_itn, sh1 _ (show f k < 32 by omega), hu, o2, h.a3, h.a2, o3, Bool.not_true, Bool.false_eq_true])
  rw [e98, g98_0]
  rcases step with ⟨a1, s1, e1, _⟩ | ⟨a1, e1⟩
  · have e8 : rgB B f n = true := a1
    have e9 : bI true = (1 : Int32) := rfl
    rw [e8, e9]
    refine (show bm_run S (d + 2) 98 5 [some (.ref w), some (.ref 147), some (.int (nI n)), some (.int 0), some (.int 0), none, none] [] σ = _ from e1).trans ?_
    rw [g98_5]
    simp (disch := omega) only [bm_run_ite, Option.toList_some, Option.bind_some, Option.toList_some, Option.toList_none, List.cons_append, List.nil_append, List.append_nil, eq_self, not_true_eq_false, not_false_eq_true, ite_true, ite_false, ↓reduceIte, Nat.reduceLT, Nat.reduceEqDiff, Nat.reduceAdd, or_true, true_or, or_false, false_or, nI_clamp2, nI_lt0F, nI_leT, nI_leF, nI_ltT, nI_ltF, n_leF, n_leT, nI_1, kA6, kA8, kA10, kA22, kA26, kA32, kA44, kA56, kA68, kA80, kA93, kA163, kA794, not_or, or_self, and_self, and_true, true_and, g98_95]
  · have e8 : rgB B f n = false := a1
    rw [e8]
    exact e1
theorem m226 (h : MR M L σ) {f : Nat → Nat} {n : Nat} (h1 : 1 ≤ n) (h6 : n ≤ 6) (hf : ∀ k, k < n → f k < L) (h24 : σ.1 218 24 = nI n) (hr : ∀ k, k < n → σ.1 229 k = nI (f k)) : bm_call S (d + 1) 226 [.ref 218] σ = some (some (.int (bI (rgB (σ.1 219) f n))), σ) := by
  have hL := h.L12
  generalize hB : σ.1 219 = B
  have rem : ∀ n, n < 7 → ∀ k, k < n → am_rem (nI (k + 1)) (nI n) = nI (if k + 1 < n then k + 1 else 0) := by decide +kernel
  have nz : ¬ nI n = 0 := nI_ne0 (by omega) (by omega)
  have step := loop_allx (fun k (s : Option Value × Option Value) => bm_run S (d + 1) 226 2 [some (.ref 218), some (.int (nI k)), s.1, s.2] [] σ) (fun _ _ => True) (rgK B f n) (some (some (.int 0), σ)) n (none, none) trivial (by
    intro k s hk _
    have fk := hf k hk
    have er := rem n (by omega) k hk
    obtain ⟨k2, e2, hk2⟩ : ∃ k2, (if k + 1 < n then k + 1 else 0) = k2 ∧ k2 < n := ⟨_, rfl, by split <;> omega⟩
    rw [e2] at er
    have fk2 := hf k2 hk2
    have r1 := hr k hk
    have r2 := hr k2 hk2
    have m2 : bm_call S d 202 [.ref 218, .int (nI (f k))] σ = some (some (.int (bI (oB B (f k)))), σ) := by rw [m202 (by omega), hB]
    have go : ∀ t, t = (if oB B (f k) = true then (if B (44 + f k) = B (32 + f k2) then 65 else 63) else 63) → bm_run S (d + 1) 226 2 [some (.ref 218), some (.int (nI k)), s.1, s.2] [] σ = bm_run S (d + 1) 226 t [some (.ref 218), some (.int (nI k)), some (.int (nI (f k2))), s.2] [] σ := by
      intro t ht
      rw [ht, g226_2]
      cases o1 : oB B (f k)
      · simp (disch := omega) only [bm_run_ite, Option.toList_some, Option.bind_some, Option.toList_some, Option.toList_none, List.cons_append, List.nil_append, List.append_nil, eq_self, not_true_eq_false, not_false_eq_true, ite_true, ite_false, ↓reduceIte, Nat.reduceLT, Nat.reduceEqDiff, Nat.reduceAdd, or_true, true_or, or_false, false_or, nI_clamp2, nI_lt0F, nI_leT, nI_leF, nI_ltT, nI_ltF, n_leF, n_leT, nI_1, kA6, kA8, kA10, kA22, kA26, kA32, kA44, kA56, kA68, kA80, kA93, kA163, kA794, not_or, or_self, and_self, and_true, true_and, g226_10, g226_34, h24, nz, er, r1, r2, m2, o1, bI_ite, Bool.false_eq_true]
      · by_cases o3 : B (44 + f k) = B (32 + f k2)
        · simp (disch := omega) only [bm_run_ite, Option.toList_some, Option.bind_some, Option.toList_some, Option.toList_none, List.cons_append, List.nil_append, List.append_nil, eq_self, not_true_eq_false, not_false_eq_true, ite_true, ite_false, ↓reduceIte, Nat.reduceLT, Nat.reduceEqDiff, Nat.reduceAdd, or_true, true_or, or_false, false_or, nI_clamp2, nI_lt0F, nI_leT, nI_leF, nI_ltT, nI_ltF, n_leF, n_leT, nI_1, kA6, kA8, kA10, kA22, kA26, kA32, kA44, kA56, kA68, kA80, kA93, kA163, kA794, not_or, or_self, and_self, and_true, true_and, g226_10, g226_34, g226_37, h24, nz, er, r1, r2, m2, o1, bI_ite, hB, o3]
        · simp (disch := omega) only [bm_run_ite, Option.toList_some, Option.bind_some, Option.toList_some, Option.toList_none, List.cons_append, List.nil_append, List.append_nil, eq_self, not_true_eq_false, not_false_eq_true, ite_true, ite_false, ↓reduceIte, Nat.reduceLT, Nat.reduceEqDiff, Nat.reduceAdd, or_true, true_or, or_false, false_or, nI_clamp2, nI_lt0F, nI_leT, nI_leF, nI_ltT, nI_ltF, n_leF, n_leT, nI_1, kA6, kA8, kA10, kA22, kA26, kA32, kA44, kA56, kA68, kA80, kA93, kA163, kA794, not_or, or_self, and_self, and_true, true_and, g226_10, g226_34, g226_37, h24, nz, er, r1, r2, m2, o1, bI_ite, hB, o3]
    have inner := loop_allx (fun i (o : Option Value) => bm_run S (d + 1) 226 67 [some (.ref 218), some (.int (nI k)), o, some (.int (nI i))] [] σ) (fun _ _ => True) (fun i => !decide (f i = f k)) (some (some (.int 0), σ)) k (am_clr (some (.int (nI (f k2))))) trivial (by
      intro i o hi _
      have fi := hf i (by omega)
      have ri := hr i (by omega)
      have q0 := nI_eq (show f i < 2 ^ 31 by omega) (show f k < 2 ^ 31 by omega)
      constructor
      · intro ok
        have q : ¬ f i = f k := by simpa using ok
        refine ⟨am_clr o, ?_, trivial⟩
        rw [g226_67]
        simp (disch := omega) only [bm_run_ite, Option.toList_some, Option.bind_some, Option.toList_some, Option.toList_none, List.cons_append, List.nil_append, List.append_nil, eq_self, not_true_eq_false, not_false_eq_true, ite_true, ite_false, ↓reduceIte, Nat.reduceLT, Nat.reduceEqDiff, Nat.reduceAdd, or_true, true_or, or_false, false_or, nI_clamp2, nI_lt0F, nI_leT, nI_leF, nI_ltT, nI_ltF, n_leF, n_leT, nI_1, kA6, kA8, kA10, kA22, kA26, kA32, kA44, kA56, kA68, kA80, kA93, kA163, kA794, not_or, or_self, and_self, and_true, true_and, g226_72, g226_89, ri, r1, q0, q]
      · intro ok
        have q : f i = f k := by simpa using ok
        rw [g226_67]
        simp (disch := omega) only [bm_run_ite, Option.toList_some, Option.bind_some, Option.toList_some, Option.toList_none, List.cons_append, List.nil_append, List.append_nil, eq_self, not_true_eq_false, not_false_eq_true, ite_true, ite_false, ↓reduceIte, Nat.reduceLT, Nat.reduceEqDiff, Nat.reduceAdd, or_true, true_or, or_false, false_or, nI_clamp2, nI_lt0F, nI_leT, nI_leF, nI_ltT, nI_ltF, n_leF, n_leT, nI_1, kA6, kA8, kA10, kA22, kA26, kA32, kA44, kA56, kA68, kA80, kA93, kA163, kA794, not_or, or_self, and_self, and_true, true_and, g226_72, g226_87, ri, r1, q])
    constructor
    · intro ok
      unfold rgK at ok
      simp only [Bool.and_eq_true, decide_eq_true_eq] at ok
      obtain ⟨⟨o1, o2⟩, o3⟩ := ok
      rw [e2] at o3
      rcases inner with ⟨_, o, e1, _⟩ | ⟨b1, _⟩
      · refine ⟨(o, some (.int (nI k))), (go 65 (by rw [o1, if_pos rfl, if_pos o3])).trans ?_, trivial⟩
        rw [g226_65]
        refine (show bm_run S (d + 1) 226 67 [some (.ref 218), some (.int (nI k)), am_clr (some (.int (nI (f k2)))), some (.int (nI 0))] [] σ = _ from e1).trans ?_
        rw [g226_67]
        simp (disch := omega) only [bm_run_ite, Option.toList_some, Option.bind_some, Option.toList_some, Option.toList_none, List.cons_append, List.nil_append, List.append_nil, eq_self, not_true_eq_false, not_false_eq_true, ite_true, ite_false, ↓reduceIte, Nat.reduceLT, Nat.reduceEqDiff, Nat.reduceAdd, or_true, true_or, or_false, false_or, nI_clamp2, nI_lt0F, nI_leT, nI_leF, nI_ltT, nI_ltF, n_leF, n_leT, nI_1, kA6, kA8, kA10, kA22, kA26, kA32, kA44, kA56, kA68, kA80, kA93, kA163, kA794, not_or, or_self, and_self, and_true, true_and, g226_95]
      · have : nwF f k = false := b1
        rw [o2] at this; cases this
    · intro ok
      cases o1 : oB B (f k)
      · refine (go 63 (by rw [o1]; rfl)).trans ?_
        rw [g226_63]
      · by_cases o3 : B (44 + f k) = B (32 + f k2)
        · have o2 : nwF f k = false := by
            unfold rgK at ok
            rw [e2, o1] at ok
            simpa [o3] using ok
          refine (go 65 (by rw [o1, if_pos rfl, if_pos o3])).trans ?_
          rw [g226_65]
          rcases inner with ⟨b1, _⟩ | ⟨_, e1⟩
          · have : nwF f k = true := b1
            rw [o2] at this; cases this
          · exact e1
        · refine (go 63 (by rw [o1, if_pos rfl, if_neg o3])).trans ?_
          rw [g226_63])
  rw [e226, g226_0]
  rcases step with ⟨a1, s1, e1, _⟩ | ⟨a1, e1⟩
  · have e8 : rgB B f n = true := a1
    have e9 : bI true = (1 : Int32) := rfl
    rw [e8, e9]
    refine (show bm_run S (d + 1) 226 2 [some (.ref 218), some (.int 0), none, none] [] σ = _ from e1).trans ?_
    rw [g226_2]
    simp (disch := omega) only [bm_run_ite, Option.toList_some, Option.bind_some, Option.toList_some, Option.toList_none, List.cons_append, List.nil_append, List.append_nil, eq_self, not_true_eq_false, not_false_eq_true, ite_true, ite_false, ↓reduceIte, Nat.reduceLT, Nat.reduceEqDiff, Nat.reduceAdd, or_true, true_or, or_false, false_or, nI_clamp2, nI_lt0F, nI_leT, nI_leF, nI_ltT, nI_ltF, n_leF, n_leT, nI_1, kA6, kA8, kA10, kA22, kA26, kA32, kA44, kA56, kA68, kA80, kA93, kA163, kA794, not_or, or_self, and_self, and_true, true_and, g226_101, h24]
  · have e8 : rgB B f n = false := a1
    rw [e8]
    exact e1
theorem m227 {f : Nat → Nat} {n : Nat} (h6 : n ≤ 6) (hf : ∀ k, k < n → f k < 12) (h24 : σ.1 218 24 = nI n) (hr : ∀ k, k < n → σ.1 229 k = nI (f k)) : bm_call S d 227 [.ref 218] σ = some (some (.int (lsF (σ.1 219) f 999999 n)), σ) := by
  generalize hB : σ.1 219 = B
  have step := loop_eq (fun k => bm_run S d 227 6 [some (.ref 218), some (.int (lsF B f 999999 k)), some (.int (nI k))] [] σ) n (by
    intro k hk
    have fk := hf k hk
    have r1 := hr k hk
    rw [g227_6, lsF]
    by_cases q : B (56 + f k) < lsF B f 999999 k
    · have q1 : ¬ lsF B f 999999 k ≤ B (56 + f k) := Int32.not_le.mpr q
      simp (disch := omega) only [bm_run_ite, Option.toList_some, Option.bind_some, Option.toList_some, Option.toList_none, List.cons_append, List.nil_append, List.append_nil, eq_self, not_true_eq_false, not_false_eq_true, ite_true, ite_false, ↓reduceIte, Nat.reduceLT, Nat.reduceEqDiff, Nat.reduceAdd, or_true, true_or, or_false, false_or, nI_clamp2, nI_lt0F, nI_leT, nI_leF, nI_ltT, nI_ltF, n_leF, n_leT, nI_1, kA6, kA8, kA10, kA22, kA26, kA32, kA44, kA56, kA68, kA80, kA93, kA163, kA794, not_or, or_self, and_self, and_true, true_and, g227_14, g227_32, g227_50, h24, r1, hB, q, q1]
    · have q1 : lsF B f 999999 k ≤ B (56 + f k) := Int32.not_lt.mp q
      simp (disch := omega) only [bm_run_ite, Option.toList_some, Option.bind_some, Option.toList_some, Option.toList_none, List.cons_append, List.nil_append, List.append_nil, eq_self, not_true_eq_false, not_false_eq_true, ite_true, ite_false, ↓reduceIte, Nat.reduceLT, Nat.reduceEqDiff, Nat.reduceAdd, or_true, true_or, or_false, false_or, nI_clamp2, nI_lt0F, nI_leT, nI_leF, nI_ltT, nI_ltF, n_leF, n_leT, nI_1, kA6, kA8, kA10, kA22, kA26, kA32, kA44, kA56, kA68, kA80, kA93, kA163, kA794, not_or, or_self, and_self, and_true, true_and, g227_14, g227_49, g227_50, h24, r1, hB, q, q1])
  rw [e227, g227_0]
  refine (show bm_run S d 227 6 [some (.ref 218), some (.int 999999), some (.int 0)] [] σ = _ from step).trans ?_
  rw [g227_6]
  simp (disch := omega) only [bm_run_ite, Option.toList_some, Option.bind_some, Option.toList_some, Option.toList_none, List.cons_append, List.nil_append, List.append_nil, eq_self, not_true_eq_false, not_false_eq_true, ite_true, ite_false, ↓reduceIte, Nat.reduceLT, Nat.reduceEqDiff, Nat.reduceAdd, or_true, true_or, or_false, false_or, nI_clamp2, nI_lt0F, nI_leT, nI_leF, nI_ltT, nI_ltF, n_leF, n_leT, nI_1, kA6, kA8, kA10, kA22, kA26, kA32, kA44, kA56, kA68, kA80, kA93, kA163, kA794, not_or, or_self, and_self, and_true, true_and, g227_57, h24]
theorem m228 {f : Nat → Nat} {n : Nat} (h6 : n ≤ 6) (hf : ∀ k, k < n → f k < 12) (h24 : σ.1 218 24 = nI n) (hr : ∀ k, k < n → σ.1 229 k = nI (f k)) : bm_call S (d + 1) 228 [.ref 218] σ = some (some (.int (lsF (σ.1 219) f 999999 n)), bm_row σ 219 (csB (σ.1 219) f n)) := by
  have k0 := m227 (S := S) (d := d) h6 hf h24 hr
  generalize hB : σ.1 219 = B at *
  unfold csB
  generalize lsF B f 999999 n = v at *
  have r16 : ∀ g, (bm_row σ 219 g).1 218 = σ.1 218 := fun g => bm_row_1n _ _ (by decide)
  have r27 : ∀ g, (bm_row σ 219 g).1 229 = σ.1 229 := fun g => bm_row_1n _ _ (by decide)
  have step := loop_eq (fun k => bm_run S (d + 1) 228 7 [some (.ref 218), some (.int v), some (.int (nI k))] [] (bm_row σ 219 (itR (csS f v) B k))) n (by
    intro k hk
    have fk := hf k hk
    have r1 := hr k hk
    have es : itR (csS f v) B (k + 1) = csS f v (itR (csS f v) B k) k := rfl
    rw [g228_7, es]
    generalize itR (csS f v) B k = C
    unfold csS
    by_cases q : C (56 + f k) - v = 0
    · simp (disch := omega) only [bm_run_ite, Option.toList_some, Option.bind_some, Option.toList_some, Option.toList_none, List.cons_append, List.nil_append, List.append_nil, eq_self, not_true_eq_false, not_false_eq_true, ite_true, ite_false, ↓reduceIte, Nat.reduceLT, Nat.reduceEqDiff, Nat.reduceAdd, or_true, true_or, or_false, false_or, nI_clamp2, nI_lt0F, nI_leT, nI_leF, nI_ltT, nI_ltF, n_leF, n_leT, nI_1, kA6, kA8, kA10, kA22, kA26, kA32, kA44, kA56, kA68, kA80, kA93, kA163, kA794, not_or, or_self, and_self, and_true, true_and, g228_15, g228_50, g228_65, r16, r27, h24, r1, row_row1, wi_row, upd_s, q]
    · simp (disch := omega) only [bm_run_ite, Option.toList_some, Option.bind_some, Option.toList_some, Option.toList_none, List.cons_append, List.nil_append, List.append_nil, eq_self, not_true_eq_false, not_false_eq_true, ite_true, ite_false, ↓reduceIte, Nat.reduceLT, Nat.reduceEqDiff, Nat.reduceAdd, or_true, true_or, or_false, false_or, nI_clamp2, nI_lt0F, nI_leT, nI_leF, nI_ltT, nI_ltF, n_leF, n_leT, nI_1, kA6, kA8, kA10, kA22, kA26, kA32, kA44, kA56, kA68, kA80, kA93, kA163, kA794, not_or, or_self, and_self, and_true, true_and, g228_15, g228_65, r16, r27, h24, r1, row_row1, wi_row, upd_s, q])
  have e0 : bm_row σ 219 (itR (csS f v) B 0) = σ := by
    show bm_row σ 219 B = σ
    rw [← hB]; exact bm_row_self σ 219
  simp only [e0] at step
  simp only [e228, g228_0, bm_run_ite, Option.toList_some, Option.bind_some, Option.toList_some, Option.toList_none, List.cons_append, List.nil_append, List.append_nil, eq_self, not_true_eq_false, not_false_eq_true, ite_true, ite_false, ↓reduceIte, Nat.reduceLT, Nat.reduceEqDiff, Nat.reduceAdd, or_true, true_or, or_false, false_or, k0, g228_4]
  refine (show bm_run S (d + 1) 228 7 [some (.ref 218), some (.int v), some (.int (nI 0))] [] σ = _ from step).trans ?_
  rw [g228_7]
  simp (disch := omega) only [bm_run_ite, Option.toList_some, Option.bind_some, Option.toList_some, Option.toList_none, List.cons_append, List.nil_append, List.append_nil, eq_self, not_true_eq_false, not_false_eq_true, ite_true, ite_false, ↓reduceIte, Nat.reduceLT, Nat.reduceEqDiff, Nat.reduceAdd, or_true, true_or, or_false, false_or, nI_clamp2, nI_lt0F, nI_leT, nI_leF, nI_ltT, nI_ltF, n_leF, n_leT, nI_1, kA6, kA8, kA10, kA22, kA26, kA32, kA44, kA56, kA68, kA80, kA93, kA163, kA794, not_or, or_self, and_self, and_true, true_and, g228_71, r16, h24]
theorem c99 (h : RW M L σ w B) (hw : w + 9 < 147) {f : Nat → Nat} {n : Nat} (h1 : 1 ≤ n) (h6 : n ≤ 6) (hf : ∀ k, k < n → f k < L) (hr : ∀ k, k < n → σ.1 147 k = nI (f k)) (gm : GM L B) : ∃ σ1, bm_call S (d + 2) 99 [.ref w, .ref 147, .int (nI n)] σ = some (some (.int (lsF B f 999999 n)), σ1) ∧ RW M L σ1 w (csB B f n) ∧ Fx w σ σ1 := by
  have hL := h.L12
  have eq9 := lsF_eq gm n h1 hf
  have ar : ∀ τ : bm_S, τ.1 147 = σ.1 147 → ∀ k, k < n → bm_call S (d + 1) 158 [.ref 147, .int (nI k)] τ = some (some (.int (nI (f k))), τ) := by
    intro τ ht k hk
    rw [at_row t147 l147 (by omega) (by decide), ht, hr k hk]
  have s1 := loop_eq (fun k => bm_run S (d + 2) 99 7 [some (.ref w), some (.ref 147), some (.int (nI n)), some (.int (lsF B f 999 k)), some (.int (nI k)), none] [] σ) n (by
    intro k hk
    have fk := hf k hk
    have a1 := ar σ rfl k hk
    rw [g99_7, lsF]
    simp (disch := omega) only [bm_run_ite, Option.toList_some, Option.bind_some, Option.toList_some, Option.toList_none, List.cons_append, List.nil_append, List.append_nil, eq_self, not_true_eq_false, not_false_eq_true, ite_true, ite_false, ↓reduceIte, Nat.reduceLT, Nat.reduceEqDiff, Nat.reduceAdd, or_true, true_or, or_false, false_or, nI_clamp2, nI_lt0F, nI_leT, nI_leF, nI_ltT, nI_ltF, n_leF, n_leT, nI_1, kA6, kA8, kA10, kA22, kA26, kA32, kA44, kA56, kA68, kA80, kA93, kA163, kA794, not_or, or_self, and_self, and_true, true_and, g99_13, g99_24, g99_27, g99_30, h.t, a1, h.a4, c291])
  unfold csB
  rw [← eq9]
  generalize lsF B f 999 n = v at *
  obtain ⟨⟨o5, σ2⟩, e2, h2, f2⟩ := loop_ex (fun k (s : Option Value × bm_S) => bm_run S (d + 2) 99 40 [some (.ref w), some (.ref 147), some (.int (nI n)), some (.int v), some (.int (nI k)), s.1] [] s.2) (fun k s => RW M L s.2 w (itR (csS f v) B k) ∧ Fx w σ s.2) n (none, σ) ⟨h, Fx.rfl w σ⟩ (by
    intro k s hk hp
    obtain ⟨h2, f2⟩ := hp
    have fk := hf k hk
    have a1 := ar s.2 (f2.1 147 (by omega)) k hk
    have e9 : ∀ {C : Nat → Int32}, itR (csS f v) B k = C → itR (csS f v) B (k + 1) = csS f v C k := fun q => by rw [itR, q]
    generalize hC : itR (csS f v) B k = C at h2
    rw [e9 hC]
    have h3 := h2.w4 fk (C (56 + f k) - v)
    have u : upd C (56 + f k) (C (56 + f k) - v) (56 + f k) = C (56 + f k) - v := upd_s _ _ _
    have f3 : Fx w σ (bm_wi s.2 (w + 4) (f k) (C (56 + f k) - v)) := f2.wi (by omega) (by omega) _ _
    unfold csS
    by_cases q : C (56 + f k) - v = 0
    · refine ⟨(some (.int (nI (f k))), bm_wi (bm_wi s.2 (w + 4) (f k) (C (56 + f k) - v)) (w + 6) (f k) 1), ?_, ?_, f3.wi (by omega) (by omega) _ _⟩
      · rw [g99_40]
        rw [q] at h3 u ⊢
        simp (disch := omega) only [bm_run_ite, Option.toList_some, Option.bind_some, Option.toList_some, Option.toList_none, List.cons_append, List.nil_append, List.append_nil, eq_self, not_true_eq_false, not_false_eq_true, ite_true, ite_false, ↓reduceIte, Nat.reduceLT, Nat.reduceEqDiff, Nat.reduceAdd, or_true, true_or, or_false, false_or, nI_clamp2, nI_lt0F, nI_leT, nI_leF, nI_ltT, nI_ltF, n_leF, n_leT, nI_1, kA6, kA8, kA10, kA22, kA26, kA32, kA44, kA56, kA68, kA80, kA93, kA163, kA794, not_or, or_self, and_self, and_true, true_and, g99_46, g99_52, g99_69, g99_74, g99_83, g99_86, g99_96, h2.t, a1, h2.a4, h2.s4, q, h3.t, h3.a4, u, h3.s6]
      · rw [if_pos q]; exact h3.w6 fk 1
    · refine ⟨(some (.int (nI (f k))), bm_wi s.2 (w + 4) (f k) (C (56 + f k) - v)), ?_, ?_, f3⟩
      · rw [g99_40]
        simp (disch := omega) only [bm_run_ite, Option.toList_some, Option.bind_some, Option.toList_some, Option.toList_none, List.cons_append, List.nil_append, List.append_nil, eq_self, not_true_eq_false, not_false_eq_true, ite_true, ite_false, ↓reduceIte, Nat.reduceLT, Nat.reduceEqDiff, Nat.reduceAdd, or_true, true_or, or_false, false_or, nI_clamp2, nI_lt0F, nI_leT, nI_leF, nI_ltT, nI_ltF, n_leF, n_leT, nI_1, kA6, kA8, kA10, kA22, kA26, kA32, kA44, kA56, kA68, kA80, kA93, kA163, kA794, not_or, or_self, and_self, and_true, true_and, g99_46, g99_52, g99_69, g99_74, g99_83, g99_96, h2.t, a1, h2.a4, h2.s4, q, h3.t, h3.a4, u]
      · rw [if_neg q]; exact h3)
  refine ⟨σ2, ?_, h2, f2⟩
  rw [e99, g99_0]
  refine (show bm_run S (d + 2) 99 7 [some (.ref w), some (.ref 147), some (.int (nI n)), some (.int 999), some (.int 0), none] [] σ = _ from s1).trans ?_
  rw [g99_7]
  simp (disch := omega) only [bm_run_ite, Option.toList_some, Option.bind_some, Option.toList_some, Option.toList_none, List.cons_append, List.nil_append, List.append_nil, eq_self, not_true_eq_false, not_false_eq_true, ite_true, ite_false, ↓reduceIte, Nat.reduceLT, Nat.reduceEqDiff, Nat.reduceAdd, or_true, true_or, or_false, false_or, nI_clamp2, nI_lt0F, nI_leT, nI_leF, nI_ltT, nI_ltF, n_leF, n_leT, nI_1, kA6, kA8, kA10, kA22, kA26, kA32, kA44, kA56, kA68, kA80, kA93, kA163, kA794, not_or, or_self, and_self, and_true, true_and, g99_37]
  refine (show bm_run S (d + 2) 99 40 [some (.ref w), some (.ref 147), some (.int (nI n)), some (.int v), some (.int (nI 0)), none] [] σ = _ from e2).trans ?_
  rw [g99_40]
  simp (disch := omega) only [bm_run_ite, Option.toList_some, Option.bind_some, Option.toList_some, Option.toList_none, List.cons_append, List.nil_append, List.append_nil, eq_self, not_true_eq_false, not_false_eq_true, ite_true, ite_false, ↓reduceIte, Nat.reduceLT, Nat.reduceEqDiff, Nat.reduceAdd, or_true, true_or, or_false, false_or, nI_clamp2, nI_lt0F, nI_leT, nI_leF, nI_ltT, nI_ltF, n_leF, n_leT, nI_1, kA6, kA8, kA10, kA22, kA26, kA32, kA44, kA56, kA68, kA80, kA93, kA163, kA794, not_or, or_self, and_self, and_true, true_and, g99_102]
end RING
