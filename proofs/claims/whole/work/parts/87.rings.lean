/-! the rings -/
/-- (how many, the greatest sum, its length, its letters) -/
abbrev rgT : Type := Nat × Int32 × Nat × (Nat → Nat)
def pu (p : Nat → Nat) (n l : Nat) : Nat → Nat := fun k => if k = n then l else p k
def nwP (p : Nat → Nat) (l n : Nat) : Bool := (List.range n).all (fun k => !decide (p k = l))
def okE (B : Nat → Int32) (p : Nat → Nat) (n l : Nat) : Bool := nwP p l n && decide (B (32 + l) = B (44 + p (n - 1))) && dB B (B 22) l
def ntA (B : Nat → Int32) (p : Nat → Nat) (n : Nat) (a : rgT) : rgT := if a.2.1 < lsF B p 999999 n * nI n then (a.1 + 1, lsF B p 999999 n * nI n, n, p) else (a.1 + 1, a.2)
def clA (B : Nat → Int32) (p : Nat → Nat) (n : Nat) (a : rgT) : rgT := if B (44 + p (n - 1)) = B (32 + p 0) then ntA B p n a else a
def fw (g : Nat → rgT → rgT) (s : Nat) : Nat → rgT → rgT
  | 0, a => a
  | k + 1, a => g (s + k) (fw g s k a)
def xt (L : Nat) (B : Nat → Int32) : Nat → (Nat → Nat) → Nat → rgT → rgT
  | 0, p, n, a => clA B p n a
  | f + 1, p, n, a => fw (fun l b => if okE B p n l = true then xt L B f (pu p n l) (n + 1) b else b) (p 0 + 1) (L - (p 0 + 1)) (clA B p n a)
def rgs (L : Nat) (B : Nat → Int32) : rgT := fw (fun l b => if dB B (B 22) l = true then xt L B 5 (pu (fun _ => 0) 0 l) 1 b else b) 0 L (0, 0, 0, fun _ => 0)
theorem pu_s (p : Nat → Nat) (n l : Nat) : pu p n l n = l := if_pos rfl
theorem pu_n (p : Nat → Nat) {n k : Nat} (l : Nat) (h : k ≠ n) : pu p n l k = p k := if_neg h
theorem nwP_pu (p : Nat → Nat) (n l j : Nat) : nwP (pu p n l) j (n + 1) = (nwP p j n && !decide (l = j)) := by
  unfold nwP
  rw [List.range_succ, List.all_append]
  have : (List.range n).all (fun k => !decide (pu p n l k = j)) = (List.range n).all (fun k => !decide (p k = j)) := by
    rw [Bool.eq_iff_iff, List.all_eq_true, List.all_eq_true]
    constructor
    · intro h x hx
      have h2 := h x hx
      rw [pu_n p l (by have := List.mem_range.mp hx; omega)] at h2
      exact h2
    · intro h x hx
      rw [pu_n p l (by have := List.mem_range.mp hx; omega)]
      exact h x hx
  rw [this]
  simp [pu_s]
theorem lsF_cg {B : Nat → Int32} {p q : Nat → Nat} {s : Int32} : ∀ n, (∀ k, k < n → p k = q k) → lsF B p s n = lsF B q s n := by
  intro n
  induction n with
  | zero => intro _; rfl
  | succ n ih =>
    intro h
    rw [lsF, lsF, ih (fun k hk => h k (by omega)), h n (by omega)]
/-- what the class has found -/
def CR (σ : bm_S) (a : rgT) : Prop := a.2.2.1 ≤ 6 ∧ σ.1 174 0 = nI a.1 ∧ σ.1 174 1 = a.2.1 ∧ σ.1 174 2 = nI a.2.2.1 ∧ ∀ k, k < a.2.2.1 → σ.1 175 k = nI (a.2.2.2 k)
def PT (σ : bm_S) (b : Nat) (p : Nat → Nat) (n : Nat) : Prop := ∀ k, k < n → σ.1 b k = nI (p k)
theorem t172 : bm_tag 174 = 27 ∨ True := Or.inr trivial
theorem t173 : bm_tag 175 = 0 := by decide +kernel
theorem t174 : bm_tag 176 = 0 := by decide +kernel
theorem l173 : bm_len 175 = 6 := by decide +kernel
theorem l174 : bm_len 176 = 6 := by decide +kernel
section RINGC
variable {S : am_S} {d : Nat} {σ : bm_S} {M L : Nat} {B : Nat → Int32}
theorem c69 {p : Nat → Nat} {n : Nat} {a : rgT} (h6 : n ≤ 6) (hc : CR σ a) (hp : PT σ 176 p n) : ∃ σ1, bm_call S (d + 2) 69 [.ref 174, .int (nI n), .int (lsF B p 999999 n)] σ = some (none, σ1) ∧ Kp σ σ1 ∧ CR σ1 (ntA B p n a) ∧ σ1.1 176 = σ.1 176 := by
  obtain ⟨c0, c1, c2, c3, c4⟩ := hc
  have kp : Kp σ (bm_wi σ 174 0 (nI a.1 + 1)) := (Kp.rfl σ).wi (by unfold Sc; omega) _ _
  have r1 : (bm_wi σ 174 0 (nI a.1 + 1)).1 174 1 = a.2.1 := by rw [wi_s, upd_n _ _ (by decide)]; exact c2
  unfold ntA
  by_cases q : a.2.1 < lsF B p 999999 n * nI n
  · have kc := c162 (S := S) (d := d) (σ := bm_wi (bm_wi (bm_wi σ 174 0 (nI a.1 + 1)) 174 1 (lsF B p 999999 n * nI n)) 174 2 (nI n)) t174 t173 (by rw [l173, l174]) (by rw [l173]; decide)
    refine ⟨_, by simp (decide := true) only [e69, g69_0, g69_21, g69_44, bm_run_ite, Option.toList_some, Option.bind_some, Option.toList_some, Option.toList_none, List.cons_append, List.nil_append, List.append_nil, eq_self, not_true_eq_false, not_false_eq_true, ite_true, ite_false, ↓reduceIte, Nat.reduceLT, Nat.reduceEqDiff, Nat.reduceAdd, or_true, true_or, or_false, false_or, c1, r1, q, kc]; rfl, ((kp.wi (by unfold Sc; omega) _ _).wi (by unfold Sc; omega) _ _).row (by unfold Sc; omega) _, ?_, ?_⟩
    · rw [if_pos q]
      refine ⟨h6, ?_, ?_, ?_, fun k hk => ?_⟩
      · rw [bm_row_1n _ _ (by decide), wi_s, upd_n _ _ (by decide), wi_s, upd_n _ _ (by decide), wi_s, upd_s]; exact nI_1 _
      · rw [bm_row_1n _ _ (by decide), wi_s, upd_n _ _ (by decide), wi_s, upd_s]
      · rw [bm_row_1n _ _ (by decide), wi_s, upd_s]
      · rw [bm_row_1s, l173, cpy_lt (show k < 6 by have : k < n := hk; omega), wi_n _ (by decide), wi_n _ (by decide), wi_n _ (by decide)]
        exact hp k hk
    · rw [bm_row_1n _ _ (by decide), wi_n _ (by decide), wi_n _ (by decide), wi_n _ (by decide)]
  · refine ⟨_, by simp (decide := true) only [e69, g69_0, g69_20, bm_run_ite, Option.toList_some, Option.bind_some, Option.toList_some, Option.toList_none, List.cons_append, List.nil_append, List.append_nil, eq_self, not_true_eq_false, not_false_eq_true, ite_true, ite_false, ↓reduceIte, Nat.reduceLT, Nat.reduceEqDiff, Nat.reduceAdd, or_true, true_or, or_false, false_or, c1, r1, q], kp, ?_, wi_n _ (by decide) _ _⟩
    rw [if_neg q]
    refine ⟨c0, ?_, r1, ?_, fun k hk => ?_⟩
    · rw [wi_s, upd_s]; exact nI_1 _
    · rw [wi_s, upd_n _ _ (by decide)]; exact c3
    · rw [wi_n _ (by decide)]; exact c4 k hk
theorem c68h {n : Nat} (hn : 1 ≤ n) (h6 : n ≤ 6) {p : Nat → Nat} {a : rgT} {w : Int32} (h : RS M L σ) (hB : σ.1 219 = B) (hc : CR σ a) (hp : PT σ 176 p n) (hL : ∀ k, k < n → p k < L) : ∃ σ1, bm_call S (d + 3) 68 [.ref 174, .ref 5, .int (nI n), .int w, .int (lsF B p 999999 n)] σ = bm_run S (d + 3) 68 50 [some (.ref 174), some (.ref 5), some (.int (nI n)), some (.int w), some (.int (lsF B p 999999 n)), some (.int (nI (p 0))), some (.int (B (44 + p (n - 1)))), none] [] σ1 ∧ Kp σ σ1 ∧ CR σ1 (clA B p n a) ∧ PT σ1 176 p n := by
  have hr := h.rw
  rw [hB] at hr
  have e0 := hp 0 (by omega)
  have en := hp (n - 1) (by omega)
  have sb : nI n - 1 = nI (n - 1) := nI_sub (b := 1) hn
  have a0 : bm_call S (d + 2) 158 [.ref 176, .int 0] σ = some (some (.int (nI (p 0))), σ) := by rw [← e0]; exact at_row (k := 0) t174 l174 (by omega) (by decide)
  have an : bm_call S (d + 2) 158 [.ref 176, .int (nI (n - 1))] σ = some (some (.int (nI (p (n - 1)))), σ) := by rw [← en]; exact at_row t174 l174 (by omega) (by decide)
  have w1 := hr.a3 (S := S) (d := d + 2) (hL (n - 1) (by omega))
  have w2 := hr.a2 (S := S) (d := d + 2) (hL 0 (by omega))
  by_cases q : B (44 + p (n - 1)) = B (32 + p 0)
  · obtain ⟨σ1, k1, kp, cr, e74⟩ := c69 (S := S) (d := d) (B := B) h6 hc hp
    refine ⟨σ1, ?_, kp, ?_, fun k hk => by rw [e74]; exact hp k hk⟩
    · simp (decide := true) only [e68, g68_0, g68_8, g68_24, g68_27, g68_40, g68_43, bm_run_ite, Option.toList_some, Option.bind_some, Option.toList_some, Option.toList_none, List.cons_append, List.nil_append, List.append_nil, eq_self, not_true_eq_false, not_false_eq_true, ite_true, ite_false, ↓reduceIte, Nat.reduceLT, Nat.reduceEqDiff, Nat.reduceAdd, or_true, true_or, or_false, false_or, isW5.t0, a0, sb, an, w1, w2, q, k1]
    · unfold clA; rw [if_pos q]; exact cr
  · refine ⟨σ, ?_, Kp.rfl σ, ?_, hp⟩
    · simp (decide := true) only [e68, g68_0, g68_8, g68_24, g68_27, g68_40, bm_run_ite, Option.toList_some, Option.bind_some, Option.toList_some, Option.toList_none, List.cons_append, List.nil_append, List.append_nil, eq_self, not_true_eq_false, not_false_eq_true, ite_true, ite_false, ↓reduceIte, Nat.reduceLT, Nat.reduceEqDiff, Nat.reduceAdd, or_true, true_or, or_false, false_or, isW5.t0, a0, sb, an, w1, w2, q]
    · unfold clA; rw [if_neg q]; exact hc
theorem c68 : ∀ f n, f + n = 6 → 1 ≤ n → ∀ (σ : bm_S) (p : Nat → Nat) (a : rgT) (w : Int32), RS M L σ → σ.1 219 = B → CR σ a → PT σ 176 p n → (∀ k, k < n → p k < L) → (∀ l, l < 32 → tb w l = !nwP p l n) → ∃ σ1, bm_call S (d + f + 3) 68 [.ref 174, .ref 5, .int (nI n), .int w, .int (lsF B p 999999 n)] σ = some (none, σ1) ∧ Kp σ σ1 ∧ CR σ1 (xt L B f p n a) ∧ PT σ1 176 p n := by
  have s7 : ¬ Sc 219 := by unfold Sc; omega
  intro f
  induction f with
  | zero =>
    intro n hn h1 σ p a w h hB hc hp hL hw
    obtain ⟨σ1, k1, kp, cr, pt⟩ := c68h (S := S) (d := d) (w := w) h1 (by omega) h hB hc hp hL
    have n6 : ¬ nI n < 6 := by rw [show n = 6 by omega]; decide
    refine ⟨σ1, ?_, kp, cr, pt⟩
    refine (show bm_call S (d + 0 + 3) 68 _ σ = _ from k1).trans ?_
    rw [g68_50, if_neg n6, g68_56]
  | succ f ih =>
    intro n hn h1 σ p a w h hB hc hp hL hw
    obtain ⟨σ1, k1, kp, cr, pt⟩ := c68h (S := S) (d := d + f + 1) (w := w) h1 (by omega) h hB hc hp hL
    have n6 : nI n < 6 := nI_lt (b := 6) (by omega) (by decide)
    have hL12 := h.rw.L12
    have p0L := hL 0 (by omega)
    obtain ⟨s1, e1, q1, q2, q3⟩ := loop_ex (fun k (s : bm_S) => bm_run S (d + f + 1 + 3) 68 63 [some (.ref 174), some (.ref 5), some (.int (nI n)), some (.int w), some (.int (lsF B p 999999 n)), some (.int (nI (p 0))), some (.int (B (44 + p (n - 1)))), some (.int (nI (p 0 + 1 + k)))] [] s) (fun k s => Kp σ s ∧ CR s (fw (fun l b => if okE B p n l = true then xt L B f (pu p n l) (n + 1) b else b) (p 0 + 1) k (clA B p n a)) ∧ PT s 176 p n) (L - (p 0 + 1)) σ1 ⟨kp, cr, pt⟩ (by
      intro k s hk hs
      obtain ⟨q1, q2, q3⟩ := hs
      have hl : p 0 + 1 + k < L := by omega
      rw [show p 0 + 1 + (k + 1) = p 0 + 1 + k + 1 by omega, fw]
      generalize p 0 + 1 + k = l at hl ⊢
      generalize fw (fun l b => if okE B p n l = true then xt L B f (pu p n l) (n + 1) b else b) (p 0 + 1) k (clA B p n a) = b at q2 ⊢
      have h2 := h.kp q1
      have hB2 : s.1 219 = B := (q1.at s7 (by omega)).trans hB
      have hr := h2.rw
      rw [hB2] at hr
      have tl := hw l (by omega)
      cases u1 : nwP p l n
      · rw [u1] at tl
        refine ⟨s, ?_, q1, ?_, q3⟩
        · rw [g68_63]
          simp (disch := omega) only [bm_run_ite, Option.toList_some, Option.bind_some, Option.toList_some, Option.toList_none, List.cons_append, List.nil_append, List.append_nil, eq_self, not_true_eq_false, not_false_eq_true, ite_true, ite_false, ↓reduceIte, Nat.reduceLT, Nat.reduceEqDiff, Nat.reduceAdd, or_true, true_or, or_false, false_or, nI_clamp2, nI_lt0F, nI_leT, nI_leF, nI_ltT, nI_ltF, n_leF, n_leT, nI_1, kA6, kA8, kA10, kA22, kA26, kA32, kA44, kA56, kA68, kA80, kA93, kA163, kA794, not_or, or_self, and_self, and_true, true_and, isW5.t0, hr.f1, g68_72, sh1 _ (show l < 32 by omega), tl, bI_ite, bI_itn, Bool.not_false, decide_true, decide_false, Bool.false_eq_true, g68_149]
        · have : okE B p n l = false := by unfold okE; rw [u1]; rfl
          rw [this]; exact q2
      · rw [u1] at tl
        have w2 := hr.a2 (S := S) (d := d + f + 1 + 2) hl
        by_cases u2 : B (32 + l) = B (44 + p (n - 1))
        · cases u3 : dB B (B 22) l
          · refine ⟨s, ?_, q1, ?_, q3⟩
            · rw [g68_63]
              simp (disch := omega) only [bm_run_ite, Option.toList_some, Option.bind_some, Option.toList_some, Option.toList_none, List.cons_append, List.nil_append, List.append_nil, eq_self, not_true_eq_false, not_false_eq_true, ite_true, ite_false, ↓reduceIte, Nat.reduceLT, Nat.reduceEqDiff, Nat.reduceAdd, or_true, true_or, or_false, false_or, nI_clamp2, nI_lt0F, nI_leT, nI_leF, nI_ltT, nI_ltF, n_leF, n_leT, nI_1, kA6, kA8, kA10, kA22, kA26, kA32, kA44, kA56, kA68, kA80, kA93, kA163, kA794, not_or, or_self, and_self, and_true, true_and, isW5.t0, hr.f1, hr.f3, g68_72, sh1 _ (show l < 32 by omega), tl, bI_ite, bI_itn, Bool.not_true, decide_true, decide_false, Bool.false_eq_true, g68_81, w2, g68_90, u2, g68_95, c82n hr hl, u3, g68_105, g68_108, g68_149]
            · have : okE B p n l = false := by unfold okE; rw [u3]; simp
              rw [this]; exact q2
          · have sv : bm_call S (d + f + 1 + 2) 159 [.ref 176, .int (nI n), .int (nI l)] s = some (none, bm_wi s 176 n (nI l)) := set_row t174 l174 (by omega) (by decide) _
            have q1b := q1.wi (k := 176) (by unfold Sc; omega) n (nI l)
            have h3 := h.kp q1b
            have hB3 : (bm_wi s 176 n (nI l)).1 219 = B := (q1b.at s7 (by omega)).trans hB
            have hr3 := h3.rw
            rw [hB3] at hr3
            have w4 := hr3.a4 (S := S) (d := d + f + 1 + 2) hl
            have ls : (if B (56 + l) < lsF B p 999999 n then B (56 + l) else lsF B p 999999 n) = lsF B (pu p n l) 999999 (n + 1) := by
              rw [lsF, pu_s, lsF_cg n (fun k hk => pu_n p l (by omega))]
            have pt2 : PT (bm_wi s 176 n (nI l)) 176 (pu p n l) (n + 1) := by
              intro k hk
              rw [wi_s]
              by_cases e : k = n
              · subst e; rw [upd_s, pu_s]
              · rw [upd_n _ _ e, pu_n p l e]; exact q3 k (by omega)
            have cr2 : CR (bm_wi s 176 n (nI l)) b := by
              unfold CR
              rw [wi_n _ (by decide), wi_n _ (by decide)]
              exact q2
            obtain ⟨s4, k4, kp4, cr4, pt4⟩ := ih (n + 1) (by omega) (by omega) (bm_wi s 176 n (nI l)) (pu p n l) b (w ||| bt l) h3 hB3 cr2 pt2 (fun k hk => by
              by_cases e : k = n
              · subst e; rw [pu_s]; exact hl
              · rw [pu_n p l e]; exact hL k (by omega)) (fun j hj => by
              rw [tb_or, tb_bt l (by omega) j hj, hw j hj, nwP_pu]
              by_cases e : j = l
              · subst e; simp
              · have e2 : ¬ l = j := fun z => e z.symm
                simp [e, e2])
            have k5 : bm_call S (d + f + 1 + 2) 68 [.ref 174, .ref 5, .int (nI (n + 1)), .int (w ||| (1 : Int32) <<< (nI l &&& 31)), .int (lsF B (pu p n l) 999999 (n + 1))] (bm_wi s 176 n (nI l)) = some (none, s4) := k4
            refine ⟨s4, ?_, q1b.tr kp4, ?_, fun k hk => ?_⟩
            · rw [g68_63]
              simp (disch := omega) only [bm_run_ite, Option.toList_some, Option.bind_some, Option.toList_some, Option.toList_none, List.cons_append, List.nil_append, List.append_nil, eq_self, not_true_eq_false, not_false_eq_true, ite_true, ite_false, ↓reduceIte, Nat.reduceLT, Nat.reduceEqDiff, Nat.reduceAdd, or_true, true_or, or_false, false_or, nI_clamp2, nI_lt0F, nI_leT, nI_leF, nI_ltT, nI_ltF, n_leF, n_leT, nI_1, kA6, kA8, kA10, kA22, kA26, kA32, kA44, kA56, kA68, kA80, kA93, kA163, kA794, not_or, or_self, and_self, and_true, true_and, isW5.t0, hr.f1, hr.f3, g68_72, sh1 _ (show l < 32 by omega), tl, bI_ite, bI_itn, Bool.not_true, decide_true, decide_false, Bool.false_eq_true, g68_81, w2, g68_90, u2, g68_95, c82n hr hl, u3, g68_105, g68_111, sv, g68_121, w4, g68_143, c291, ls, g68_146, k5, g68_149]
            · have : okE B p n l = true := by unfold okE; rw [u1, u3]; simp [u2]
              rw [if_pos this]; exact cr4
            · rw [pt4 k (by omega), pu_n p l (by omega)]
        · refine ⟨s, ?_, q1, ?_, q3⟩
          · rw [g68_63]
            simp (disch := omega) only [bm_run_ite, Option.toList_some, Option.bind_some, Option.toList_some, Option.toList_none, List.cons_append, List.nil_append, List.append_nil, eq_self, not_true_eq_false, not_false_eq_true, ite_true, ite_false, ↓reduceIte, Nat.reduceLT, Nat.reduceEqDiff, Nat.reduceAdd, or_true, true_or, or_false, false_or, nI_clamp2, nI_lt0F, nI_leT, nI_leF, nI_ltT, nI_ltF, n_leF, n_leT, nI_1, kA6, kA8, kA10, kA22, kA26, kA32, kA44, kA56, kA68, kA80, kA93, kA163, kA794, not_or, or_self, and_self, and_true, true_and, isW5.t0, hr.f1, hr.f3, g68_72, sh1 _ (show l < 32 by omega), tl, bI_ite, bI_itn, Bool.not_true, decide_true, decide_false, Bool.false_eq_true, g68_81, w2, g68_90, u2, g68_149]
          · have : okE B p n l = false := by unfold okE; simp [u2]
            rw [this]; exact q2)
    have hr1 := (h.kp q1).rw
    rw [(q1.at s7 (by omega)).trans hB] at hr1
    refine ⟨s1, ?_, q1, q2, q3⟩
    refine (show bm_call S (d + (f + 1) + 3) 68 _ σ = _ from k1).trans ?_
    rw [g68_50, if_pos n6, g68_57, show nI (p 0) + 1 = nI (p 0 + 1 + 0) from nI_1 _]
    refine (show bm_run S (d + f + 1 + 3) 68 63 [some (.ref 174), some (.ref 5), some (.int (nI n)), some (.int w), some (.int (lsF B p 999999 n)), some (.int (nI (p 0))), some (.int (B (44 + p (n - 1)))), some (.int (nI (p 0 + 1 + 0)))] [] σ1 = _ from e1).trans ?_
    rw [g68_63, show p 0 + 1 + (L - (p 0 + 1)) = L by omega]
    simp (disch := omega) only [bm_run_ite, Option.toList_some, Option.bind_some, Option.toList_some, Option.toList_none, List.cons_append, List.nil_append, List.append_nil, eq_self, not_true_eq_false, not_false_eq_true, ite_true, ite_false, ↓reduceIte, Nat.reduceLT, Nat.reduceEqDiff, Nat.reduceAdd, or_true, true_or, or_false, false_or, nI_clamp2, nI_lt0F, nI_leT, nI_leF, nI_ltT, nI_ltF, n_leF, n_leT, nI_1, kA6, kA8, kA10, kA22, kA26, kA32, kA44, kA56, kA68, kA80, kA93, kA163, kA794, not_or, or_self, and_self, and_true, true_and, isW5.t0, hr1.f1, g68_155]
theorem c67 (h : RS M L σ) (hB : σ.1 219 = B) : ∃ σ1, bm_call S (d + 9) 67 [.ref 174, .ref 5] σ = some (none, σ1) ∧ Kp σ σ1 ∧ CR σ1 (rgs L B) := by
  have s7 : ¬ Sc 219 := by unfold Sc; omega
  have hL12 := h.rw.L12
  have kp0 : Kp σ (bm_wi (bm_wi (bm_wi σ 174 0 0) 174 1 0) 174 2 0) := (((Kp.rfl σ).wi (by unfold Sc; omega) _ _).wi (by unfold Sc; omega) _ _).wi (by unfold Sc; omega) _ _
  have cr0 : CR (bm_wi (bm_wi (bm_wi σ 174 0 0) 174 1 0) 174 2 0) (0, 0, 0, fun _ => 0) := by
    refine ⟨Nat.zero_le _, ?_, ?_, ?_, fun k hk => absurd hk (Nat.not_lt_zero _)⟩
    · rw [wi_s, upd_n _ _ (by decide), wi_s, upd_n _ _ (by decide), wi_s, upd_s]; rfl
    · rw [wi_s, upd_n _ _ (by decide), wi_s, upd_s]
    · rw [wi_s, upd_s]; rfl
  generalize hs0 : bm_wi (bm_wi (bm_wi σ 174 0 0) 174 1 0) 174 2 0 = σ0 at kp0 cr0
  obtain ⟨s1, e1, q1, q2⟩ := loop_ex (fun k (s : bm_S) => bm_run S (d + 9) 67 17 [some (.ref 174), some (.ref 5), some (.int (nI k))] [] s) (fun k s => Kp σ s ∧ CR s (fw (fun l b => if dB B (B 22) l = true then xt L B 5 (pu (fun _ => 0) 0 l) 1 b else b) 0 k (0, 0, 0, fun _ => 0))) L σ0 ⟨kp0, cr0⟩ (by
    intro l s hl hs
    obtain ⟨q1, q2⟩ := hs
    have fe : ∀ g a, fw g 0 (l + 1) a = g l (fw g 0 l a) := fun g a => by rw [fw, Nat.zero_add]
    rw [fe]
    generalize fw (fun l b => if dB B (B 22) l = true then xt L B 5 (pu (fun _ => 0) 0 l) 1 b else b) 0 l (0, 0, 0, fun _ => 0) = b at q2 ⊢
    have h2 := h.kp q1
    have hB2 : s.1 219 = B := (q1.at s7 (by omega)).trans hB
    have hr := h2.rw
    rw [hB2] at hr
    cases u3 : dB B (B 22) l
    · refine ⟨s, ?_, q1, ?_⟩
      · rw [g67_17]
        simp (disch := omega) only [bm_run_ite, Option.toList_some, Option.bind_some, Option.toList_some, Option.toList_none, List.cons_append, List.nil_append, List.append_nil, eq_self, not_true_eq_false, not_false_eq_true, ite_true, ite_false, ↓reduceIte, Nat.reduceLT, Nat.reduceEqDiff, Nat.reduceAdd, or_true, true_or, or_false, false_or, nI_clamp2, nI_lt0F, nI_leT, nI_leF, nI_ltT, nI_ltF, n_leF, n_leT, nI_1, kA6, kA8, kA10, kA22, kA26, kA32, kA44, kA56, kA68, kA80, kA93, kA163, kA794, not_or, or_self, and_self, and_true, true_and, isW5.t0, hr.f1, hr.f3, g67_25, c82n hr hl, u3, bI_ite, bI_itn, decide_true, decide_false, Bool.false_eq_true, g67_34, g67_37, g67_66]
      · rw [if_neg (by decide)]; exact q2
    · have sv : bm_call S (d + 8) 159 [.ref 176, .int 0, .int (nI l)] s = some (none, bm_wi s 176 0 (nI l)) := set_row (k := 0) t174 l174 (by omega) (by decide) _
      have q1b := q1.wi (k := 176) (by unfold Sc; omega) 0 (nI l)
      have h3 := h.kp q1b
      have hB3 : (bm_wi s 176 0 (nI l)).1 219 = B := (q1b.at s7 (by omega)).trans hB
      have hr3 := h3.rw
      rw [hB3] at hr3
      have w4 := hr3.a4 (S := S) (d := d + 8) hl
      obtain ⟨y, hy, ey⟩ := h.ga.1.2.2.1 l hl
      rw [hB] at ey
      have ls : B (56 + l) = lsF B (pu (fun _ => 0) 0 l) 999999 1 := by
        show B (56 + l) = if B (56 + (pu (fun _ => 0) 0 l) 0) < 999999 then B (56 + (pu (fun _ => 0) 0 l) 0) else 999999
        have h9 : nI y < 999999 := nI_lt (b := 999999) (by omega) (by decide)
        rw [pu_s, ey, if_pos h9]
      have cr2 : CR (bm_wi s 176 0 (nI l)) b := by
        unfold CR
        rw [wi_n _ (by decide), wi_n _ (by decide)]
        exact q2
      obtain ⟨s4, k4, kp4, cr4, _⟩ := c68 (S := S) (d := d) 5 1 (by omega) (by omega) (bm_wi s 176 0 (nI l)) (pu (fun _ => 0) 0 l) b (bt l) h3 hB3 cr2 (fun k hk => by
        have : k = 0 := by omega
        subst this
        rw [wi_s, upd_s, pu_s]) (fun k hk => by
        have : k = 0 := by omega
        subst this
        rw [pu_s]; exact hl) (fun j hj => by
        rw [tb_bt l (by omega) j hj, nwP_pu]
        by_cases e : j = l
        · subst e; simp [nwP]
        · have e2 : ¬ l = j := fun z => e z.symm
          simp [e, e2, nwP])
      have k5 : bm_call S (d + 8) 68 [.ref 174, .ref 5, .int 1, .int ((1 : Int32) <<< (nI l &&& 31)), .int (lsF B (pu (fun _ => 0) 0 l) 999999 1)] (bm_wi s 176 0 (nI l)) = some (none, s4) := k4
      rw [← ls] at k5
      refine ⟨s4, ?_, q1b.tr kp4, ?_⟩
      · rw [g67_17]
        simp (disch := omega) only [bm_run_ite, Option.toList_some, Option.bind_some, Option.toList_some, Option.toList_none, List.cons_append, List.nil_append, List.append_nil, eq_self, not_true_eq_false, not_false_eq_true, ite_true, ite_false, ↓reduceIte, Nat.reduceLT, Nat.reduceEqDiff, Nat.reduceAdd, or_true, true_or, or_false, false_or, nI_clamp2, nI_lt0F, nI_leT, nI_leF, nI_ltT, nI_ltF, n_leF, n_leT, nI_1, kA6, kA8, kA10, kA22, kA26, kA32, kA44, kA56, kA68, kA80, kA93, kA163, kA794, not_or, or_self, and_self, and_true, true_and, isW5.t0, hr.f1, hr.f3, g67_25, c82n hr hl, u3, bI_ite, bI_itn, decide_true, decide_false, Bool.false_eq_true, g67_34, g67_40, sv, g67_49, w4, g67_63, k5, g67_66]
      · rw [if_pos rfl]; exact cr4)
  have hr1 := (h.kp q1).rw
  rw [(q1.at s7 (by omega)).trans hB] at hr1
  refine ⟨s1, ?_, q1, q2⟩
  rw [e67, g67_0, hs0]
  refine (show bm_run S (d + 9) 67 17 [some (.ref 174), some (.ref 5), some (.int (nI 0))] [] σ0 = _ from e1).trans ?_
  rw [g67_17]
  simp (disch := omega) only [bm_run_ite, Option.toList_some, Option.bind_some, Option.toList_some, Option.toList_none, List.cons_append, List.nil_append, List.append_nil, eq_self, not_true_eq_false, not_false_eq_true, ite_true, ite_false, ↓reduceIte, Nat.reduceLT, Nat.reduceEqDiff, Nat.reduceAdd, or_true, true_or, or_false, false_or, nI_clamp2, nI_lt0F, nI_leT, nI_leF, nI_ltT, nI_ltF, n_leF, n_leT, nI_1, kA6, kA8, kA10, kA22, kA26, kA32, kA44, kA56, kA68, kA80, kA93, kA163, kA794, not_or, or_self, and_self, and_true, true_and, isW5.t0, hr1.f1, g67_72]
end RINGC
/-- what the reference has found -/
def CM (σ : bm_S) (a : rgT) : Prop := a.2.2.1 ≤ 6 ∧ σ.1 218 27 = nI a.1 ∧ σ.1 218 29 = a.2.1 ∧ σ.1 218 28 = nI a.2.2.1 ∧ ∀ k, k < a.2.2.1 → σ.1 230 k = nI (a.2.2.2 k)
section RINGM
variable {S : am_S} {d : Nat} {σ : bm_S} {M L : Nat} {B : Nat → Int32}
theorem m261 {p : Nat → Nat} {n : Nat} {a : rgT} (h6 : n ≤ 6) (hB : σ.1 219 = B) (hc : CM σ a) (hp : PT σ 229 p n) (hn : σ.1 218 24 = nI n) (hL : ∀ k, k < n → p k < 12) : ∃ σ1, bm_call S (d + 1) 261 [.ref 218] σ = some (none, σ1) ∧ Kp σ σ1 ∧ CM σ1 (ntA B p n a) ∧ σ1.1 229 = σ.1 229 ∧ σ1.1 218 24 = nI n := by
  obtain ⟨c0, c1, c2, c3, c4⟩ := hc
  have kp : Kp σ (bm_wi σ 218 27 (nI a.1 + 1)) := (Kp.rfl σ).w16 (by decide) _
  have r1 : (bm_wi σ 218 27 (nI a.1 + 1)).1 218 29 = a.2.1 := by rw [wi_s, upd_n _ _ (by decide)]; exact c2
  have r2 : (bm_wi σ 218 27 (nI a.1 + 1)).1 218 24 = nI n := by rw [wi_s, upd_n _ _ (by decide)]; exact hn
  have rB : (bm_wi σ 218 27 (nI a.1 + 1)).1 219 = B := by rw [wi_n _ (by decide)]; exact hB
  have k7 := m227 (S := S) (d := d) (σ := bm_wi σ 218 27 (nI a.1 + 1)) h6 hL r2 (fun k hk => by rw [wi_n _ (by decide)]; exact hp k hk)
  rw [rB] at k7
  unfold ntA
  by_cases q : a.2.1 < lsF B p 999999 n * nI n
  · generalize hs0 : bm_wi σ 218 27 (nI a.1 + 1) = τ at *
    have hv : (bm_wi (bm_wi τ 218 29 (lsF B p 999999 n * nI n)) 218 28 (nI n)).1 218 24 = nI n := by
      rw [wi_s, upd_n _ _ (by decide), wi_s, upd_n _ _ (by decide)]; exact r2
    have hv27 : (bm_wi (bm_wi τ 218 29 (lsF B p 999999 n * nI n)) 218 28 (nI n)).1 229 = σ.1 229 := by
      rw [wi_n _ (by decide), wi_n _ (by decide), ← hs0, wi_n _ (by decide)]
    have kp2 : Kp σ (bm_wi (bm_wi τ 218 29 (lsF B p 999999 n * nI n)) 218 28 (nI n)) := (kp.w16 (by decide) _).w16 (by decide) _
    have c27 : (bm_wi (bm_wi τ 218 29 (lsF B p 999999 n * nI n)) 218 28 (nI n)).1 218 27 = nI (a.1 + 1) := by
      rw [wi_s, upd_n _ _ (by decide), wi_s, upd_n _ _ (by decide), ← hs0, wi_s, upd_s]; exact nI_1 _
    have c29 : (bm_wi (bm_wi τ 218 29 (lsF B p 999999 n * nI n)) 218 28 (nI n)).1 218 29 = lsF B p 999999 n * nI n := by
      rw [wi_s, upd_n _ _ (by decide), wi_s, upd_s]
    have c28 : (bm_wi (bm_wi τ 218 29 (lsF B p 999999 n * nI n)) 218 28 (nI n)).1 218 28 = nI n := by
      rw [wi_s, upd_s]
    have ex29 : (bm_wi τ 218 29 (lsF B p 999999 n * nI n)).1 218 24 = nI n := by rw [wi_s, upd_n _ _ (by decide)]; exact r2
    generalize hs2 : bm_wi (bm_wi τ 218 29 (lsF B p 999999 n * nI n)) 218 28 (nI n) = ρ at *
    obtain ⟨⟨o1, g⟩, e1, q1⟩ := loop_ex (fun k (s : Option Value × (Nat → Int32)) => bm_run S (d + 1) 261 44 [some (.ref 218), s.1, some (.int (nI k))] [] (bm_row ρ 230 s.2)) (fun k s => ∀ j, j < k → s.2 j = nI (p j)) n (some (.int (lsF B p 999999 n * nI n)), ρ.1 230) (fun j hj => absurd hj (Nat.not_lt_zero _)) (by
      intro k s hk hs
      refine ⟨(am_clr s.1, upd s.2 k (nI (p k))), ?_, fun j hj => ?_⟩
      · have a16 : (bm_row ρ 230 s.2).1 218 = ρ.1 218 := bm_row_1n _ _ (by decide)
        have a27 : (bm_row ρ 230 s.2).1 229 = ρ.1 229 := bm_row_1n _ _ (by decide)
        have wr : bm_wi (bm_row ρ 230 s.2) 230 k (nI (p k)) = bm_row ρ 230 (upd s.2 k (nI (p k))) := by
          unfold bm_wi
          rw [bm_row_1s]
          unfold bm_row
          congr 1
          funext x
          by_cases e : x = 230 <;> simp [e]
        have pk := hp k hk
        rw [g261_44]
        simp (disch := omega) only [bm_run_ite, Option.toList_some, Option.bind_some, Option.toList_some, Option.toList_none, List.cons_append, List.nil_append, List.append_nil, eq_self, not_true_eq_false, not_false_eq_true, ite_true, ite_false, ↓reduceIte, Nat.reduceLT, Nat.reduceEqDiff, Nat.reduceAdd, or_true, true_or, or_false, false_or, nI_clamp2, nI_lt0F, nI_leT, nI_leF, nI_ltT, nI_ltF, n_leF, n_leT, nI_1, kA6, kA8, kA10, kA22, kA26, kA32, kA44, kA56, kA68, kA80, kA93, kA163, kA794, not_or, or_self, and_self, and_true, true_and, a16, hv, g261_52, a27, hv27, pk, wr]
      · show upd s.2 k (nI (p k)) j = _
        by_cases e : j = k
        · subst e; rw [upd_s]
        · rw [upd_n _ _ e]; exact hs j (by omega))
    refine ⟨bm_row ρ 230 g, ?_, kp2.row (by unfold Sc; omega) g, ?_, ?_, ?_⟩
    · have go : bm_call S (d + 1) 261 [.ref 218] σ = bm_run S (d + 1) 261 44 [some (.ref 218), some (.int (lsF B p 999999 n * nI n)), some (.int (nI 0))] [] ρ := by
        simp (decide := true) only [e261, g261_0, g261_14, g261_29, bm_run_ite, Option.toList_some, Option.bind_some, Option.toList_some, Option.toList_none, List.cons_append, List.nil_append, List.append_nil, eq_self, not_true_eq_false, not_false_eq_true, ite_true, ite_false, ↓reduceIte, Nat.reduceLT, Nat.reduceEqDiff, Nat.reduceAdd, or_true, true_or, or_false, false_or, c1, hs0, k7, r1, r2, q, ex29, hs2]
        rfl
      have same : bm_row ρ 230 (ρ.1 230) = ρ := by
        unfold bm_row
        apply Prod.ext
        · funext x
          by_cases e : x = 230 <;> simp [e]
        · rfl
      refine go.trans ?_
      refine (show bm_run S (d + 1) 261 44 [some (.ref 218), some (.int (lsF B p 999999 n * nI n)), some (.int (nI 0))] [] ρ = _ from ?_).trans (e1.trans ?_)
      · show _ = bm_run S (d + 1) 261 44 [some (.ref 218), some (.int (lsF B p 999999 n * nI n)), some (.int (nI 0))] [] (bm_row ρ 230 (ρ.1 230))
        rw [same]
      · have a16 : (bm_row ρ 230 g).1 218 = ρ.1 218 := bm_row_1n _ _ (by decide)
        rw [g261_44]
        simp (disch := omega) only [bm_run_ite, Option.toList_some, Option.bind_some, Option.toList_some, Option.toList_none, List.cons_append, List.nil_append, List.append_nil, eq_self, not_true_eq_false, not_false_eq_true, ite_true, ite_false, ↓reduceIte, Nat.reduceLT, Nat.reduceEqDiff, Nat.reduceAdd, or_true, true_or, or_false, false_or, nI_clamp2, nI_lt0F, nI_leT, nI_leF, nI_ltT, nI_ltF, n_leF, n_leT, nI_1, kA6, kA8, kA10, kA22, kA26, kA32, kA44, kA56, kA68, kA80, kA93, kA163, kA794, not_or, or_self, and_self, and_true, true_and, a16, hv, g261_70]
    · rw [if_pos q]
      refine ⟨h6, ?_, ?_, ?_, fun k hk => ?_⟩
      · rw [bm_row_1n _ _ (by decide)]; exact c27
      · rw [bm_row_1n _ _ (by decide)]; exact c29
      · rw [bm_row_1n _ _ (by decide)]; exact c28
      · rw [bm_row_1s]; exact q1 k hk
    · rw [bm_row_1n _ _ (by decide)]; exact hv27
    · rw [bm_row_1n _ _ (by decide)]; exact hv
  · refine ⟨_, by simp (decide := true) only [e261, g261_0, g261_14, g261_28, bm_run_ite, Option.toList_some, Option.bind_some, Option.toList_some, Option.toList_none, List.cons_append, List.nil_append, List.append_nil, eq_self, not_true_eq_false, not_false_eq_true, ite_true, ite_false, ↓reduceIte, Nat.reduceLT, Nat.reduceEqDiff, Nat.reduceAdd, or_true, true_or, or_false, false_or, c1, k7, r1, r2, q], kp, ?_, wi_n _ (by decide) _ _, r2⟩
    rw [if_neg q]
    refine ⟨c0, ?_, r1, ?_, fun k hk => ?_⟩
    · rw [wi_s, upd_s]; exact nI_1 _
    · rw [wi_s, upd_n _ _ (by decide)]; exact c3
    · rw [wi_n _ (by decide)]; exact c4 k hk
end RINGM
