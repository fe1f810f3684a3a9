section RINGN
variable {S : am_S} {d : Nat} {σ : bm_S} {M L : Nat} {B : Nat → Int32}
theorem m260h {n : Nat} (hn : 1 ≤ n) (h6 : n ≤ 6) {p : Nat → Nat} {a : rgT} {w : Int32} (h : RS M L σ) (hB : σ.1 219 = B) (hc : CM σ a) (hp : PT σ 229 p n) (h24 : σ.1 218 24 = nI n) (hL : ∀ k, k < n → p k < L) : ∃ σ1, bm_call S (d + 3) 260 [.ref 218, .int w] σ = bm_run S (d + 3) 260 52 [some (.ref 218), some (.int w), some (.int (nI (p 0))), some (.int (nI (p (n - 1)))), none] [] σ1 ∧ Kp σ σ1 ∧ CM σ1 (clA B p n a) ∧ PT σ1 229 p n ∧ σ1.1 218 24 = nI n := by
  have hL12 := h.rw.L12
  have e0 := hp 0 (by omega)
  have en := hp (n - 1) (by omega)
  have sb : nI n - 1 = nI (n - 1) := nI_sub (b := 1) hn
  have p0 := hL 0 (by omega)
  have pn := hL (n - 1) (by omega)
  by_cases n1 : n = 1
  · subst n1
    have hne : ¬ B (44 + p (1 - 1)) = B (32 + p 0) := by
      obtain ⟨x, y, hx, hy, ne, ex, ey⟩ := h.ga.1.2.1 (p 0) p0
      have hM := h.rw.M6
      rw [hB] at ex ey
      show ¬ B (44 + p 0) = B (32 + p 0)
      rw [ex, ey]
      exact fun z => ne ((nI_eq (by omega) (by omega)).mp z).symm
    have le1 : nI 1 ≤ 1 := by decide
    refine ⟨σ, ?_, Kp.rfl σ, ?_, hp, h24⟩
    · rw [e260, g260_0]
      simp (disch := omega) only [bm_run_ite, Option.toList_some, Option.bind_some, Option.toList_some, Option.toList_none, List.cons_append, List.nil_append, List.append_nil, eq_self, not_true_eq_false, not_false_eq_true, ite_true, ite_false, ↓reduceIte, Nat.reduceLT, Nat.reduceEqDiff, Nat.reduceAdd, or_true, true_or, or_false, false_or, nI_clamp2, nI_lt0F, nI_leT, nI_leF, nI_ltT, nI_ltF, n_leF, n_leT, nI_1, kA6, kA8, kA10, kA22, kA26, kA32, kA44, kA56, kA68, kA80, kA93, kA163, kA794, not_or, or_self, and_self, and_true, true_and, h24, sb, e0, en, le1]
    · unfold clA; rw [if_neg hne]; exact hc
  have le1 : ¬ nI n ≤ 1 := nI_ge (b := n) (a := 1) (by omega) (by omega)
  by_cases q : B (44 + p (n - 1)) = B (32 + p 0)
  · obtain ⟨σ1, k1, kp, cr, e27, n24⟩ := m261 (S := S) (d := d + 1) h6 hB hc hp h24 (fun k hk => by have := hL k hk; omega)
    refine ⟨σ1, ?_, kp, ?_, fun k hk => by rw [e27]; exact hp k hk, n24⟩
    · rw [e260, g260_0]
      simp (disch := omega) only [bm_run_ite, Option.toList_some, Option.bind_some, Option.toList_some, Option.toList_none, List.cons_append, List.nil_append, List.append_nil, eq_self, not_true_eq_false, not_false_eq_true, ite_true, ite_false, ↓reduceIte, Nat.reduceLT, Nat.reduceEqDiff, Nat.reduceAdd, or_true, true_or, or_false, false_or, nI_clamp2, nI_lt0F, nI_leT, nI_leF, nI_ltT, nI_ltF, n_leF, n_leT, nI_1, kA6, kA8, kA10, kA22, kA26, kA32, kA44, kA56, kA68, kA80, kA93, kA163, kA794, not_or, or_self, and_self, and_true, true_and, h24, sb, e0, en, le1, g260_27, hB, q, g260_48, k1]
    · unfold clA; rw [if_pos q]; exact cr
  · refine ⟨σ, ?_, Kp.rfl σ, ?_, hp, h24⟩
    · rw [e260, g260_0]
      simp (disch := omega) only [bm_run_ite, Option.toList_some, Option.bind_some, Option.toList_some, Option.toList_none, List.cons_append, List.nil_append, List.append_nil, eq_self, not_true_eq_false, not_false_eq_true, ite_true, ite_false, ↓reduceIte, Nat.reduceLT, Nat.reduceEqDiff, Nat.reduceAdd, or_true, true_or, or_false, false_or, nI_clamp2, nI_lt0F, nI_leT, nI_leF, nI_ltT, nI_ltF, n_leF, n_leT, nI_1, kA6, kA8, kA10, kA22, kA26, kA32, kA44, kA56, kA68, kA80, kA93, kA163, kA794, not_or, or_self, and_self, and_true, true_and, h24, sb, e0, en, le1, g260_27, hB, q]
    · unfold clA; rw [if_neg q]; exact hc
theorem m260 : ∀ f n, f + n = 6 → 1 ≤ n → ∀ (σ : bm_S) (p : Nat → Nat) (a : rgT) (w : Int32), RS M L σ → σ.1 219 = B → CM σ a → PT σ 229 p n → σ.1 218 24 = nI n → (∀ k, k < n → p k < L) → (∀ l, l < L → tb w l = (dB B (B 22) l && nwP p l n)) → ∃ σ1, bm_call S (d + f + 3) 260 [.ref 218, .int w] σ = some (none, σ1) ∧ Kp σ σ1 ∧ CM σ1 (xt L B f p n a) ∧ PT σ1 229 p n ∧ σ1.1 218 24 = nI n := by
  have s7 : ¬ Sc 219 := by unfold Sc; omega
  intro f
  induction f with
  | zero =>
    intro n hn h1 σ p a w h hB hc hp h24 hL hw
    obtain ⟨σ1, k1, kp, cr, pt, n24⟩ := m260h (S := S) (d := d) (w := w) h1 (by omega) h hB hc hp h24 hL
    have n6 : nI n = 6 := by rw [show n = 6 by omega]; rfl
    refine ⟨σ1, ?_, kp, cr, pt, n24⟩
    refine (show bm_call S (d + 0 + 3) 260 _ σ = _ from k1).trans ?_
    rw [g260_52, n24, n6, if_neg (not_not_intro rfl), g260_61]
  | succ f ih =>
    intro n hn h1 σ p a w h hB hc hp h24 hL hw
    obtain ⟨σ1, k1, kp, cr, pt, n24⟩ := m260h (S := S) (d := d + f + 1) (w := w) h1 (by omega) h hB hc hp h24 hL
    have n6 : ¬ nI n = 6 := fun z => by have := (nI_eq (a := n) (b := 6) (by omega) (by omega)).mp z; omega
    have hL12 := h.rw.L12
    have p0L := hL 0 (by omega)
    have pnL := hL (n - 1) (by omega)
    obtain ⟨⟨o2, s1⟩, e1, q1, q2, q3, q4⟩ := loop_ex (fun k (s : Option Value × bm_S) => bm_run S (d + f + 1 + 3) 260 67 [some (.ref 218), some (.int w), s.1, some (.int (nI (p (n - 1)))), some (.int (nI (p 0 + 1 + k)))] [] s.2) (fun k s => Kp σ s.2 ∧ CM s.2 (fw (fun l b => if okE B p n l = true then xt L B f (pu p n l) (n + 1) b else b) (p 0 + 1) k (clA B p n a)) ∧ PT s.2 229 p n ∧ s.2.1 218 24 = nI n) (L - (p 0 + 1)) (some (.int (nI (p 0))), σ1) ⟨kp, cr, pt, n24⟩ (by
      intro k s hk hs
      obtain ⟨q1, q2, q3, q4⟩ := hs
      have hl : p 0 + 1 + k < L := by omega
      rw [show p 0 + 1 + (k + 1) = p 0 + 1 + k + 1 by omega, fw]
      generalize p 0 + 1 + k = l at hl ⊢
      generalize fw (fun l b => if okE B p n l = true then xt L B f (pu p n l) (n + 1) b else b) (p 0 + 1) k (clA B p n a) = b at q2 ⊢
      have h2 := h.kp q1
      have hB2 : s.2.1 219 = B := (q1.at s7 (by omega)).trans hB
      have m25 := h2.mr.l
      rw [hB2] at m25
      have tl := hw l hl
      cases u0 : (dB B (B 22) l && nwP p l n)
      · rw [u0] at tl
        refine ⟨s, ?_, q1, ?_, q3, q4⟩
        · rw [g260_67]
          simp (disch := omega) only [bm_run_ite, Option.toList_some, Option.bind_some, Option.toList_some, Option.toList_none, List.cons_append, List.nil_append, List.append_nil, eq_self, not_true_eq_false, not_false_eq_true, ite_true, ite_false, ↓reduceIte, Nat.reduceLT, Nat.reduceEqDiff, Nat.reduceAdd, or_true, true_or, or_false, false_or, nI_clamp2, nI_lt0F, nI_leT, nI_leF, nI_ltT, nI_ltF, n_leF, n_leT, nI_1, kA6, kA8, kA10, kA22, kA26, kA32, kA44, kA56, kA68, kA80, kA93, kA163, kA794, not_or, or_self, and_self, and_true, true_and, hB2, m25, g260_79, m176 _ (show l < 32 by omega), tl, g260_86, bI_ite, bI_itn, decide_true, decide_false, Bool.false_eq_true, g260_157]
        · have : okE B p n l = false := by
            unfold okE
            cases u1 : nwP p l n
            · rfl
            · rw [u1, Bool.and_true] at u0
              rw [u0]; simp
          rw [this]; exact q2
      · rw [u0] at tl
        have u00 := u0
        simp only [Bool.and_eq_true] at u00
        by_cases u2 : B (32 + l) = B (44 + p (n - 1))
        · have q1b := (q1.wi (k := 229) (by unfold Sc; omega) n (nI l)).w16 (i := 24) (by decide) (nI (n + 1))
          have hn1 : (bm_wi s.2 229 n (nI l)).1 218 24 = nI n := by rw [wi_n _ (by decide)]; exact q4
          generalize hτ : bm_wi (bm_wi s.2 229 n (nI l)) 218 24 (nI (n + 1)) = τ at q1b
          have h3 := h.kp q1b
          have hB3 : τ.1 219 = B := (q1b.at s7 (by omega)).trans hB
          have pt2 : PT τ 229 (pu p n l) (n + 1) := by
            intro k hk
            rw [← hτ, wi_n _ (by decide), wi_s]
            by_cases e : k = n
            · subst e; rw [upd_s, pu_s]
            · rw [upd_n _ _ e, pu_n p l e]; exact q3 k (by omega)
          have cr2 : CM τ b := by
            unfold CM
            rw [← hτ, wi_s, upd_n _ _ (by decide), upd_n _ _ (by decide), upd_n _ _ (by decide), wi_n _ (by decide), wi_n _ (by decide), wi_n _ (by decide)]
            exact q2
          have t24 : τ.1 218 24 = nI (n + 1) := by rw [← hτ, wi_s, upd_s]
          obtain ⟨s4, k4, kp4, cr4, pt4, n4⟩ := ih (n + 1) (by omega) (by omega) τ (pu p n l) b (w &&& (bt l ^^^ Int32.ofInt (-1))) h3 hB3 cr2 pt2 t24 (fun k hk => by
            by_cases e : k = n
            · subst e; rw [pu_s]; exact hl
            · rw [pu_n p l e]; exact hL k (by omega)) (fun j hj => by
            rw [tb_clr w (by omega) (by omega), hw j hj, nwP_pu, Bool.and_assoc]
            by_cases e : j = l
            · subst e; simp
            · have e2 : ¬ l = j := fun z => e z.symm
              simp [e, e2])
          have k5 : bm_call S (d + f + 1 + 2) 260 [.ref 218, .int (w &&& ((1 : Int32) <<< (nI l &&& 31) ^^^ Int32.ofInt (-1)))] τ = some (none, s4) := k4
          have sb : nI (n + 1) - 1 = nI n := nI_sub (a := n + 1) (b := 1) (by omega)
          refine ⟨(s.1, bm_wi s4 218 24 (nI n)), ?_, (q1b.tr kp4).w16 (by decide) _, ?_, fun k hk => ?_, ?_⟩
          · rw [g260_67]
            simp (disch := omega) only [bm_run_ite, Option.toList_some, Option.bind_some, Option.toList_some, Option.toList_none, List.cons_append, List.nil_append, List.append_nil, eq_self, not_true_eq_false, not_false_eq_true, ite_true, ite_false, ↓reduceIte, Nat.reduceLT, Nat.reduceEqDiff, Nat.reduceAdd, or_true, true_or, or_false, false_or, nI_clamp2, nI_lt0F, nI_leT, nI_leF, nI_ltT, nI_ltF, n_leF, n_leT, nI_1, kA6, kA8, kA10, kA22, kA26, kA32, kA44, kA56, kA68, kA80, kA93, kA163, kA794, not_or, or_self, and_self, and_true, true_and, hB2, m25, g260_79, m176 _ (show l < 32 by omega), tl, g260_86, bI_ite, bI_itn, decide_true, decide_false, Bool.false_eq_true, g260_89, u2, g260_114, q4, hn1, hτ, k5, g260_147, n4, sb, g260_157]
          · have : okE B p n l = true := by unfold okE; rw [u00.1, u00.2]; simp [u2]
            rw [if_pos this]
            unfold CM
            show _ ∧ (bm_wi s4 218 24 (nI n)).1 218 27 = _ ∧ (bm_wi s4 218 24 (nI n)).1 218 29 = _ ∧ (bm_wi s4 218 24 (nI n)).1 218 28 = _ ∧ ∀ k, k < _ → (bm_wi s4 218 24 (nI n)).1 230 k = _
            rw [wi_s, upd_n _ _ (by decide), upd_n _ _ (by decide), upd_n _ _ (by decide), wi_n _ (by decide)]
            exact cr4
          · show (bm_wi s4 218 24 (nI n)).1 229 k = _
            rw [wi_n _ (by decide), pt4 k (by omega), pu_n p l (by omega)]
          · show (bm_wi s4 218 24 (nI n)).1 218 24 = _
            rw [wi_s, upd_s]
        · refine ⟨s, ?_, q1, ?_, q3, q4⟩
          · rw [g260_67]
            simp (disch := omega) only [bm_run_ite, Option.toList_some, Option.bind_some, Option.toList_some, Option.toList_none, List.cons_append, List.nil_append, List.append_nil, eq_self, not_true_eq_false, not_false_eq_true, ite_true, ite_false, ↓reduceIte, Nat.reduceLT, Nat.reduceEqDiff, Nat.reduceAdd, or_true, true_or, or_false, false_or, nI_clamp2, nI_lt0F, nI_leT, nI_leF, nI_ltT, nI_ltF, n_leF, n_leT, nI_1, kA6, kA8, kA10, kA22, kA26, kA32, kA44, kA56, kA68, kA80, kA93, kA163, kA794, not_or, or_self, and_self, and_true, true_and, hB2, m25, g260_79, m176 _ (show l < 32 by omega), tl, g260_86, bI_ite, bI_itn, decide_true, decide_false, Bool.false_eq_true, g260_89, u2, g260_111, g260_157]
          · have : okE B p n l = false := by unfold okE; simp [u2]
            rw [this]; exact q2)
    replace e1 : bm_run S (d + f + 1 + 3) 260 67 [some (.ref 218), some (.int w), some (.int (nI (p 0))), some (.int (nI (p (n - 1)))), some (.int (nI (p 0 + 1 + 0)))] [] σ1 = bm_run S (d + f + 1 + 3) 260 67 [some (.ref 218), some (.int w), o2, some (.int (nI (p (n - 1)))), some (.int (nI (p 0 + 1 + (L - (p 0 + 1)))))] [] s1 := e1
    replace q1 : Kp σ s1 := q1
    have m25 := (h.kp q1).mr.l
    rw [(q1.at s7 (by omega)).trans hB] at m25
    have hB1 : s1.1 219 = B := (q1.at s7 (by omega)).trans hB
    refine ⟨s1, ?_, q1, q2, q3, q4⟩
    refine (show bm_call S (d + (f + 1) + 3) 260 _ σ = _ from k1).trans ?_
    rw [g260_52, n24, if_pos n6, g260_62, show nI (p 0) + 1 = nI (p 0 + 1 + 0) from nI_1 _]
    refine e1.trans ?_
    rw [g260_67, show p 0 + 1 + (L - (p 0 + 1)) = L by omega]
    simp (disch := omega) only [bm_run_ite, Option.toList_some, Option.bind_some, Option.toList_some, Option.toList_none, List.cons_append, List.nil_append, List.append_nil, eq_self, not_true_eq_false, not_false_eq_true, ite_true, ite_false, ↓reduceIte, Nat.reduceLT, Nat.reduceEqDiff, Nat.reduceAdd, or_true, true_or, or_false, false_or, nI_clamp2, nI_lt0F, nI_leT, nI_leF, nI_ltT, nI_ltF, n_leF, n_leT, nI_1, kA6, kA8, kA10, kA22, kA26, kA32, kA44, kA56, kA68, kA80, kA93, kA163, kA794, not_or, or_self, and_self, and_true, true_and, hB1, m25, g260_163]
theorem m262 (h : RS M L σ) (hB : σ.1 219 = B) : ∃ σ1, bm_call S (d + 9) 262 [.ref 218] σ = some (none, σ1) ∧ Kp σ σ1 ∧ CM σ1 (rgs L B) := by
  have s7 : ¬ Sc 219 := by unfold Sc; omega
  have hL12 := h.rw.L12
  have kp0 : Kp σ (bm_wi (bm_wi (bm_wi σ 218 27 0) 218 29 0) 218 28 0) := (((Kp.rfl σ).w16 (by decide) _).w16 (by decide) _).w16 (by decide) _
  have cr0 : CM (bm_wi (bm_wi (bm_wi σ 218 27 0) 218 29 0) 218 28 0) (0, 0, 0, fun _ => 0) := by
    refine ⟨Nat.zero_le _, ?_, ?_, ?_, fun k hk => absurd hk (Nat.not_lt_zero _)⟩
    · rw [wi_s, upd_n _ _ (by decide), wi_s, upd_n _ _ (by decide), wi_s, upd_s]; rfl
    · rw [wi_s, upd_n _ _ (by decide), wi_s, upd_s]
    · rw [wi_s, upd_s]; rfl
  generalize hs0 : bm_wi (bm_wi (bm_wi σ 218 27 0) 218 29 0) 218 28 0 = σ0 at kp0 cr0
  have hB0 : σ0.1 219 = B := (kp0.at s7 (by omega)).trans hB
  have k7 := m207 (S := S) (d := d + 7) (h.kp kp0).mr (B 22)
  rw [hB0] at k7
  obtain ⟨s1, e1, q1, q2⟩ := loop_ex (fun k (s : bm_S) => bm_run S (d + 9) 262 29 [some (.ref 218), some (.int (orS (dB B (B 22)) L)), some (.int (nI k))] [] s) (fun k s => Kp σ s ∧ CM s (fw (fun l b => if dB B (B 22) l = true then xt L B 5 (pu (fun _ => 0) 0 l) 1 b else b) 0 k (0, 0, 0, fun _ => 0))) L σ0 ⟨kp0, cr0⟩ (by
    intro l s hl hs
    obtain ⟨q1, q2⟩ := hs
    have fe : ∀ g a, fw g 0 (l + 1) a = g l (fw g 0 l a) := fun g a => by rw [fw, Nat.zero_add]
    rw [fe]
    generalize fw (fun l b => if dB B (B 22) l = true then xt L B 5 (pu (fun _ => 0) 0 l) 1 b else b) 0 l (0, 0, 0, fun _ => 0) = b at q2 ⊢
    have h2 := h.kp q1
    have hB2 : s.1 219 = B := (q1.at s7 (by omega)).trans hB
    have m25 := h2.mr.l
    rw [hB2] at m25
    have tl : tb (orS (dB B (B 22)) L) l = dB B (B 22) l := by rw [orS_tb _ (by omega) L (by omega)]; simp [hl]
    cases u3 : dB B (B 22) l
    · rw [u3] at tl
      refine ⟨s, ?_, q1, ?_⟩
      · rw [g262_29]
        simp (disch := omega) only [bm_run_ite, Option.toList_some, Option.bind_some, Option.toList_some, Option.toList_none, List.cons_append, List.nil_append, List.append_nil, eq_self, not_true_eq_false, not_false_eq_true, ite_true, ite_false, ↓reduceIte, Nat.reduceLT, Nat.reduceEqDiff, Nat.reduceAdd, or_true, true_or, or_false, false_or, nI_clamp2, nI_lt0F, nI_leT, nI_leF, nI_ltT, nI_ltF, n_leF, n_leT, nI_1, kA6, kA8, kA10, kA22, kA26, kA32, kA44, kA56, kA68, kA80, kA93, kA163, kA794, not_or, or_self, and_self, and_true, true_and, hB2, m25, g262_40, m176 _ (show l < 32 by omega), tl, bI_ite, bI_itn, decide_true, decide_false, Bool.false_eq_true, g262_46, g262_49, g262_75]
      · rw [if_neg (by decide)]; exact q2
    · rw [u3] at tl
      have q1b := (q1.wi (k := 229) (by unfold Sc; omega) 0 (nI l)).w16 (i := 24) (by decide) 1
      generalize hτ : bm_wi (bm_wi s 229 0 (nI l)) 218 24 1 = τ at q1b
      have h3 := h.kp q1b
      have hB3 : τ.1 219 = B := (q1b.at s7 (by omega)).trans hB
      have cr2 : CM τ b := by
        unfold CM
        rw [← hτ, wi_s, upd_n _ _ (by decide), upd_n _ _ (by decide), upd_n _ _ (by decide), wi_n _ (by decide), wi_n _ (by decide), wi_n _ (by decide)]
        exact q2
      obtain ⟨s4, k4, kp4, cr4, _, _⟩ := m260 (S := S) (d := d) 5 1 (by omega) (by omega) τ (pu (fun _ => 0) 0 l) b (orS (dB B (B 22)) L &&& (bt l ^^^ Int32.ofInt (-1))) h3 hB3 cr2 (fun k hk => by
        have : k = 0 := by omega
        subst this
        rw [← hτ, wi_n _ (by decide), wi_s, upd_s, pu_s]) (by rw [← hτ, wi_s, upd_s]; rfl) (fun k hk => by
        have : k = 0 := by omega
        subst this
        rw [pu_s]; exact hl) (fun j hj => by
        rw [tb_clr _ (by omega) (by omega), orS_tb _ (by omega) L (by omega), nwP_pu]
        by_cases e : j = l
        · subst e; simp [nwP, hj]
        · have e2 : ¬ l = j := fun z => e z.symm
          simp [e, e2, nwP, hj])
      have k5 : bm_call S (d + 8) 260 [.ref 218, .int (orS (dB B (B 22)) L &&& ((1 : Int32) <<< (nI l &&& 31) ^^^ Int32.ofInt (-1)))] τ = some (none, s4) := k4
      refine ⟨s4, ?_, q1b.tr kp4, ?_⟩
      · rw [g262_29]
        simp (disch := omega) only [bm_run_ite, Option.toList_some, Option.bind_some, Option.toList_some, Option.toList_none, List.cons_append, List.nil_append, List.append_nil, eq_self, not_true_eq_false, not_false_eq_true, ite_true, ite_false, ↓reduceIte, Nat.reduceLT, Nat.reduceEqDiff, Nat.reduceAdd, or_true, true_or, or_false, false_or, nI_clamp2, nI_lt0F, nI_leT, nI_leF, nI_ltT, nI_ltF, n_leF, n_leT, nI_1, kA6, kA8, kA10, kA22, kA26, kA32, kA44, kA56, kA68, kA80, kA93, kA163, kA794, not_or, or_self, and_self, and_true, true_and, hB2, m25, g262_40, m176 _ (show l < 32 by omega), tl, bI_ite, bI_itn, decide_true, decide_false, Bool.false_eq_true, g262_46, g262_52, hτ, k5, g262_75]
      · rw [if_pos rfl]; exact cr4)
  have m25 := (h.kp q1).mr.l
  have hB1 : s1.1 219 = B := (q1.at s7 (by omega)).trans hB
  rw [hB1] at m25
  refine ⟨s1, ?_, q1, q2⟩
  rw [e262, g262_0]
  simp (disch := omega) only [bm_run_ite, Option.toList_some, Option.bind_some, Option.toList_some, Option.toList_none, List.cons_append, List.nil_append, List.append_nil, eq_self, not_true_eq_false, not_false_eq_true, ite_true, ite_false, ↓reduceIte, Nat.reduceLT, Nat.reduceEqDiff, Nat.reduceAdd, or_true, true_or, or_false, false_or, nI_clamp2, nI_lt0F, nI_leT, nI_leF, nI_ltT, nI_ltF, n_leF, n_leT, nI_1, kA6, kA8, kA10, kA22, kA26, kA32, kA44, kA56, kA68, kA80, kA93, kA163, kA794, not_or, or_self, and_self, and_true, true_and, hs0, hB0, k7, g262_26]
  refine (show bm_run S (d + 9) 262 29 [some (.ref 218), some (.int (orS (dB B (B 22)) L)), some (.int (nI 0))] [] σ0 = _ from e1).trans ?_
  rw [g262_29]
  simp (disch := omega) only [bm_run_ite, Option.toList_some, Option.bind_some, Option.toList_some, Option.toList_none, List.cons_append, List.nil_append, List.append_nil, eq_self, not_true_eq_false, not_false_eq_true, ite_true, ite_false, ↓reduceIte, Nat.reduceLT, Nat.reduceEqDiff, Nat.reduceAdd, or_true, true_or, or_false, false_or, nI_clamp2, nI_lt0F, nI_leT, nI_leF, nI_ltT, nI_ltF, n_leF, n_leT, nI_1, kA6, kA8, kA10, kA22, kA26, kA32, kA44, kA56, kA68, kA80, kA93, kA163, kA794, not_or, or_self, and_self, and_true, true_and, hB1, m25, g262_81]
theorem p_rings (h : RS M L σ) : PR S (d + 10) 136 263 [] σ := by
  have s7 : ¬ Sc 219 := by unfold Sc; omega
  obtain ⟨σ1, k1, kp, cr⟩ := c67 (S := S) (d := d) h rfl
  obtain ⟨_, c1, _⟩ := cr
  refine PR.ofk (v := .int (nI (rgs L (σ.1 219)).1)) h ⟨σ1, by simp (decide := true) only [e136, g136_0, g136_11, bm_run_ite, Option.toList_some, Option.bind_some, Option.toList_some, Option.toList_none, List.cons_append, List.nil_append, List.append_nil, eq_self, not_true_eq_false, not_false_eq_true, ite_true, ite_false, ↓reduceIte, Nat.reduceLT, Nat.reduceEqDiff, Nat.reduceAdd, or_true, true_or, or_false, false_or, k1, c1], kp⟩ ?_
  intro τ k
  have kk := k.tr (kp_t0 τ)
  obtain ⟨σ2, k2, kp2, cm⟩ := m262 (S := S) (d := d) (h.kp kk) (kk.at s7 (by omega))
  obtain ⟨_, c2, _⟩ := cm
  exact ⟨σ2, by simp (decide := true) only [e263, g263_0, g263_9, bm_run_ite, Option.toList_some, Option.bind_some, Option.toList_some, Option.toList_none, List.cons_append, List.nil_append, List.append_nil, eq_self, not_true_eq_false, not_false_eq_true, ite_true, ite_false, ↓reduceIte, Nat.reduceLT, Nat.reduceEqDiff, Nat.reduceAdd, or_true, true_or, or_false, false_or, k2, c2], (kp_t0 τ).tr kp2⟩
end RINGN
