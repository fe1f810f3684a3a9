section MGOES
variable {S : am_S} {d : Nat} {σ : bm_S} {M L : Nat}
theorem GW.cg {M L : Nat} (hM : M ≤ 6) (hL : L ≤ 12) {B C : Nat → Int32} (h : GW M L B) (e : eqS B C) : GW M L C := h.cgG hM hL e.g
theorem m212t : ∀ (n : Nat) (σ : bm_S) (s : fS) (o1 : Option Value) (i2 : Int32), MR M L σ → σ.1 219 = s.1 → GW M L s.1 → duO L s → (∀ l, l < L → tb (σ.1 218 21) l = s.2 l) → cnD s.2 L < n → ∃ σ1, bm_run S (d + 5) 212 30 [some (.ref 218), o1, some (.int i2), none, none] [] σ = bm_run S (d + 5) 212 40 [some (.ref 218), o1, some (.int i2), none, none] [] σ1 ∧ σ1.1 219 = (tuF M L n s).1 ∧ (∀ l, l < L → tb (σ1.1 218 21) l = (tuF M L n s).2 l) ∧ (∀ i, i < 6 → σ1.1 225 i = netF (tuF M L n s).2 (tuF M L n s).1 L i) ∧ Fq σ σ1 := by
  intro n
  induction n with
  | zero => intro _ _ _ _ _ _ _ _ _ h; omega
  | succ n ih =>
    intro σ s o1 i2 h hB hw hd hD hc
    have hM := h.M6
    have hL := h.L12
    have ss : (s.1, s.2) = s := rfl
    obtain ⟨σ1, e1, b1, d1, n1, f1⟩ := m211 (S := S) (d := d) h (by rw [hB]; exact hw) hD
    rw [hB, ss] at e1 b1 d1
    rw [hB] at n1
    cases q : anF M L s with
    | false =>
      have qn := anS_no q
      have e5 : tuF M L (n + 1) s = s := by rw [tuF, q]; rfl
      rw [e5]
      unfold tuS at b1 d1
      rw [seF_same _ _ s M qn] at b1 d1
      refine ⟨σ1, ?_, b1, d1, n1, f1⟩
      rw [g212_30]
      simp (disch := omega) only [bm_run_ite, Option.toList_some, Option.bind_some, Option.toList_some, Option.toList_none, List.cons_append, List.nil_append, List.append_nil, eq_self, not_true_eq_false, not_false_eq_true, ite_true, ite_false, ↓reduceIte, Nat.reduceLT, Nat.reduceEqDiff, Nat.reduceAdd, or_true, true_or, or_false, false_or, nI_clamp2, nI_lt0F, nI_leT, nI_leF, nI_ltT, nI_ltF, n_leF, n_leT, nI_1, kA6, kA8, kA10, kA22, kA26, kA32, kA44, kA56, kA68, kA80, kA93, kA163, kA794, not_or, or_self, and_self, and_true, true_and, g212_34, e1, q, bI_ite, Bool.false_eq_true]
    | true =>
      have hs : eqS s.1 (tuS M L s).1 := eqS_seF hL s.1 (netF s.2 s.1 L) s M
      have e5 : tuF M L (n + 1) s = tuF M L n (tuS M L s) := by rw [tuF, q]; rfl
      rw [e5]
      obtain ⟨hl, go, gm, gc⟩ := hw
      have hlt := tuS_lt hM hL hd go gm gc q
      have h1 : MR M L σ1 := h.eqS (by rw [hB, b1]; exact hs)
      obtain ⟨σ2, e2, b2, d2, n2, f2⟩ := ih σ1 (tuS M L s) o1 i2 h1 b1 (GW.cg hM hL ⟨hl, go, gm, gc⟩ hs) (duO_seF hL _ _ hd M) d1 (by omega)
      refine ⟨σ2, ?_, b2, d2, n2, f1.tr f2⟩
      rw [← e2, g212_30]
      simp (disch := omega) only [bm_run_ite, Option.toList_some, Option.bind_some, Option.toList_some, Option.toList_none, List.cons_append, List.nil_append, List.append_nil, eq_self, not_true_eq_false, not_false_eq_true, ite_true, ite_false, ↓reduceIte, Nat.reduceLT, Nat.reduceEqDiff, Nat.reduceAdd, or_true, true_or, or_false, false_or, nI_clamp2, nI_lt0F, nI_leT, nI_leF, nI_ltT, nI_ltF, n_leF, n_leT, nI_1, kA6, kA8, kA10, kA22, kA26, kA32, kA44, kA56, kA68, kA80, kA93, kA163, kA794, not_or, or_self, and_self, and_true, true_and, g212_34, g212_37, e1, q, bI_ite]
def D0 (B : Nat → Int32) (X : Int32) : Nat → Bool := fun l => dB B (B 22) l && !(tb X l)
theorem m212 (h : MR M L σ) (hw : GW M L (σ.1 219)) (X : Int32) : ∃ σ1, bm_call S (d + 5) 212 [.ref 218, .int X] σ = some (some (.int (bcF (faB M L (σ.1 219) (D0 (σ.1 219) X) 24) - bcF (σ.1 219 24))), σ1) ∧ σ1.1 219 = faB M L (σ.1 219) (D0 (σ.1 219) X) ∧ Fq σ σ1 := by
  have hM := h.M6
  have hL := h.L12
  generalize hB : σ.1 219 = B at *
  have hm3 : B 3 = nI M := by rw [← hB]; exact h.m
  have hl25 : B 25 = nI L := by rw [← hB]; exact h.l
  generalize hX : orS (dB B (B 22)) L &&& (X ^^^ Int32.ofInt (-1)) = Y
  have hY : ∀ l, l < L → tb Y l = D0 B X l := by
    intro l hl
    rw [← hX, tb_and, tb_xor, tb_m1 l (by omega), orS_tb _ (by omega) L (by omega)]
    simp [D0, hl]
  have hMR : MR M L (bm_wi σ 218 21 Y) := ⟨h.1, by rw [wi_n _ (by decide), hB]; exact hm3, by rw [wi_n _ (by decide), hB]; exact hl25⟩
  have hd : duO L (B, D0 B X) := by
    intro l hl hq
    simp only [D0, dB, Bool.and_eq_true] at hq
    exact hq.1.1
  obtain ⟨σ1, e1, b1, d1, n1, f1⟩ := m212t (S := S) (d := d) 13 (bm_wi σ 218 21 Y) (B, D0 B X) (some (.int X)) (bcF (B 24)) hMR (by rw [wi_n _ (by decide)]; exact hB) hw hd (by rw [wi_s, upd_s]; exact hY) (by have := cnD_n (D0 B X) L; simp only; omega)
  have f0 : Fq σ (bm_wi σ 218 21 Y) := ((Fp.rfl σ).w16 Y).q
  have es := eqS_tuF (M := M) hL 13 (B, D0 B X)
  replace es : eqS B (tuF M L 13 (B, D0 B X)).1 := es
  unfold faB enB
  generalize hT : tuF M L 13 (B, D0 B X) = T at *
  have k3 : T.1 3 = nI M := by rw [es 3 (by omega) (by omega)]; exact hm3
  have k25 : T.1 25 = nI L := by rw [es 25 (by omega) (by omega)]; exact hl25
  have co : ∀ k, k ≤ M → ∀ i, (i < 26 ∨ 26 + k ≤ i) → itR (caF (netF T.2 T.1 L)) T.1 k i = T.1 i := by
    intro k hk i hi
    refine itR_out (fun C l hl => ?_)
    unfold caF
    exact upd_n _ _ (by omega)
  obtain ⟨⟨o4, σ2⟩, e2, b2, d2, n2, f2⟩ := loop_ex (fun k (s : Option Value × bm_S) => bm_run S (d + 5) 212 42 [some (.ref 218), some (.int X), some (.int (bcF (B 24))), some (.int (nI k)), s.1] [] s.2) (fun k s => s.2.1 219 = itR (caF (netF T.2 T.1 L)) T.1 k ∧ (∀ l, l < L → tb (s.2.1 218 21) l = T.2 l) ∧ (∀ i, i < 6 → s.2.1 225 i = netF T.2 T.1 L i) ∧ Fq σ s.2) M (none, σ1) ⟨b1, d1, n1, f0.tr f1⟩ (by
    intro k s hk hp
    obtain ⟨b2, d2, n2, f2⟩ := hp
    have c3 : itR (caF (netF T.2 T.1 L)) T.1 k 3 = nI M := by rw [co k (by omega) _ (by omega)]; exact k3
    have ec : itR (caF (netF T.2 T.1 L)) T.1 (k + 1) = caF (netF T.2 T.1 L) (itR (caF (netF T.2 T.1 L)) T.1 k) k := rfl
    rw [ec]
    generalize itR (caF (netF T.2 T.1 L)) T.1 k = C at b2 c3
    unfold caF
    refine ⟨(some (.int (C (26 + k) + netF T.2 T.1 L k)), bm_wi s.2 219 (26 + k) (mn (C (26 + k) + netF T.2 T.1 L k))), ?_, ?_, ?_, ?_, f2.tr ((Fp.rfl _).w17 _ _).q⟩
    · have em : ∀ x : Int32, mn x = if x ≤ 999999 then x else 999999 := fun _ => rfl
      rw [g212_42, em]
      by_cases q : C (26 + k) + netF T.2 T.1 L k ≤ 999999
      · simp (disch := omega) only [bm_run_ite, Option.toList_some, Option.bind_some, Option.toList_some, Option.toList_none, List.cons_append, List.nil_append, List.append_nil, eq_self, not_true_eq_false, not_false_eq_true, ite_true, ite_false, ↓reduceIte, Nat.reduceLT, Nat.reduceEqDiff, Nat.reduceAdd, or_true, true_or, or_false, false_or, nI_clamp2, nI_lt0F, nI_leT, nI_leF, nI_ltT, nI_ltF, n_leF, n_leT, nI_1, kA6, kA8, kA10, kA22, kA26, kA32, kA44, kA56, kA68, kA80, kA93, kA163, kA794, not_or, or_self, and_self, and_true, true_and, g212_0, g212_10, g212_23, g212_30, g212_34, g212_37, g212_40, g212_52, g212_86, g212_92, g212_94, g212_101, g212_103, g212_114, g212_123, g212_126, g212_136, g212_142, g212_163, b2, c3, n2 k (show k < 6 by omega), q]
      · simp (disch := omega) only [bm_run_ite, Option.toList_some, Option.bind_some, Option.toList_some, Option.toList_none, List.cons_append, List.nil_append, List.append_nil, eq_self, not_true_eq_false, not_false_eq_true, ite_true, ite_false, ↓reduceIte, Nat.reduceLT, Nat.reduceEqDiff, Nat.reduceAdd, or_true, true_or, or_false, false_or, nI_clamp2, nI_lt0F, nI_leT, nI_leF, nI_ltT, nI_ltF, n_leF, n_leT, nI_1, kA6, kA8, kA10, kA22, kA26, kA32, kA44, kA56, kA68, kA80, kA93, kA163, kA794, not_or, or_self, and_self, and_true, true_and, g212_0, g212_10, g212_23, g212_30, g212_34, g212_37, g212_40, g212_52, g212_86, g212_92, g212_94, g212_101, g212_103, g212_114, g212_123, g212_126, g212_136, g212_142, g212_163, b2, c3, n2 k (show k < 6 by omega), q]
    · rw [wi_s, b2]
    · rw [wi_n _ (by decide)]; exact d2
    · rw [wi_n _ (by decide)]; exact n2)
  replace b2 : σ2.1 219 = itR (caF (netF T.2 T.1 L)) T.1 M := b2
  replace d2 : ∀ l, l < L → tb (σ2.1 218 21) l = T.2 l := d2
  replace f2 : Fq σ σ2 := f2
  have c3 : itR (caF (netF T.2 T.1 L)) T.1 M 3 = nI M := by rw [co M (by omega) _ (by omega)]; exact k3
  have c25 : itR (caF (netF T.2 T.1 L)) T.1 M 25 = nI L := by rw [co M (by omega) _ (by omega)]; exact k25
  generalize hC : itR (caF (netF T.2 T.1 L)) T.1 M = C at *
  have po : ∀ k, k ≤ L → ∀ i, (i < 80 ∨ 80 + k ≤ i) → itR (paF T.2) C k i = C i := by
    intro k hk i hi
    refine itR_out (fun E l hl => ?_)
    unfold paF
    split
    · exact upd_n _ _ (by omega)
    · rfl
  obtain ⟨σ3, e3, b3, d3, f3⟩ := loop_ex (fun k s => bm_run S (d + 5) 212 103 [some (.ref 218), some (.int X), some (.int (bcF (B 24))), some (.int (nI k)), o4] [] s) (fun k s => s.1 219 = itR (paF T.2) C k ∧ (∀ l, l < L → tb (s.1 218 21) l = T.2 l) ∧ Fq σ s) L σ2 ⟨b2, d2, f2⟩ (by
    intro k s hk hp
    obtain ⟨b3, d3, f3⟩ := hp
    have c25 : itR (paF T.2) C k 25 = nI L := by rw [po k (by omega) _ (by omega)]; exact c25
    have ec : itR (paF T.2) C (k + 1) = paF T.2 (itR (paF T.2) C k) k := rfl
    rw [ec]
    generalize itR (paF T.2) C k = E at b3 c25
    unfold paF
    have dk := d3 k hk
    cases hd : T.2 k
    · rw [hd] at dk
      refine ⟨s, ?_, by simpa using b3, d3, f3⟩
      rw [g212_103]
      simp (disch := omega) only [bm_run_ite, Option.toList_some, Option.bind_some, Option.toList_some, Option.toList_none, List.cons_append, List.nil_append, List.append_nil, eq_self, not_true_eq_false, not_false_eq_true, ite_true, ite_false, ↓reduceIte, Nat.reduceLT, Nat.reduceEqDiff, Nat.reduceAdd, or_true, true_or, or_false, false_or, nI_clamp2, nI_lt0F, nI_leT, nI_leF, nI_ltT, nI_ltF, n_leF, n_leT, nI_1, kA6, kA8, kA10, kA22, kA26, kA32, kA44, kA56, kA68, kA80, kA93, kA163, kA794, not_or, or_self, and_self, and_true, true_and, g212_0, g212_10, g212_23, g212_30, g212_34, g212_37, g212_40, g212_42, g212_52, g212_86, g212_92, g212_94, g212_101, g212_114, g212_123, g212_126, g212_136, g212_142, g212_163, b3, c25, m176 _ (show k < 32 by omega), dk, bI_ite, Bool.false_eq_true]
    · rw [hd] at dk
      refine ⟨bm_wi s 219 (80 + k) 1, ?_, by rw [wi_s, b3]; simp, by rw [wi_n _ (by decide)]; exact d3, f3.tr ((Fp.rfl _).w17 _ _).q⟩
      rw [g212_103]
      simp (disch := omega) only [bm_run_ite, Option.toList_some, Option.bind_some, Option.toList_some, Option.toList_none, List.cons_append, List.nil_append, List.append_nil, eq_self, not_true_eq_false, not_false_eq_true, ite_true, ite_false, ↓reduceIte, Nat.reduceLT, Nat.reduceEqDiff, Nat.reduceAdd, or_true, true_or, or_false, false_or, nI_clamp2, nI_lt0F, nI_leT, nI_leF, nI_ltT, nI_ltF, n_leF, n_leT, nI_1, kA6, kA8, kA10, kA22, kA26, kA32, kA44, kA56, kA68, kA80, kA93, kA163, kA794, not_or, or_self, and_self, and_true, true_and, g212_0, g212_10, g212_23, g212_30, g212_34, g212_37, g212_40, g212_42, g212_52, g212_86, g212_92, g212_94, g212_101, g212_114, g212_123, g212_126, g212_136, g212_142, g212_163, b3, c25, m176 _ (show k < 32 by omega), dk, bI_ite])
  have p25 : itR (paF T.2) C L 25 = nI L := by rw [po L (by omega) _ (by omega)]; exact c25
  generalize hE : itR (paF T.2) C L = E at *
  have e24 : upd E 22 (E 22 + 1) 24 = E 24 := upd_n _ _ (by decide)
  refine ⟨bm_wi σ3 219 22 (E 22 + 1), ?_, by rw [wi_s, b3], f3.tr ((Fp.rfl _).w17 _ _).q⟩
  have q22 : (bm_wi σ 218 21 Y).1 219 = B := by rw [wi_n _ (by decide)]; exact hB
  have mm := m207 (S := S) (d := d + 3) h (B 22)
  rw [hB] at mm
  simp only [e212, g212_0, g212_10, g212_23, bm_run_ite, Option.toList_some, Option.bind_some, Option.toList_some, Option.toList_none, List.cons_append, List.nil_append, List.append_nil, eq_self, not_true_eq_false, not_false_eq_true, ite_true, ite_false, ↓reduceIte, Nat.reduceLT, Nat.reduceEqDiff, Nat.reduceAdd, or_true, true_or, or_false, false_or, m197, hB, mm, hX]
  rw [e1, g212_40]
  refine (show bm_run S (d + 5) 212 42 [some (.ref 218), some (.int X), some (.int (bcF (B 24))), some (.int (nI 0)), none] [] _ = _ from e2).trans ?_
  rw [g212_42]
  simp (disch := omega) only [bm_run_ite, Option.toList_some, Option.bind_some, Option.toList_some, Option.toList_none, List.cons_append, List.nil_append, List.append_nil, eq_self, not_true_eq_false, not_false_eq_true, ite_true, ite_false, ↓reduceIte, Nat.reduceLT, Nat.reduceEqDiff, Nat.reduceAdd, or_true, true_or, or_false, false_or, nI_clamp2, nI_lt0F, nI_leT, nI_leF, nI_ltT, nI_ltF, n_leF, n_leT, nI_1, kA6, kA8, kA10, kA22, kA26, kA32, kA44, kA56, kA68, kA80, kA93, kA163, kA794, not_or, or_self, and_self, and_true, true_and, g212_101, b2, c3]
  refine (show bm_run S (d + 5) 212 103 [some (.ref 218), some (.int X), some (.int (bcF (B 24))), some (.int (nI 0)), o4] [] _ = _ from e3).trans ?_
  rw [g212_103]
  simp (disch := omega) only [bm_run_ite, Option.toList_some, Option.bind_some, Option.toList_some, Option.toList_none, List.cons_append, List.nil_append, List.append_nil, eq_self, not_true_eq_false, not_false_eq_true, ite_true, ite_false, ↓reduceIte, Nat.reduceLT, Nat.reduceEqDiff, Nat.reduceAdd, or_true, true_or, or_false, false_or, nI_clamp2, nI_lt0F, nI_leT, nI_leF, nI_ltT, nI_ltF, n_leF, n_leT, nI_1, kA6, kA8, kA10, kA22, kA26, kA32, kA44, kA56, kA68, kA80, kA93, kA163, kA794, not_or, or_self, and_self, and_true, true_and, g212_142, g212_163, b3, p25, m197, wi_s]
theorem m214 (h : MR M L σ) (hw : GW M L (σ.1 219)) : ∃ σ1, bm_call S (d + 6) 214 [.ref 218] σ = some (some (.int (bcF (hoB M L (σ.1 219) true 24) - bcF (σ.1 219 24))), σ1) ∧ σ1.1 219 = hoB M L (σ.1 219) true ∧ Fq σ σ1 := by
  have hM := h.M6
  have hL := h.L12
  generalize hB : σ.1 219 = B at *
  have hl25 : B 25 = nI L := by rw [← hB]; exact h.l
  obtain ⟨σ1, e1, b1, f1⟩ := loop_ex (fun k s => bm_run S (d + 6) 214 14 [some (.ref 218), some (.int (orS (dB B (B 22)) L)), some (.int (nI k))] [] s) (fun k s => s.1 219 = muB k B ∧ Fp σ s) L σ ⟨hB, Fp.rfl σ⟩ (by
    intro k s hk hp
    obtain ⟨b1, f1⟩ := hp
    have dk : tb (orS (dB B (B 22)) L) k = dB B (B 22) k := by rw [orS_tb _ (by omega) L (by omega)]; simp [hk]
    have c25 : muB k B 25 = nI L := by rw [muB_out (by omega) (by omega)]; exact hl25
    have es : muB (k + 1) B = muS (dB B (B 22)) (muB k B) k := rfl
    rw [es]
    generalize muB k B = C at b1 c25
    have hn : ¬ (10 : Int32) = 0 := by decide
    unfold muS
    cases hd : dB B (B 22) k
    · rw [hd] at dk
      refine ⟨s, ?_, by simpa using b1, f1⟩
      rw [g214_14]
      simp (disch := omega) only [bm_run_ite, Option.toList_some, Option.bind_some, Option.toList_some, Option.toList_none, List.cons_append, List.nil_append, List.append_nil, eq_self, not_true_eq_false, not_false_eq_true, ite_true, ite_false, ↓reduceIte, Nat.reduceLT, Nat.reduceEqDiff, Nat.reduceAdd, or_true, true_or, or_false, false_or, nI_clamp2, nI_lt0F, nI_leT, nI_leF, nI_ltT, nI_ltF, n_leF, n_leT, nI_1, kA6, kA8, kA10, kA22, kA26, kA32, kA44, kA56, kA68, kA80, kA93, kA163, kA794, not_or, or_self, and_self, and_true, true_and, g214_0, g214_11, g214_25, g214_31, g214_34, g214_46, g214_52, g214_64, g214_77, g214_83, g214_88, b1, c25, m176 _ (show k < 32 by omega), dk, bI_ite, Bool.false_eq_true]
    · rw [hd] at dk
      by_cases q : 0 < C (10 + k)
      · have q1 : ¬ C (10 + k) ≤ 0 := Int32.not_le.mpr q
        have mm := m213 (S := S) (d := d + 5) (σ := s) hn
        rw [b1] at mm
        by_cases q3 : am_rem (am_ush (drB C 23) 16) 10 < drB C (10 + k)
        · have q4 : ¬ drB C (10 + k) ≤ am_rem (am_ush (drB C 23) 16) 10 := Int32.not_le.mpr q3
          refine ⟨bm_wi (bm_row s 219 (drB C)) 219 (68 + k) (drB C (68 + k) + 1), ?_, ?_, (f1.r17 _).w17 _ _⟩
          · rw [g214_14]
            simp (disch := omega) only [bm_run_ite, Option.toList_some, Option.bind_some, Option.toList_some, Option.toList_none, List.cons_append, List.nil_append, List.append_nil, eq_self, not_true_eq_false, not_false_eq_true, ite_true, ite_false, ↓reduceIte, Nat.reduceLT, Nat.reduceEqDiff, Nat.reduceAdd, or_true, true_or, or_false, false_or, nI_clamp2, nI_lt0F, nI_leT, nI_leF, nI_ltT, nI_ltF, n_leF, n_leT, nI_1, kA6, kA8, kA10, kA22, kA26, kA32, kA44, kA56, kA68, kA80, kA93, kA163, kA794, not_or, or_self, and_self, and_true, true_and, g214_0, g214_11, g214_25, g214_31, g214_34, g214_46, g214_52, g214_64, g214_77, g214_83, g214_88, b1, c25, m176 _ (show k < 32 by omega), dk, bI_ite, q1, mm, row_row1, q4]
          · rw [wi_s, row_row1]; simp [q, q3]
        · have q4 : drB C (10 + k) ≤ am_rem (am_ush (drB C 23) 16) 10 := Int32.not_lt.mp q3
          refine ⟨bm_row s 219 (drB C), ?_, ?_, f1.r17 _⟩
          · rw [g214_14]
            simp (disch := omega) only [bm_run_ite, Option.toList_some, Option.bind_some, Option.toList_some, Option.toList_none, List.cons_append, List.nil_append, List.append_nil, eq_self, not_true_eq_false, not_false_eq_true, ite_true, ite_false, ↓reduceIte, Nat.reduceLT, Nat.reduceEqDiff, Nat.reduceAdd, or_true, true_or, or_false, false_or, nI_clamp2, nI_lt0F, nI_leT, nI_leF, nI_ltT, nI_ltF, n_leF, n_leT, nI_1, kA6, kA8, kA10, kA22, kA26, kA32, kA44, kA56, kA68, kA80, kA93, kA163, kA794, not_or, or_self, and_self, and_true, true_and, g214_0, g214_11, g214_25, g214_31, g214_34, g214_46, g214_52, g214_64, g214_77, g214_83, g214_88, b1, c25, m176 _ (show k < 32 by omega), dk, bI_ite, q1, mm, row_row1, q4]
          · rw [row_row1]; simp [q, q3]
      · have q1 : C (10 + k) ≤ 0 := Int32.not_lt.mp q
        refine ⟨s, ?_, by simpa [q] using b1, f1⟩
        rw [g214_14]
        simp (disch := omega) only [bm_run_ite, Option.toList_some, Option.bind_some, Option.toList_some, Option.toList_none, List.cons_append, List.nil_append, List.append_nil, eq_self, not_true_eq_false, not_false_eq_true, ite_true, ite_false, ↓reduceIte, Nat.reduceLT, Nat.reduceEqDiff, Nat.reduceAdd, or_true, true_or, or_false, false_or, nI_clamp2, nI_lt0F, nI_leT, nI_leF, nI_ltT, nI_ltF, n_leF, n_leT, nI_1, kA6, kA8, kA10, kA22, kA26, kA32, kA44, kA56, kA68, kA80, kA93, kA163, kA794, not_or, or_self, and_self, and_true, true_and, g214_0, g214_11, g214_25, g214_31, g214_34, g214_46, g214_52, g214_64, g214_77, g214_83, g214_88, b1, c25, m176 _ (show k < 32 by omega), dk, bI_ite, q1])
  have eg := eqG_mu hL B
  have h1 : MR M L σ1 := ⟨h.1, by rw [b1, eg 3 (by omega), ← hB]; exact h.m, by rw [b1, muB_out (by omega) (by omega)]; exact hl25⟩
  obtain ⟨σ2, e2, b2, f2⟩ := m212 (S := S) (d := d) h1 (by rw [b1]; exact hw.cgG hM hL eg) 0
  have ed : D0 (σ1.1 219) 0 = dB (muB L B) (muB L B 22) := by
    funext l; unfold D0; rw [b1, tb_0]; simp
  have e24 : muB L B 24 = B 24 := muB_out (by omega) (by omega)
  rw [ed, b1] at e2 b2
  refine ⟨σ2, ?_, by rw [b2]; rfl, f1.q.tr f2⟩
  have mm := m207 (S := S) (d := d + 4) h (B 22)
  rw [hB] at mm
  have l25 : σ1.1 219 25 = nI L := h1.l
  simp only [e214, g214_0, g214_11, bm_run_ite, Option.toList_some, Option.bind_some, Option.toList_some, Option.toList_none, List.cons_append, List.nil_append, List.append_nil, eq_self, not_true_eq_false, not_false_eq_true, ite_true, ite_false, ↓reduceIte, Nat.reduceLT, Nat.reduceEqDiff, Nat.reduceAdd, or_true, true_or, or_false, false_or, hB, mm]
  refine (show bm_run S (d + 6) 214 14 [some (.ref 218), some (.int (orS (dB B (B 22)) L)), some (.int (nI 0))] [] _ = _ from e1).trans ?_
  rw [g214_14]
  simp (disch := omega) only [bm_run_ite, Option.toList_some, Option.bind_some, Option.toList_some, Option.toList_none, List.cons_append, List.nil_append, List.append_nil, eq_self, not_true_eq_false, not_false_eq_true, ite_true, ite_false, ↓reduceIte, Nat.reduceLT, Nat.reduceEqDiff, Nat.reduceAdd, or_true, true_or, or_false, false_or, nI_clamp2, nI_lt0F, nI_leT, nI_leF, nI_ltT, nI_ltF, n_leF, n_leT, nI_1, kA6, kA8, kA10, kA22, kA26, kA32, kA44, kA56, kA68, kA80, kA93, kA163, kA794, not_or, or_self, and_self, and_true, true_and, g214_83, g214_88, l25, e2, e24]
  rfl
end MGOES
