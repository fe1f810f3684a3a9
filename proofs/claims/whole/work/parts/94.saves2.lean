/-! the class's search for the least cash that saves one -/
theorem t159 : bm_tag 159 = 0 := by decide +kernel
theorem l159 : bm_len 159 = 30 := by decide +kernel
theorem t160 : bm_tag 160 = 0 := by decide +kernel
theorem l160 : bm_len 160 = 30 := by decide +kernel
/-- what looking ahead touches -/
def Fo (σ τ : bm_S) : Prop := (∀ a, (a < 148 ∨ 160 < a) → a ≠ 4 → τ.1 a = σ.1 a) ∧ τ.2 = σ.2
theorem Fo.rfl (σ : bm_S) : Fo σ σ := ⟨fun _ _ _ => Eq.refl _, Eq.refl _⟩
theorem Fo.tr {σ τ ρ : bm_S} (h : Fo σ τ) (h1 : Fo τ ρ) : Fo σ ρ := ⟨fun a x y => (h1.1 a x y).trans (h.1 a x y), h1.2.trans h.2⟩
theorem Fo.wi {σ τ : bm_S} (h : Fo σ τ) {a : Nat} (h0 : 148 ≤ a) (h1 : a ≤ 160) (k : Nat) (x : Int32) : Fo σ (bm_wi τ a k x) := ⟨fun b hb hc => (wi_n τ (by omega) k x).trans (h.1 b hb hc), h.2⟩
theorem Fb.o {σ τ : bm_S} (h : Fb 149 2 σ τ) : Fo σ τ := ⟨fun a x y => h.1 a (by omega) (by omega), h.2⟩
theorem Fo.kp {σ τ : bm_S} (h : Fo σ τ) : Kp σ τ := ⟨fun a x _ => h.1 a (by unfold Sc at x; omega) (by unfold Sc at x; omega), fun b _ => by rw [h.1 218 (by omega) (by omega)], fun a _ => by rw [h.2]⟩
/-- all but the book's stack -/
def F4 (σ τ : bm_S) : Prop := (∀ a, a ≠ 4 → τ.1 a = σ.1 a) ∧ τ.2 = σ.2
theorem F4.rfl (σ : bm_S) : F4 σ σ := ⟨fun _ _ => Eq.refl _, Eq.refl _⟩
theorem F4.tr {σ τ ρ : bm_S} (h : F4 σ τ) (h1 : F4 τ ρ) : F4 σ ρ := ⟨fun a x => (h1.1 a x).trans (h.1 a x), h1.2.trans h.2⟩
theorem F4.kp {σ τ : bm_S} (h : F4 σ τ) : Kp σ τ := ⟨fun a x _ => h.1 a (by unfold Sc at x; omega), fun b _ => by rw [h.1 218 (by omega)], fun a _ => by rw [h.2]⟩
/-- what it has set down of the fairs held -/
def AI (M L m : Nat) (W : Nat → Int32) (H : Nat) (σ : bm_S) : Prop := σ.1 148 3 = nI H ∧ (∀ i, i < H → σ.1 159 i = goB M L W i (26 + m) ∧ σ.1 160 i = shR M L m (goB M L W i)) ∧ BK σ 2 W
theorem AI.f4 {M L m : Nat} {W : Nat → Int32} {H : Nat} {σ τ : bm_S} (h : AI M L m W H σ) (f : F4 σ τ) : AI M L m W H τ := by
  obtain ⟨h1, h2, h3⟩ := h
  refine ⟨by rw [f.1 148 (by decide)]; exact h1, fun i hi => ?_, h3.of (f.1 2 (by decide)) (f.1 3 (by decide))⟩
  rw [f.1 159 (by decide), f.1 160 (by decide)]
  exact h2 i hi
section SAVEN
variable {S : am_S} {d : Nat} {σ : bm_S} {M L : Nat} {B : Nat → Int32}
theorem c101R {w b : Nat} (h : RW M L σ w B) (o : ob b w) (hb : BK σ b B) (hg : GW M L B) : ∃ σ1, bm_call S (d + 4) 101 [.ref w, .ref b, .int 0] σ = some (none, σ1) ∧ RW M L σ1 w (hoB M L B false) ∧ Fb w b σ σ1 ∧ ∀ z, z < M → σ1.1 (w + 9) z = shR M L z B := by
  obtain ⟨σ1, e1, h1, f1, r1⟩ := c101m (S := S) (d := d) h o hb hg (some (.int 0))
  refine ⟨σ1, ?_, h1, f1, r1⟩
  simp only [e101, g101_0, bm_run_ite, Option.toList_some, Option.bind_some, Option.toList_some, Option.toList_none, List.cons_append, List.nil_append, List.append_nil, eq_self, not_true_eq_false, not_false_eq_true, ite_true, ite_false, ↓reduceIte, Nat.reduceLT, Nat.reduceEqDiff, Nat.reduceAdd, or_true, true_or, or_false, false_or, e1]
theorem c305l {W : Nat → Int32} (hM : M ≤ 6) (hL : L ≤ 12) (hW : GA M L W) {m : Nat} (hm : m < M) {N : Nat} (hN : N ≤ 30) : ∀ r k (σ : bm_S), k + r = N → RW M L σ 149 (goB M L W k) → AI M L m W k σ → (∀ i, i < k → tb (goB M L W i 24) m = false) → ∃ H σ1, bm_run S (d + 5) 305 8 [some (.ref 148), some (.ref 2), some (.int (nI m)), some (.int (nI N)), some (.int (nI k))] [] σ = some (none, σ1) ∧ RW M L σ1 149 (goB M L W H) ∧ tlB M L m W N H ∧ AI M L m W H σ1 ∧ Fo σ σ1 := by
  intro r
  induction r with
  | zero =>
    intro k σ hk h ai hn
    have e : k = N := by omega
    subst e
    refine ⟨k, σ, ?_, h, ⟨Nat.le_refl k, hn, Or.inl rfl⟩, ai, Fo.rfl σ⟩
    have le : nI k ≤ nI k := Int32.le_refl _
    rw [g305_8]
    simp only [bm_run_ite, Option.toList_some, Option.bind_some, Option.toList_some, Option.toList_none, List.cons_append, List.nil_append, List.append_nil, eq_self, not_true_eq_false, not_false_eq_true, ite_true, ite_false, ↓reduceIte, Nat.reduceLT, Nat.reduceEqDiff, Nat.reduceAdd, or_true, true_or, or_false, false_or, le, g305_88]
  | succ r ih =>
    intro k σ hk h ai hn
    obtain ⟨h3, hr, hb⟩ := id ai
    have o : ob 2 149 := by unfold ob; omega
    have lt : ¬ nI N ≤ nI k := nI_ge (by omega) (by omega)
    cases q : tb (goB M L W k 24) m
    · have ka : bm_call S (d + 4) 158 [.ref 150, .int (nI m)] σ = some (some (.int (goB M L W k (26 + m))), σ) := h.a1 hm
      have kb : bm_call S (d + 4) 159 [.ref 159, .int (nI k), .int (goB M L W k (26 + m))] σ = some (none, bm_wi σ 159 k (goB M L W k (26 + m))) := set_row t159 l159 (by omega) (by decide) _
      have ha := h.out (a := 159) (by omega) k (goB M L W k (26 + m))
      have ba : BK (bm_wi σ 159 k (goB M L W k (26 + m))) 2 W := hb.of (wi_n _ (by decide) _ _) (wi_n _ (by decide) _ _)
      obtain ⟨σb, kc, hb2, fb, rb⟩ := c101R (S := S) (d := d) ha o (ba.cgK (fun i hi => goB_out hM hL (by omega) k)) (goB_GA hM hL hW k).1
      have rb2 : σb.1 158 m = shR M L m (goB M L W k) := rb m hm
      have kd : bm_call S (d + 4) 158 [.ref 158, .int (nI m)] σb = some (some (.int (σb.1 158 m)), σb) := hb2.a9 hm
      rw [rb2] at kd
      generalize hX : shR M L m (goB M L W k) = X at kd
      have ke : bm_call S (d + 4) 159 [.ref 160, .int (nI k), .int X] σb = some (none, bm_wi σb 160 k X) := set_row t160 l160 (by omega) (by decide) _
      have h9 : RW M L (bm_wi (bm_wi σb 160 k X) 148 3 (nI (k + 1))) 149 (goB M L W (k + 1)) := (hb2.out (a := 160) (by omega) k X).out (a := 148) (by omega) 3 _
      have b9 : BK (bm_wi (bm_wi σb 160 k X) 148 3 (nI (k + 1))) 2 W := (fb.BK o ba).of (by rw [wi_n _ (by decide), wi_n _ (by decide)]) (by rw [wi_n _ (by decide), wi_n _ (by decide)])
      have e159 : (bm_wi (bm_wi σb 160 k X) 148 3 (nI (k + 1))).1 159 = upd (σ.1 159) k (goB M L W k (26 + m)) := by rw [wi_n _ (by decide), wi_n _ (by decide), fb.1 159 (by omega) (by omega), wi_s]
      have e160 : (bm_wi (bm_wi σb 160 k X) 148 3 (nI (k + 1))).1 160 = upd (σ.1 160) k X := by rw [wi_n _ (by decide), wi_s, fb.1 160 (by omega) (by omega), wi_n _ (by decide)]
      have f9 : Fo σ (bm_wi (bm_wi σb 160 k X) 148 3 (nI (k + 1))) := ((((Fo.rfl σ).wi (by omega) (by omega) _ _).tr fb.o).wi (by omega) (by omega) _ _).wi (by omega) (by omega) _ _
      obtain ⟨H, σ2, k9, y1, y2, y3, y4⟩ := ih (k + 1) (bm_wi (bm_wi σb 160 k X) 148 3 (nI (k + 1))) (by omega) h9 ⟨by rw [wi_s, upd_s], fun i hi => by
        rw [e159, e160]
        by_cases e : i = k
        · rw [e, upd_s, upd_s]; exact ⟨rfl, hX.symm⟩
        · rw [upd_n _ _ e, upd_n _ _ e]; exact hr i (by omega), b9⟩ (fun i hi => by
        by_cases e : i = k
        · rw [e]; exact q
        · exact hn i (by omega))
      refine ⟨H, σ2, ?_, y1, y2, y3, f9.tr y4⟩
      rw [← k9, g305_8]
      simp (decide := true) only [bm_run_ite, Option.toList_some, Option.bind_some, Option.toList_some, Option.toList_none, List.cons_append, List.nil_append, List.append_nil, eq_self, not_true_eq_false, not_false_eq_true, ite_true, ite_false, ↓reduceIte, Nat.reduceLT, Nat.reduceEqDiff, Nat.reduceAdd, or_true, true_or, or_false, false_or, lt, g305_14, c80 h (show m < 32 by omega), q, g305_22, bI_itn, g305_25, ka, g305_42, kb, g305_45, kc, g305_54, kd, g305_71, ke, g305_74, nI_1]
    · refine ⟨k, σ, ?_, h, ⟨by omega, hn, Or.inr q⟩, ai, Fo.rfl σ⟩
      rw [g305_8]
      simp (decide := true) only [bm_run_ite, Option.toList_some, Option.bind_some, Option.toList_some, Option.toList_none, List.cons_append, List.nil_append, List.append_nil, eq_self, not_true_eq_false, not_false_eq_true, ite_true, ite_false, ↓reduceIte, Nat.reduceLT, Nat.reduceEqDiff, Nat.reduceAdd, or_true, true_or, or_false, false_or, lt, g305_14, c80 h (show m < 32 by omega), q, g305_22, bI_itn, g305_88]
theorem c305 {W : Nat → Int32} (hM : M ≤ 6) (hL : L ≤ 12) (hW : GA M L W) {m : Nat} (hm : m < M) {N : Nat} (hN : N ≤ 30) (h : RW M L σ 149 W) (hb : BK σ 2 W) : ∃ H σ1, bm_call S (d + 5) 305 [.ref 148, .ref 2, .int (nI m), .int (nI N)] σ = some (none, σ1) ∧ RW M L σ1 149 (goB M L W H) ∧ tlB M L m W N H ∧ AI M L m W H σ1 ∧ Fo σ σ1 := by
  obtain ⟨H, σ1, k1, y1, y2, y3, y4⟩ := c305l (S := S) (d := d) hM hL hW hm hN N 0 (bm_wi σ 148 3 0) (by omega) (h.out (a := 148) (by omega) 3 0) ⟨by rw [wi_s, upd_s]; rfl, fun i hi => absurd hi (by omega), hb.of (wi_n _ (by decide) _ _) (wi_n _ (by decide) _ _)⟩ (fun i hi => absurd hi (by omega))
  refine ⟨H, σ1, ?_, y1, y2, y3, ((Fo.rfl σ).wi (by omega) (by omega) _ _).tr y4⟩
  rw [e305, g305_0]
  exact k1
/-- the law's word, were there e coppers more, at one of the fairs held -/
def alT (M L m : Nat) (W : Nat → Int32) (H e i : Nat) : Prop := 0 < shR M L m (goB M L W i) → tmB (goB M L W i) (nI m) (goB M L W i (26 + m) + nI e) (shR M L m (goB M L W i) - nI e) = decide (i + 1 < H)
theorem c307l {W : Nat → Int32} (hM : M ≤ 6) (hL : L ≤ 12) (hW : GA M L W) {m H : Nat} (hH : H ≤ 30) {e : Nat} : ∀ r k (σ : bm_S) (o6 o7 : Option Value), k + r = H → AI M L m W H σ → (∀ i, i < k → alT M L m W H e i) → ∃ (v : Bool) (σ1 : bm_S), bm_run S (d + 3) 307 3 [some (.ref 148), some (.ref 2), some (.int (W 22)), some (.int (nI m)), some (.int (nI e)), some (.int (nI k)), o6, o7] [] σ = some (some (.int (bI v)), σ1) ∧ (v = true → ∀ i, i < H → alT M L m W H e i) ∧ F4 σ σ1 := by
  intro r
  induction r with
  | zero =>
    intro k σ o6 o7 hk ai hs
    have e : k = H := by omega
    subst e
    refine ⟨true, σ, ?_, fun _ => hs, F4.rfl σ⟩
    have le : nI k ≤ nI k := Int32.le_refl _
    rw [g307_3]
    simp only [bm_run_ite, Option.toList_some, Option.bind_some, Option.toList_some, Option.toList_none, List.cons_append, List.nil_append, List.append_nil, eq_self, not_true_eq_false, not_false_eq_true, ite_true, ite_false, ↓reduceIte, Nat.reduceLT, Nat.reduceEqDiff, Nat.reduceAdd, or_true, true_or, or_false, false_or, ai.1, le, g307_97]
    rfl
  | succ r ih =>
    intro k σ o6 o7 hk ai hs
    obtain ⟨h3, hr, hb⟩ := id ai
    have lt : ¬ nI H ≤ nI k := nI_ge (by omega) (by omega)
    have k1 : bm_call S (d + 2) 158 [.ref 160, .int (nI k)] σ = some (some (.int (shR M L m (goB M L W k))), σ) := by
      rw [at_row t160 l160 (by omega) (by decide), (hr k (by omega)).2]
    have k2 : bm_call S (d + 2) 158 [.ref 159, .int (nI k)] σ = some (some (.int (goB M L W k (26 + m))), σ) := by
      rw [at_row t159 l159 (by omega) (by decide), (hr k (by omega)).1]
    by_cases p : 0 < shR M L m (goB M L W k)
    · have hbC : BK σ 2 (goB M L W k) := hb.cgK (fun i hi => goB_out hM hL (by omega) k)
      obtain ⟨g1, v, kc, ev⟩ := c7t (S := S) (d := d) hbC (goB_GA hM hL hW k).1.1 (nI m) (goB M L W k (26 + m) + nI e) (shR M L m (goB M L W k) - nI e)
      rw [go_22 hM hL k] at kc
      replace kc : bm_call S (d + 2) 7 [.ref 2, .int 1, .int (W 22 + nI k), .int (nI m), .int (goB M L W k (26 + m) + nI e), .int (shR M L m (goB M L W k) - nI e)] σ = some (some (.int v), bm_row σ 4 g1) := kc
      have f1 : F4 σ (bm_row σ 4 g1) := ⟨fun a ha => bm_row_1n _ _ ha, rfl⟩
      have ai1 := ai.f4 f1
      have x3 := ai1.1
      generalize bm_row σ 4 g1 = τ at *
      have eH : nI H - 1 = nI (H - 1) := nI_sub (a := H) (b := 1) (by omega)
      have t2 : bm_tag 2 = 100 := hb.1.1
      generalize hX : shR M L m (goB M L W k) = X at *
      have go : ∀ (b : Bool), (¬ v = 0 ↔ b = true) → (b = decide (k + 1 < H) → ∃ (v : Bool) (σ1 : bm_S), bm_run S (d + 3) 307 3 [some (.ref 148), some (.ref 2), some (.int (W 22)), some (.int (nI m)), some (.int (nI e)), some (.int (nI (k + 1))), am_clr (some (.int X)), some (.int (bI b))] [] τ = some (some (.int (bI v)), σ1) ∧ (v = true → ∀ i, i < H → alT M L m W H e i) ∧ F4 σ σ1) := by
        intro b hb1 hb2
        obtain ⟨v2, σ2, y1, y2, y3⟩ := ih (k + 1) τ (am_clr (some (.int X))) (some (.int (bI b))) (by omega) ai1 (fun i hi => by
          by_cases q : i = k
          · rw [q]
            intro _
            rw [hX, ← hb2]
            cases b
            · cases q2 : tmB (goB M L W k) (nI m) (goB M L W k (26 + m) + nI e) (X - nI e)
              · rfl
              · exact absurd (hb1.mp (ev.mpr q2)) (by decide)
            · exact ev.mp (hb1.mpr rfl)
          · exact hs i (by omega))
        exact ⟨v2, σ2, y1, y2, f1.tr y3⟩
      by_cases y : k + 1 < H
      · have nle : ¬ nI (H - 1) ≤ nI k := nI_ge (by omega) (by omega)
        by_cases z : v = 0
        · refine ⟨false, τ, ?_, fun w => Bool.noConfusion w, f1⟩
          rw [g307_3]
          simp (decide := true) only [bm_run_ite, Option.toList_some, Option.bind_some, Option.toList_some, Option.toList_none, List.cons_append, List.nil_append, List.append_nil, eq_self, not_true_eq_false, not_false_eq_true, ite_true, ite_false, ↓reduceIte, Nat.reduceLT, Nat.reduceEqDiff, Nat.reduceAdd, or_true, true_or, or_false, false_or, h3, lt, g307_12, k1, g307_21, p, g307_31, k2, g307_47, t2, kc, g307_58, z, g307_65, g307_66, x3, eH, nle, g307_81, g307_86, g307_89]
          rfl
        · obtain ⟨v2, σ2, y1, y2, y3⟩ := go true ⟨fun _ => rfl, fun _ => z⟩ (decide_eq_true y).symm
          refine ⟨v2, σ2, ?_, y2, y3⟩
          rw [← y1, g307_3]
          simp (decide := true) only [bm_run_ite, Option.toList_some, Option.bind_some, Option.toList_some, Option.toList_none, List.cons_append, List.nil_append, List.append_nil, eq_self, not_true_eq_false, not_false_eq_true, ite_true, ite_false, ↓reduceIte, Nat.reduceLT, Nat.reduceEqDiff, Nat.reduceAdd, or_true, true_or, or_false, false_or, h3, lt, g307_12, k1, g307_21, p, g307_31, k2, g307_47, t2, kc, g307_58, z, g307_61, g307_66, x3, eH, nle, g307_81, g307_86, g307_91, nI_1]
          rfl
      · have le : nI (H - 1) ≤ nI k := nI_le (by omega) (by omega)
        by_cases z : v = 0
        · obtain ⟨v2, σ2, y1, y2, y3⟩ := go false ⟨fun w => absurd z w, fun w => Bool.noConfusion w⟩ (decide_eq_false y).symm
          refine ⟨v2, σ2, ?_, y2, y3⟩
          rw [← y1, g307_3]
          simp (decide := true) only [bm_run_ite, Option.toList_some, Option.bind_some, Option.toList_some, Option.toList_none, List.cons_append, List.nil_append, List.append_nil, eq_self, not_true_eq_false, not_false_eq_true, ite_true, ite_false, ↓reduceIte, Nat.reduceLT, Nat.reduceEqDiff, Nat.reduceAdd, or_true, true_or, or_false, false_or, h3, lt, g307_12, k1, g307_21, p, g307_31, k2, g307_47, t2, kc, g307_58, z, g307_65, g307_66, x3, eH, le, g307_85, g307_86, g307_91, nI_1]
          rfl
        · refine ⟨false, τ, ?_, fun w => Bool.noConfusion w, f1⟩
          rw [g307_3]
          simp (decide := true) only [bm_run_ite, Option.toList_some, Option.bind_some, Option.toList_some, Option.toList_none, List.cons_append, List.nil_append, List.append_nil, eq_self, not_true_eq_false, not_false_eq_true, ite_true, ite_false, ↓reduceIte, Nat.reduceLT, Nat.reduceEqDiff, Nat.reduceAdd, or_true, true_or, or_false, false_or, h3, lt, g307_12, k1, g307_21, p, g307_31, k2, g307_47, t2, kc, g307_58, z, g307_61, g307_66, x3, eH, le, g307_85, g307_86, g307_89]
          rfl
    · obtain ⟨v2, σ2, y1, y2, y3⟩ := ih (k + 1) σ (some (.int (shR M L m (goB M L W k)))) o7 (by omega) ai (fun i hi => by
        by_cases q : i = k
        · rw [q]; exact fun z => absurd z p
        · exact hs i (by omega))
      refine ⟨v2, σ2, ?_, y2, y3⟩
      rw [← y1, g307_3]
      simp (decide := true) only [bm_run_ite, Option.toList_some, Option.bind_some, Option.toList_some, Option.toList_none, List.cons_append, List.nil_append, List.append_nil, eq_self, not_true_eq_false, not_false_eq_true, ite_true, ite_false, ↓reduceIte, Nat.reduceLT, Nat.reduceEqDiff, Nat.reduceAdd, or_true, true_or, or_false, false_or, h3, lt, g307_12, k1, g307_21, p, g307_28, g307_91, nI_1]
theorem c307 {W : Nat → Int32} (hM : M ≤ 6) (hL : L ≤ 12) (hW : GA M L W) {m H : Nat} (hH : H ≤ 30) (e : Nat) (ai : AI M L m W H σ) : ∃ (v : Bool) (σ1 : bm_S), bm_call S (d + 3) 307 [.ref 148, .ref 2, .int (W 22), .int (nI m), .int (nI e)] σ = some (some (.int (bI v)), σ1) ∧ (v = true → ∀ i, i < H → alT M L m W H e i) ∧ F4 σ σ1 := by
  obtain ⟨v, σ1, k1, y1, y2⟩ := c307l (S := S) (d := d) hM hL hW hH (e := e) H 0 σ none none (by omega) ai (fun i hi => absurd hi (by omega))
  refine ⟨v, σ1, ?_, y1, y2⟩
  rw [e307, g307_0]
  exact k1
/-- the least shortage of those set down, 10,000 at most -/
def lsR (M L m : Nat) (W : Nat → Int32) : Nat → Int32
  | 0 => 10000
  | k + 1 => if 0 < shR M L m (goB M L W k) then (if shR M L m (goB M L W k) < lsR M L m W k then shR M L m (goB M L W k) else lsR M L m W k) else lsR M L m W k
theorem pos_toInt {x : Int32} (h : 0 < x) : 0 < x.toInt := by
  rw [Int32.lt_iff_toInt_lt] at h
  have e : (0 : Int32).toInt = 0 := by decide +kernel
  rw [e] at h
  exact h
theorem lsR_n {m : Nat} {W : Nat → Int32} : ∀ k, ∃ a, lsR M L m W k = nI a ∧ 1 ≤ a ∧ a ≤ 10000 ∧ ∀ i, i < k → 0 < shR M L m (goB M L W i) → (a : Int) ≤ (shR M L m (goB M L W i)).toInt := by
  intro k
  induction k with
  | zero => exact ⟨10000, rfl, by omega, by omega, fun i hi => absurd hi (by omega)⟩
  | succ k ih =>
    obtain ⟨a, e, a1, a2, a3⟩ := ih
    rw [lsR, e]
    by_cases p : 0 < shR M L m (goB M L W k)
    · have p2 := pos_toInt p
      rw [if_pos p]
      by_cases q : shR M L m (goB M L W k) < nI a
      · rw [if_pos q]
        have q2 := q
        rw [Int32.lt_iff_toInt_lt, nI_toInt2 (by omega)] at q2
        refine ⟨(shR M L m (goB M L W k)).toInt.toNat, toInt_nI (by omega), by omega, by omega, fun i hi hp => ?_⟩
        by_cases z : i = k
        · rw [z]; omega
        · have := a3 i (by omega) hp
          omega
      · rw [if_neg q]
        have q2 := q
        rw [Int32.lt_iff_toInt_lt, nI_toInt2 (by omega)] at q2
        refine ⟨a, rfl, a1, a2, fun i hi hp => ?_⟩
        by_cases z : i = k
        · rw [z]; omega
        · exact a3 i (by omega) hp
    · rw [if_neg p]
      refine ⟨a, rfl, a1, a2, fun i hi hp => ?_⟩
      by_cases z : i = k
      · rw [z] at hp; exact absurd hp p
      · exact a3 i (by omega) hp
theorem c306m {W : Nat → Int32} (hM : M ≤ 6) (hL : L ≤ 12) (hW : GA M L W) {m H : Nat} (hH : H ≤ 30) {a0 : Nat} (ha : a0 ≤ 10000) (hl : ∀ i, i < H → 0 < shR M L m (goB M L W i) → (a0 : Int) ≤ (shR M L m (goB M L W i)).toInt) : ∀ r x (σ : bm_S), x + r = a0 → 1 ≤ x → AI M L m W H σ → (∀ e, 1 ≤ e → e < x → ∀ i, i < H → alk M L m W H e i) → ∃ a σ1, bm_run S (d + 4) 306 64 [some (.ref 148), some (.ref 2), some (.int (W 22)), some (.int (nI m)), some (.int (nI a0)), some (.int (nI x))] [] σ = some (some (.int (nI a)), σ1) ∧ 1 ≤ a ∧ a ≤ a0 ∧ (∀ e, 1 ≤ e → e < a → ∀ i, i < H → alk M L m W H e i) ∧ F4 σ σ1 := by
  intro r
  induction r with
  | zero =>
    intro x σ hx h1 ai hs
    have e : x = a0 := by omega
    subst e
    refine ⟨x, σ, ?_, h1, Nat.le_refl x, hs, F4.rfl σ⟩
    have le : nI x ≤ nI x := Int32.le_refl _
    rw [g306_64]
    simp only [bm_run_ite, Option.toList_some, Option.bind_some, Option.toList_some, Option.toList_none, List.cons_append, List.nil_append, List.append_nil, eq_self, not_true_eq_false, not_false_eq_true, ite_true, ite_false, ↓reduceIte, Nat.reduceLT, Nat.reduceEqDiff, Nat.reduceAdd, or_true, true_or, or_false, false_or, le, g306_92]
  | succ r ih =>
    intro x σ hx h1 ai hs
    have lt : ¬ nI a0 ≤ nI x := nI_ge (by omega) (by omega)
    obtain ⟨v, σ1, k1, y1, y2⟩ := c307 (S := S) (d := d) hM hL hW hH x ai
    cases v with
    | false =>
      refine ⟨x, σ1, ?_, h1, by omega, hs, y2⟩
      rw [g306_64]
      simp (decide := true) only [bm_run_ite, Option.toList_some, Option.bind_some, Option.toList_some, Option.toList_none, List.cons_append, List.nil_append, List.append_nil, eq_self, not_true_eq_false, not_false_eq_true, ite_true, ite_false, ↓reduceIte, Nat.reduceLT, Nat.reduceEqDiff, Nat.reduceAdd, or_true, true_or, or_false, false_or, lt, g306_71, k1, g306_80, bI_itn, g306_83]
    | true =>
      obtain ⟨a, σ2, k2, a1, a2, a3, f2⟩ := ih (x + 1) σ1 (by omega) (by omega) (ai.f4 y2) (fun e e1 e2 i hi => by
        by_cases z : e = x
        · rw [z]
          intro p
          have := hl i hi p
          exact ⟨by omega, y1 rfl i hi p⟩
        · exact hs e e1 (by omega) i hi)
      refine ⟨a, σ2, ?_, a1, a2, a3, y2.tr f2⟩
      rw [← k2, g306_64]
      simp (decide := true) only [bm_run_ite, Option.toList_some, Option.bind_some, Option.toList_some, Option.toList_none, List.cons_append, List.nil_append, List.append_nil, eq_self, not_true_eq_false, not_false_eq_true, ite_true, ite_false, ↓reduceIte, Nat.reduceLT, Nat.reduceEqDiff, Nat.reduceAdd, or_true, true_or, or_false, false_or, lt, g306_71, k1, g306_80, bI_itn, g306_86, nI_1]
theorem c306 {W : Nat → Int32} (hM : M ≤ 6) (hL : L ≤ 12) (hW : GA M L W) {m H : Nat} (hH : H ≤ 30) (ai : AI M L m W H σ) (ho : ∀ i, i < H → 0 < shR M L m (goB M L W i) → tmB (goB M L W i) (nI m) (goB M L W i (26 + m)) (shR M L m (goB M L W i)) = decide (i + 1 < H)) : ∃ a σ1, bm_call S (d + 4) 306 [.ref 148, .ref 2, .int (W 22), .int (nI m)] σ = some (some (.int (nI a)), σ1) ∧ 1 ≤ a ∧ a ≤ 10000 ∧ (∀ e, 1 ≤ e → e < a → ∀ i, i < H → alk M L m W H e i) ∧ F4 σ σ1 := by
  obtain ⟨h3, hr, hb⟩ := id ai
  have t2 : bm_tag 2 = 100 := hb.1.1
  have step := loop_eq (fun k => bm_run S (d + 4) 306 8 [some (.ref 148), some (.ref 2), some (.int (W 22)), some (.int (nI m)), some (.int (lsR M L m W k)), some (.int (nI k))] [] σ) H (by
    intro k hk
    have lt : ¬ nI H ≤ nI k := nI_ge (by omega) (by omega)
    have k1 : bm_call S (d + 3) 158 [.ref 160, .int (nI k)] σ = some (some (.int (shR M L m (goB M L W k))), σ) := by
      rw [at_row t160 l160 (by omega) (by decide), (hr k hk).2]
    rw [lsR]
    generalize shR M L m (goB M L W k) = X at k1 ⊢
    generalize lsR M L m W k = Y
    by_cases p : 0 < X
    · have p2 : ¬ X ≤ 0 := Int32.not_le.mpr p
      rw [if_pos p, g306_8]
      simp (decide := true) only [bm_run_ite, Option.toList_some, Option.bind_some, Option.toList_some, Option.toList_none, List.cons_append, List.nil_append, List.append_nil, eq_self, not_true_eq_false, not_false_eq_true, ite_true, ite_false, ↓reduceIte, Nat.reduceLT, Nat.reduceEqDiff, Nat.reduceAdd, or_true, true_or, or_false, false_or, h3, lt, g306_17, k1, g306_26, p2, g306_29, g306_40, c291, g306_43, g306_45, nI_1]
    · have p2 : X ≤ 0 := Int32.not_lt.mp p
      rw [if_neg p, g306_8]
      simp (decide := true) only [bm_run_ite, Option.toList_some, Option.bind_some, Option.toList_some, Option.toList_none, List.cons_append, List.nil_append, List.append_nil, eq_self, not_true_eq_false, not_false_eq_true, ite_true, ite_false, ↓reduceIte, Nat.reduceLT, Nat.reduceEqDiff, Nat.reduceAdd, or_true, true_or, or_false, false_or, h3, lt, g306_17, k1, g306_26, p2, g306_45, nI_1])
  obtain ⟨a0, e0, b1, b2, b3⟩ := lsR_n (M := M) (L := L) (m := m) (W := W) H
  have le : nI H ≤ nI H := Int32.le_refl _
  obtain ⟨v, k10, hv⟩ := c10 (S := S) (d := d + 2) hb hW.1.1
  have go : bm_call S (d + 4) 306 [.ref 148, .ref 2, .int (W 22), .int (nI m)] σ = bm_run S (d + 4) 306 55 [some (.ref 148), some (.ref 2), some (.int (W 22)), some (.int (nI m)), some (.int (nI a0)), some (.int (nI H))] [.int (bI v)] σ := by
    rw [e306, g306_0]
    refine Eq.trans (b := bm_run S (d + 4) 306 8 [some (.ref 148), some (.ref 2), some (.int (W 22)), some (.int (nI m)), some (.int (lsR M L m W 0)), some (.int (nI 0))] [] σ) rfl (step.trans ?_)
    rw [e0, g306_8]
    simp (decide := true) only [bm_run_ite, Option.toList_some, Option.bind_some, Option.toList_some, Option.toList_none, List.cons_append, List.nil_append, List.append_nil, eq_self, not_true_eq_false, not_false_eq_true, ite_true, ite_false, ↓reduceIte, Nat.reduceLT, Nat.reduceEqDiff, Nat.reduceAdd, or_true, true_or, or_false, false_or, h3, le, g306_51, t2, k10]
  cases v with
  | false =>
    have nm := hv rfl
    refine ⟨a0, σ, ?_, b1, b2, fun e e1 e2 i hi p => ?_, F4.rfl σ⟩
    · rw [go, g306_55]
      simp (decide := true) only [bm_run_ite, Option.toList_some, Option.bind_some, Option.toList_some, Option.toList_none, List.cons_append, List.nil_append, List.append_nil, eq_self, not_true_eq_false, not_false_eq_true, ite_true, ite_false, ↓reduceIte, Nat.reduceLT, Nat.reduceEqDiff, Nat.reduceAdd, or_true, true_or, or_false, false_or, bI_itn, g306_58]
    · have := b3 i hi p
      refine ⟨by omega, ?_⟩
      have nmi : NM (goB M L W i) := nm.K (fun j hj => goB_out hM hL (by omega) i)
      rw [nmi.at (nI m) _ _ (goB M L W i (26 + m)) (shR M L m (goB M L W i))]
      exact ho i hi p
  | true =>
    obtain ⟨a, σ1, k1, a1, a2, a3, f1⟩ := c306m (S := S) (d := d) hM hL hW hH b2 b3 (a0 - 1) 1 σ (by omega) (by omega) ai (fun e e1 e2 => absurd e2 (by omega))
    refine ⟨a, σ1, ?_, a1, by omega, a3, f1⟩
    rw [go, g306_55]
    simp (decide := true) only [bm_run_ite, Option.toList_some, Option.bind_some, Option.toList_some, Option.toList_none, List.cons_append, List.nil_append, List.append_nil, eq_self, not_true_eq_false, not_false_eq_true, ite_true, ite_false, ↓reduceIte, Nat.reduceLT, Nat.reduceEqDiff, Nat.reduceAdd, or_true, true_or, or_false, false_or, bI_itn, g306_61]
    exact k1
def svF (br : Nat → Bool) : Nat → Nat → Int32
  | 0, _ => Int32.ofInt (-1)
  | f + 1, x => if br x = true then svF br f (x + 1) else nI x
theorem svF_skip {br : Nat → Bool} : ∀ s f x, (∀ y, x ≤ y → y < x + s → y < x + f → br y = true) → svF br f x = svF br (f - s) (x + s) := by
  intro s
  induction s with
  | zero => intro f x _; rfl
  | succ s ih =>
    intro f x h
    cases f with
    | zero => rw [Nat.zero_sub]; rfl
    | succ f =>
      rw [svF, if_pos (h x (by omega) (by omega) (by omega)), ih f (x + 1) (fun y a b c => h y (by omega) (by omega) (by omega))]
      rw [show f + 1 - (s + 1) = f - s by omega, show x + 1 + s = x + (s + 1) by omega]
def brk (M L : Nat) (B : Nat → Int32) (m N k : Nat) : Bool := tb (goB M L (wiB B m (nI k)) N 24) m
theorem wi_sk (hM : M ≤ 6) (hL : L ≤ 12) (hok : OKB M L B) {m : Nat} (hm : m < M) {N H x a : Nat} (hx : x ≤ 9999) (ha : a ≤ 10000) (t : tlB M L m (wiB B m (nI x)) N H) (al : ∀ e, 1 ≤ e → e < a → ∀ i, i < H → alk M L m (wiB B m (nI x)) H e i) (hb : brk M L B m N x = true) : ∀ y, x ≤ y → y < x + a → y ≤ 9999 → brk M L B m N y = true := by
  intro y h1 h2 h3
  by_cases e : y = x
  · rw [e]; exact hb
  · obtain ⟨c, hc, ec⟩ := hok.1.1.2.2.2 m hm
    have sc : sZ B M ≤ 5994 := hok.2.2.2.2.2.2
    have s2 := ((sZ_rng hok.1.1.2.2.2 M (Nat.le_refl M)).2 m hm).2
    have s3 := s2
    rw [ec, nI_toInt2 (by omega)] at s3
    have eW : ∀ k, k ≤ 9999 → wiB B m (nI k) = upd B (26 + m) (nI (c + k)) := fun k hk => by
      unfold wiB
      rw [ec, nI_add, mn_nI _ (by omega), if_pos (by omega)]
    have es : sZ (wiB B m (nI x)) M ≤ 20000 := by
      rw [eW x hx, sZ_upd hm, ec, nI_toInt2 (by omega), nI_toInt2 (by omega)]
      omega
    have e2 : wiB B m (nI y) = upd (wiB B m (nI x)) (26 + m) (wiB B m (nI x) (26 + m) + nI (y - x)) := by
      rw [eW x hx, eW y h3, upd_upd, upd_s, nI_add, show c + x + (y - x) = c + y by omega]
    unfold brk at hb ⊢
    rw [e2]
    exact alk_brk hM hL hm (hok.wi hm hx).1 es t hb (by omega) (fun i hi => al (y - x) (by omega) (by omega) i hi)
theorem c38l {m N : Nat} (hm : m < M) (hN : N ≤ 30) : ∀ f x t (σ : bm_S), RS M L σ → σ.1 219 = B → 10000 ≤ x + f → t ≤ x → x ≤ 20000 → ∃ σ1, bm_run S (d + 9) 38 6 [some (.ref 148), some (.ref 2), some (.ref 5), some (.int (nI m)), some (.int (nI N)), some (.int (nI x)), some (.int (nI t))] [] σ = some (some (.int (svF (brk M L B m N) (10000 - x) x)), σ1) ∧ Kp σ σ1 := by
  have s7 : ¬ Sc 219 := by unfold Sc; omega
  have done : ∀ x t (σ : bm_S), 10000 ≤ x → x ≤ 20000 → t ≤ x → bm_run S (d + 9) 38 6 [some (.ref 148), some (.ref 2), some (.ref 5), some (.int (nI m)), some (.int (nI N)), some (.int (nI x)), some (.int (nI t))] [] σ = some (some (.int (Int32.ofInt (-1))), σ) := by
    intro x t σ h1 h2 h3
    have q1 : (9999 : Int32) < nI x := nI_lt (a := 9999) (by omega) (by omega)
    rw [g38_6]
    by_cases q : (9999 : Int32) < nI t
    · simp only [bm_run_ite, Option.toList_some, Option.bind_some, Option.toList_some, Option.toList_none, List.cons_append, List.nil_append, List.append_nil, eq_self, not_true_eq_false, not_false_eq_true, ite_true, ite_false, ↓reduceIte, Nat.reduceLT, Nat.reduceEqDiff, Nat.reduceAdd, or_true, true_or, or_false, false_or, q, g38_80]
    · simp only [bm_run_ite, Option.toList_some, Option.bind_some, Option.toList_some, Option.toList_none, List.cons_append, List.nil_append, List.append_nil, eq_self, not_true_eq_false, not_false_eq_true, ite_true, ite_false, ↓reduceIte, Nat.reduceLT, Nat.reduceEqDiff, Nat.reduceAdd, or_true, true_or, or_false, false_or, q, q1, g38_14, g38_80]
  intro f
  induction f with
  | zero =>
    intro x t σ h hB h1 h2 h3
    refine ⟨σ, ?_, Kp.rfl σ⟩
    rw [done x t σ (by omega) h3 h2, show 10000 - x = 0 by omega]
    rfl
  | succ f ih =>
    intro x t σ h hB h1 h2 h3
    rcases Nat.lt_or_ge x 10000 with hx | hx
    · have hr := h.rw
      have hb := h.bk
      have hok := h.1.1
      rw [hB] at hr hb hok
      have hM := hr.M6
      have hL := hr.L12
      have n1 : ¬ (9999 : Int32) < nI t := nI_nlt (a := 9999) (by omega) (by decide)
      have n2 : ¬ (9999 : Int32) < nI x := nI_nlt (a := 9999) (by omega) (by decide)
      obtain ⟨σa, ka, fa, wa⟩ := c77 (S := S) (d := d + 5) (σ := σ) hr.iw w149 (by omega)
      have ra := wa hr
      obtain ⟨σb, kb, rb, bb, pb⟩ : ∃ σb, bm_call S (d + 8) 93 [.ref 149, .int (nI m), .int (nI x)] σa = some (none, σb) ∧ RW M L σb 149 (wiB B m (nI x)) ∧ BK σb 2 (wiB B m (nI x)) ∧ Kp σ σb := ⟨_, c93 (S := S) (d := d + 7) ra hm (nI x), ra.w1 hm _, (hb.of (by rw [wi_n _ (by decide), fa.1 2 (by omega)]) (by rw [wi_n _ (by decide), fa.1 3 (by omega)])).cgK (fun i hi => by unfold wiB; exact upd_n _ _ (by omega)), ((fa.b (b := 2)).kp (by omega)).wi (by unfold Sc; omega) _ _⟩
      have okW := hok.wi hm (show x ≤ 9999 by omega)
      obtain ⟨H, σ2, kc, r2, tl, ai, f2⟩ := c305 (S := S) (d := d + 3) hM hL okW.1 hm hN rb bb
      replace kc : bm_call S (d + 8) 305 [.ref 148, .ref 2, .int (nI m), .int (nI N)] σb = some (none, σ2) := kc
      have kp2 : Kp σ σ2 := pb.tr f2.kp
      have go : bm_run S (d + 9) 38 6 [some (.ref 148), some (.ref 2), some (.ref 5), some (.int (nI m)), some (.int (nI N)), some (.int (nI x)), some (.int (nI t))] [] σ = bm_run S (d + 9) 38 45 [some (.ref 148), some (.ref 2), some (.ref 5), some (.int (nI m)), some (.int (nI N)), some (.int (nI x)), some (.int (nI t))] [] σ2 := by
        rw [g38_6]
        simp (decide := true) only [bm_run_ite, Option.toList_some, Option.bind_some, Option.toList_some, Option.toList_none, List.cons_append, List.nil_append, List.append_nil, eq_self, not_true_eq_false, not_false_eq_true, ite_true, ite_false, ↓reduceIte, Nat.reduceLT, Nat.reduceEqDiff, Nat.reduceAdd, or_true, true_or, or_false, false_or, n1, n2, g38_14, g38_22, e34, g34_0, g34_8, ka, g38_27, kb, g38_37, kc]
      have k80 := c80 (S := S) (d := d + 8) r2 (show m < 32 by omega)
      have ebr : tb (goB M L (wiB B m (nI x)) H 24) m = brk M L B m N x := tl_same hM hL hm tl
      rw [ebr] at k80
      cases q : brk M L B m N x
      · rw [q] at k80
        refine ⟨σ2, go.trans ?_, kp2⟩
        rw [g38_45, show 10000 - x = (9999 - x) + 1 by omega, svF, q]
        simp (decide := true) only [bm_run_ite, Option.toList_some, Option.bind_some, Option.toList_some, Option.toList_none, List.cons_append, List.nil_append, List.append_nil, eq_self, not_true_eq_false, not_false_eq_true, ite_true, ite_false, ↓reduceIte, Nat.reduceLT, Nat.reduceEqDiff, Nat.reduceAdd, or_true, true_or, or_false, false_or, k80, g38_53, bI_itn, g38_56]
      · rw [q] at k80
        have hH : H ≤ 30 := Nat.le_trans tl.1 hN
        obtain ⟨a, σ3, kd, a1, a2, al, f3⟩ := c306 (S := S) (d := d + 4) hM hL okW.1 hH ai (fun i hi hp => tl_time hM hL hm okW.1 tl q hi hp)
        have e22 : wiB B m (nI x) 22 = B 22 := by unfold wiB; exact upd_n _ _ (by omega)
        rw [e22] at kd
        replace kd : bm_call S (d + 8) 306 [.ref 148, .ref 2, .int (B 22), .int (nI m)] σ2 = some (some (.int (nI a)), σ3) := kd
        have h5 := (h.kp kp2).rw
        rw [(kp2.at s7 (by omega)).trans hB] at h5
        have kp3 : Kp σ σ3 := kp2.tr f3.kp
        obtain ⟨σ4, k4, kp4⟩ := ih (x + a) (t + 1) σ3 (h.kp kp3) ((kp3.at s7 (by omega)).trans hB) (by omega) (by omega) (by omega)
        refine ⟨σ4, go.trans ?_, kp3.tr kp4⟩
        rw [svF_skip a (10000 - x) x (fun y b1 b2 b3 => wi_sk hM hL hok hm (by omega) a2 tl al q y b1 b2 (by omega)), show 10000 - x - a = 10000 - (x + a) by omega, ← k4, g38_45]
        simp (decide := true) only [bm_run_ite, Option.toList_some, Option.bind_some, Option.toList_some, Option.toList_none, List.cons_append, List.nil_append, List.append_nil, eq_self, not_true_eq_false, not_false_eq_true, ite_true, ite_false, ↓reduceIte, Nat.reduceLT, Nat.reduceEqDiff, Nat.reduceAdd, or_true, true_or, or_false, false_or, k80, g38_53, bI_itn, g38_59, h5.t, h5.f3, kd, g38_71, nI_1, nI_add]
    · refine ⟨σ, ?_, Kp.rfl σ⟩
      rw [done x t σ hx h3 h2, show 10000 - x = 0 by omega]
      rfl
theorem m258l {m N : Nat} (hm : m < M) (hN : N < 2147483648) : ∀ f x (σ : bm_S) (o3 : Option Value), RS M L σ → σ.1 219 = B → x + f = 10000 → ∃ σ1, bm_run S (d + 10) 258 21 [some (.ref 218), some (.int (nI m)), some (.int (nI N)), o3, some (.int (nI x))] [] σ = some (some (.int (svF (brk M L B m N) f x)), σ1) ∧ Kp σ σ1 := by
  have s7 : ¬ Sc 219 := by unfold Sc; omega
  intro f
  induction f with
  | zero =>
    intro x σ o3 h hB h1
    have q1 : (9999 : Int32) < nI x := nI_lt (a := 9999) (by omega) (by omega)
    refine ⟨σ, ?_, Kp.rfl σ⟩
    rw [g258_21]
    simp only [bm_run_ite, Option.toList_some, Option.bind_some, Option.toList_some, Option.toList_none, List.cons_append, List.nil_append, List.append_nil, eq_self, not_true_eq_false, not_false_eq_true, ite_true, ite_false, ↓reduceIte, Nat.reduceLT, Nat.reduceEqDiff, Nat.reduceAdd, or_true, true_or, or_false, false_or, q1, g258_54]
    rfl
  | succ f ih =>
    intro x σ o3 h hB h1
    have hM := h.rw.M6
    have hok := h.1.1
    rw [hB] at hok
    have q1 : ¬ (9999 : Int32) < nI x := nI_nlt (a := 9999) (by omega) (by decide)
    obtain ⟨σ1, e1, f1⟩ := m257 (S := S) (d := d + 1) hB hok hm (k := x) (by omega) N hN
    have kp1 : Kp σ σ1 := f1.kp
    have m1 := m176 (S := S) (d := d + 9) (σ := σ1) (goB M L (wiB B m (nI x)) N 24) (show m < 32 by omega)
    cases q : brk M L B m N x
    · have q2 : tb (goB M L (wiB B m (nI x)) N 24) m = false := q
      rw [q2] at m1
      refine ⟨σ1, ?_, kp1⟩
      rw [svF, q, g258_21]
      simp (decide := true) only [bm_run_ite, Option.toList_some, Option.bind_some, Option.toList_some, Option.toList_none, List.cons_append, List.nil_append, List.append_nil, eq_self, not_true_eq_false, not_false_eq_true, ite_true, ite_false, ↓reduceIte, Nat.reduceLT, Nat.reduceEqDiff, Nat.reduceAdd, or_true, true_or, or_false, false_or, q1, g258_29, e1, g258_37, m1, g258_42, bI_itn, g258_45]
    · have q2 : tb (goB M L (wiB B m (nI x)) N 24) m = true := q
      rw [q2] at m1
      obtain ⟨σ3, k3, kp3⟩ := ih (x + 1) σ1 (am_clr o3) (h.kp kp1) ((kp1.at s7 (by omega)).trans hB) (by omega)
      refine ⟨σ3, ?_, kp1.tr kp3⟩
      rw [svF, q, if_pos rfl, ← k3, g258_21]
      simp (decide := true) only [bm_run_ite, Option.toList_some, Option.bind_some, Option.toList_some, Option.toList_none, List.cons_append, List.nil_append, List.append_nil, eq_self, not_true_eq_false, not_false_eq_true, ite_true, ite_false, ↓reduceIte, Nat.reduceLT, Nat.reduceEqDiff, Nat.reduceAdd, or_true, true_or, or_false, false_or, q1, g258_29, e1, g258_37, m1, g258_42, bI_itn, g258_48, nI_1]
end SAVEN
section SAVEP
variable {S : am_S} {d : Nat} {σ : bm_S} {M L : Nat}
theorem p_saves (h : RS M L σ) (i n : Int32) : PR S (d + 10) 134 258 [.int i, .int n] σ := by
  have s7 : ¬ Sc 219 := by unfold Sc; omega
  have hM := h.rw.M6
  have hr := h.rw
  cases hi : hasI i M
  · refine PR.ofk (v := .int (Int32.ofInt (-2))) h ⟨σ, by simp (decide := true) only [e134, g134_0, g134_8, g134_11, bm_run_ite, Option.toList_some, Option.bind_some, Option.toList_some, Option.toList_none, List.cons_append, List.nil_append, List.append_nil, eq_self, not_true_eq_false, not_false_eq_true, ite_true, ite_false, ↓reduceIte, Nat.reduceLT, Nat.reduceEqDiff, Nat.reduceAdd, or_true, true_or, or_false, false_or, c78 hr, hi, bI_itn], Kp.rfl σ⟩ ?_
    intro τ k
    have h0 := h.kp (k.tr (kp_t0 τ))
    exact ⟨_, by simp (decide := true) only [e258, g258_0, g258_11, g258_16, e254, g254_0, g254_6, g254_9, g254_14, g254_23, g254_26, g254_31, g254_36, g254_39, g254_44, g254_45, bm_run_ite, Option.toList_some, Option.bind_some, Option.toList_some, Option.toList_none, List.cons_append, List.nil_append, List.append_nil, eq_self, not_true_eq_false, not_false_eq_true, ite_true, ite_false, ↓reduceIte, Nat.reduceLT, Nat.reduceEqDiff, Nat.reduceAdd, or_true, true_or, or_false, false_or, m193i h0.mr, hi, bI_itn], kp_t0 τ⟩
  obtain ⟨m, hm, rfl⟩ := hasI_of hi (by omega)
  rcases bW_01 n.toInt64 1 30 with q | q
  · refine PR.ofk (v := .int (Int32.ofInt (-3))) h ⟨σ, by simp (decide := true) only [e134, g134_0, g134_8, g134_14, g134_23, g134_26, bm_run_ite, Option.toList_some, Option.bind_some, Option.toList_some, Option.toList_none, List.cons_append, List.nil_append, List.append_nil, eq_self, not_true_eq_false, not_false_eq_true, ite_true, ite_false, ↓reduceIte, Nat.reduceLT, Nat.reduceEqDiff, Nat.reduceAdd, or_true, true_or, or_false, false_or, c78 hr, hi, bI_itn, c157, q], Kp.rfl σ⟩ ?_
    intro τ k
    have h0 := h.kp (k.tr (kp_t0 τ))
    exact ⟨_, by simp (decide := true) only [e258, g258_0, g258_11, g258_16, e254, g254_0, g254_6, g254_9, g254_14, g254_23, g254_26, g254_31, g254_36, g254_39, g254_44, g254_45, bm_run_ite, Option.toList_some, Option.bind_some, Option.toList_some, Option.toList_none, List.cons_append, List.nil_append, List.append_nil, eq_self, not_true_eq_false, not_false_eq_true, ite_true, ite_false, ↓reduceIte, Nat.reduceLT, Nat.reduceEqDiff, Nat.reduceAdd, or_true, true_or, or_false, false_or, m193i h0.mr, hi, bI_itn, c163, q], kp_t0 τ⟩
  obtain ⟨N, hN0, hN, rfl⟩ := bW_of (a := 1) (b := 30) (by decide +kernel) (by decide +kernel) (by decide) q
  cases hq : tb (σ.1 219 24) m
  · have hb := h.bk
    obtain ⟨σ1, k1, kp⟩ := c38l (S := S) (d := d) (B := σ.1 219) hm (show N ≤ 30 by omega) 10000 0 0 σ h rfl (by omega) (by omega) (by omega)
    have k38 : bm_call S (d + 9) 38 [.ref 148, .ref 2, .ref 5, .int (nI m), .int (nI N)] σ = some (some (.int (svF (brk M L (σ.1 219) m N) 10000 0)), σ1) := by
      rw [e38, g38_0]
      exact k1
    refine PR.ofk (v := .int (svF (brk M L (σ.1 219) m N) 10000 0)) h ⟨σ1, ?_, kp⟩ ?_
    · simp (decide := true) only [e134, g134_0, g134_8, g134_14, g134_23, g134_29, g134_37, g134_43, bm_run_ite, Option.toList_some, Option.bind_some, Option.toList_some, Option.toList_none, List.cons_append, List.nil_append, List.append_nil, eq_self, not_true_eq_false, not_false_eq_true, ite_true, ite_false, ↓reduceIte, Nat.reduceLT, Nat.reduceEqDiff, Nat.reduceAdd, or_true, true_or, or_false, false_or, c78 hr, hi, bI_itn, bI_ite, c157, q, c80 hr (show m < 32 by omega), hq, k38, g134_60]
    · intro τ k
      have kk := k.tr (kp_t0 τ)
      have h0 := h.kp kk
      have e0 : (bm_wi τ 218 0 0).1 219 = σ.1 219 := kk.at s7 (by omega)
      obtain ⟨σ2, k2, kp2⟩ := m258l (S := S) (d := d) (B := σ.1 219) hm (show N < 2147483648 by omega) 10000 0 (bm_wi τ 218 0 0) (am_clr (some (.int 0))) h0 e0 (by omega)
      refine ⟨σ2, ?_, (kp_t0 τ).tr kp2⟩
      rw [← k2]
      simp (decide := true) only [e258, g258_0, g258_11, g258_18, e254, g254_0, g254_6, g254_9, g254_14, g254_23, g254_26, g254_31, g254_36, g254_39, g254_44, g254_45, bm_run_ite, Option.toList_some, Option.bind_some, Option.toList_some, Option.toList_none, List.cons_append, List.nil_append, List.append_nil, eq_self, not_true_eq_false, not_false_eq_true, ite_true, ite_false, ↓reduceIte, Nat.reduceLT, Nat.reduceEqDiff, Nat.reduceAdd, or_true, true_or, or_false, false_or, m193i h0.mr, hi, bI_itn, bI_ite, c163, q, m196 (show m < 32 by omega), e0, hq]
      rfl
  · refine PR.ofk (v := .int (Int32.ofInt (-5))) h ⟨σ, by simp (decide := true) only [e134, g134_0, g134_8, g134_14, g134_23, g134_29, g134_37, g134_40, bm_run_ite, Option.toList_some, Option.bind_some, Option.toList_some, Option.toList_none, List.cons_append, List.nil_append, List.append_nil, eq_self, not_true_eq_false, not_false_eq_true, ite_true, ite_false, ↓reduceIte, Nat.reduceLT, Nat.reduceEqDiff, Nat.reduceAdd, or_true, true_or, or_false, false_or, c78 hr, hi, bI_itn, bI_ite, c157, q, c80 hr (show m < 32 by omega), hq], Kp.rfl σ⟩ ?_
    intro τ k
    have kk := k.tr (kp_t0 τ)
    have h0 := h.kp kk
    have e0 : (bm_wi τ 218 0 0).1 219 = σ.1 219 := kk.at s7 (by omega)
    exact ⟨_, by simp (decide := true) only [e258, g258_0, g258_11, g258_16, e254, g254_0, g254_6, g254_9, g254_14, g254_23, g254_26, g254_31, g254_36, g254_39, g254_44, g254_45, bm_run_ite, Option.toList_some, Option.bind_some, Option.toList_some, Option.toList_none, List.cons_append, List.nil_append, List.append_nil, eq_self, not_true_eq_false, not_false_eq_true, ite_true, ite_false, ↓reduceIte, Nat.reduceLT, Nat.reduceEqDiff, Nat.reduceAdd, or_true, true_or, or_false, false_or, m193i h0.mr, hi, bI_itn, bI_ite, c163, q, m196 (show m < 32 by omega), e0, hq], kp_t0 τ⟩
end SAVEP
