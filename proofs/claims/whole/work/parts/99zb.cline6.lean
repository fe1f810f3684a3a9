section CLIN6
variable {S : am_S} {d : Nat} {σ : bm_S} {T : Nat → Int32} {n K : Nat} {R : Nat → Int32} {C : List Int32}
/-- a letter is laid down in the class's world -/
theorem c91w {L : Nat} (hL : L < 12) (a b c e l : Int32) (h1 : σ.1 29 1 = nI L) : bm_call S (d + 1) 91 [.ref 29, .int a, .int b, .int c, .int e, .int l] σ = some (none, bm_wi (bm_wi (bm_wi (bm_wi (bm_wi (bm_wi (bm_wi σ 31 L a) 32 L b) 33 L c) 34 L e) 35 L 0) 36 L l) 29 1 (nI (L + 1))) := by
  have s31 : ∀ τ x, bm_call S d 159 [.ref 31, .int (nI L), .int x] τ = some (none, bm_wi τ 31 L x) := fun τ x => set_row t29.t2 t29.l2 hL (by decide) x
  have s32 : ∀ τ x, bm_call S d 159 [.ref 32, .int (nI L), .int x] τ = some (none, bm_wi τ 32 L x) := fun τ x => set_row t29.t3 t29.l3 hL (by decide) x
  have s33 : ∀ τ x, bm_call S d 159 [.ref 33, .int (nI L), .int x] τ = some (none, bm_wi τ 33 L x) := fun τ x => set_row t29.t4 t29.l4 hL (by decide) x
  have s34 : ∀ τ x, bm_call S d 159 [.ref 34, .int (nI L), .int x] τ = some (none, bm_wi τ 34 L x) := fun τ x => set_row t29.t5 t29.l5 hL (by decide) x
  have s35 : ∀ τ x, bm_call S d 159 [.ref 35, .int (nI L), .int x] τ = some (none, bm_wi τ 35 L x) := fun τ x => set_row t29.t6 t29.l6 hL (by decide) x
  have s36 : ∀ τ x, bm_call S d 159 [.ref 36, .int (nI L), .int x] τ = some (none, bm_wi τ 36 L x) := fun τ x => set_row t29.t7 t29.l7 hL (by decide) x
  have u : ∀ τ p x, p ≠ 29 → τ.1 29 1 = nI L → (bm_wi τ p L x).1 29 1 = nI L := fun τ p x hp ht => by rw [wi_n _ (fun z => hp z.symm)]; exact ht
  have u1 := u σ 31 a (by decide) h1
  have u2 := u _ 32 b (by decide) u1
  have u3 := u _ 33 c (by decide) u2
  have u4 := u _ 34 e (by decide) u3
  have u5 := u _ 35 0 (by decide) u4
  have u6 := u _ 36 l (by decide) u5
  simp (decide := true) only [e91, g91_0, g91_12, g91_24, g91_36, g91_49, g91_61, g91_74, bm_run_ite, Option.toList_some, Option.bind_some, Option.toList_some, Option.toList_none, List.cons_append, List.nil_append, List.append_nil, eq_self, not_true_eq_false, not_false_eq_true, ite_true, ite_false, ↓reduceIte, Nat.reduceLT, Nat.reduceEqDiff, Nat.reduceAdd, or_true, true_or, or_false, false_or, t29.t0, h1, s31, u1, s32, u2, s33, u3, s34, u4, s35, u5, s36, u6, nI_1]
theorem c57 (hK : tkK (qN T n) K) (hKn : K ≤ 900) {i M L : Nat} (hM : M ≤ 6) (hL : L ≤ 12) (hi : i < K) (hq : ¬ qN T n i = 22) (c : ClT T n K i σ) (cc : ClC C σ) (w : CWR R σ) (e3 : R 3 = nI M) (e25 : R 25 = nI L) (e80 : ∀ l, l < 12 → R (80 + l) = 0) : ∃ b σ1, bm_call S (d + 2) 57 [.ref 25] σ = some (some (.int b), σ1) ∧ Fln σ σ1 ∧ LCO T n K (ltz (qN T n) (vN T n) M L i R C) b σ1 := by
  unfold ltz
  by_cases q : L = 12
  · subst q
    have w1 := w.L e25
    have l12 : ¬ nI 12 < 12 := by decide
    obtain ⟨σ1, k1, x1, f1⟩ := c52 (S := S) (d := d + 1) (w := 4) hKn (by omega) c
    rw [if_neg hq] at x1
    rw [if_pos rfl]
    refine ⟨0, σ1, ?_, f1.ln, rfl, x1⟩
    simp (decide := true) only [e57, g57_0, g57_12, g57_17, bm_run_ite, Option.toList_some, Option.bind_some, Option.toList_some, Option.toList_none, List.cons_append, List.nil_append, List.append_nil, eq_self, not_true_eq_false, not_false_eq_true, ite_true, ite_false, ↓reduceIte, Nat.reduceLT, Nat.reduceEqDiff, Nat.reduceAdd, or_true, true_or, or_false, false_or, w1, l12, k1, if_true]
  rw [if_neg q]
  obtain ⟨σ1, f1, h⟩ := c57r (S := S) (d := d) hK hKn hM (show L < 12 by omega) hi c cc w e3 e25
  rcases h with ⟨e, e1, k1, x1⟩ | ⟨j, e1, k1, x1, y1, z1⟩
  · rw [e1]
    exact ⟨0, σ1, k1, f1.ln, rfl, x1⟩
  · rw [e1]
    have w2 := w.rd f1
    have w21 := w2.L e25
    have cc2 : ClC C σ1 := cc.rd f1 (by rw [y1]) z1
    have k91 := c91w (S := S) (d := d) (σ := σ1) (L := L) (by omega) (vN T n (i + 1)) (vN T n (i + 3)) (vN T n (i + 5)) (vN T n (i + 7)) (if qN T n (i + 8) = 7 then vN T n (i + 9) else 0) w21
    generalize (if qN T n (i + 8) = 7 then vN T n (i + 9) else 0) = lt at *
    generalize vN T n (i + 1) = va at *
    generalize vN T n (i + 3) = vb at *
    generalize vN T n (i + 5) = vc at *
    generalize vN T n (i + 7) = ve at *
    generalize hτ : bm_wi (bm_wi (bm_wi (bm_wi (bm_wi (bm_wi (bm_wi σ1 31 L va) 32 L vb) 33 L vc) 34 L ve) 35 L 0) 36 L lt) 29 1 (nI (L + 1)) = τ at k91
    have sn : ∀ a, a ≠ 29 → (a < 31 ∨ 36 < a) → τ.1 a = σ1.1 a := fun a h1 h2 => by
      rw [← hτ, wi_n _ h1, wi_n _ (by omega), wi_n _ (by omega), wi_n _ (by omega), wi_n _ (by omega), wi_n _ (by omega), wi_n _ (by omega)]
    have s9 : ∀ k, k ≠ 1 → τ.1 29 k = σ1.1 29 k := fun k hk => by
      rw [← hτ, wi_s, upd_n _ _ hk, wi_n _ (by decide), wi_n _ (by decide), wi_n _ (by decide), wi_n _ (by decide), wi_n _ (by decide), wi_n _ (by decide)]
    have s91 : τ.1 29 1 = nI (L + 1) := by rw [← hτ, wi_s, upd_s]
    have s31 : τ.1 31 = upd (σ1.1 31) L va := by rw [← hτ, wi_n _ (by decide), wi_n _ (by decide), wi_n _ (by decide), wi_n _ (by decide), wi_n _ (by decide), wi_n _ (by decide), wi_s]
    have s32 : τ.1 32 = upd (σ1.1 32) L vb := by rw [← hτ, wi_n _ (by decide), wi_n _ (by decide), wi_n _ (by decide), wi_n _ (by decide), wi_n _ (by decide), wi_s, wi_n _ (by decide)]
    have s33 : τ.1 33 = upd (σ1.1 33) L vc := by rw [← hτ, wi_n _ (by decide), wi_n _ (by decide), wi_n _ (by decide), wi_n _ (by decide), wi_s, wi_n _ (by decide), wi_n _ (by decide)]
    have s34 : τ.1 34 = upd (σ1.1 34) L ve := by rw [← hτ, wi_n _ (by decide), wi_n _ (by decide), wi_n _ (by decide), wi_s, wi_n _ (by decide), wi_n _ (by decide), wi_n _ (by decide)]
    have s35 : τ.1 35 = upd (σ1.1 35) L 0 := by rw [← hτ, wi_n _ (by decide), wi_n _ (by decide), wi_s, wi_n _ (by decide), wi_n _ (by decide), wi_n _ (by decide), wi_n _ (by decide)]
    have s36 : τ.1 36 = upd (σ1.1 36) L lt := by rw [← hτ, wi_n _ (by decide), wi_s, wi_n _ (by decide), wi_n _ (by decide), wi_n _ (by decide), wi_n _ (by decide), wi_n _ (by decide)]
    have fl : Fln σ τ := by
      rw [← hτ]
      exact ((((((f1.ln.wi (by omega) _ _).wi (by omega) _ _).wi (by omega) _ _).wi (by omega) _ _).wi (by omega) _ _).wi (by omega) _ _).wi (by omega) _ _
    obtain ⟨M2, L2, ⟨a1, a2, a3, a4⟩, ⟨b1, b2, b3, b4, b5⟩, g1, g2, g3, g4, g5, g6, g7⟩ := w2
    have eL : L2 = L := (nI_eq (by omega) (by omega)).mp (a4.symm.trans e25)
    subst eL
    have rn : ∀ k, k ≠ 25 → k ≠ 10 + L2 → k ≠ 68 + L2 → k ≠ 56 + L2 → k ≠ 44 + L2 → k ≠ 32 + L2 → lwR R L2 va vb vc ve lt k = R k := fun k h1 h2 h3 h4 h5 h6 => by unfold lwR; rw [upd_n _ _ h1, upd_n _ _ h2, upd_n _ _ h3, upd_n _ _ h4, upd_n _ _ h5, upd_n _ _ h6]
    have rs : ∀ k, (k < 10 ∨ (22 ≤ k ∧ k < 25) ∨ (26 ≤ k ∧ k < 32)) → lwR R L2 va vb vc ve lt k = R k := fun k hk => rn k (by omega) (by omega) (by omega) (by omega) (by omega) (by omega)
    refine ⟨1, τ, k1.trans ?_, fl, rfl, ⟨TAx_w x1.1 (fun b _ => by rw [sn 25 (by decide) (by omega)]) (fun a ha => sn a (by omega) (by omega)), by rw [sn 25 (by decide) (by omega)]; exact x1.2.1, by rw [sn 25 (by decide) (by omega)]; exact x1.2.2⟩, ⟨by rw [sn 26 (by decide) (by omega)]; exact cc2.1, fun m hm => by rw [sn 27 (by decide) (by omega)]; exact cc2.2 m hm⟩, M2, L2 + 1, ⟨a1, by omega, by rw [rs 3 (by omega)]; exact a3, by unfold lwR; rw [upd_s]⟩, ⟨by rw [s9 0 (by decide)]; exact b1, s91, by rw [s9 2 (by decide)]; exact b3, by rw [s9 3 (by decide), rs 22 (by omega)]; exact b4, by rw [s9 4 (by decide)]; exact b5⟩, fun m hm => by rw [sn 30 (by decide) (by omega), rs _ (by omega)]; exact g1 m hm, fun l hl => ?_, by rw [sn 26 (by decide) (by omega), rs 1 (by omega), rs 2 (by omega), rs 0 (by omega)]; exact g3, by rw [sn 26 (by decide) (by omega), rs 4 (by omega)]; exact g4, by rw [sn 26 (by decide) (by omega), rs 4 (by omega), rs 6 (by omega), rs 8 (by omega)]; exact g5, by rw [sn 26 (by decide) (by omega), rs 5 (by omega)]; exact g6, by rw [sn 26 (by decide) (by omega), rs 5 (by omega), rs 7 (by omega), rs 9 (by omega)]; exact g7⟩
    · rw [g57_202]
      simp (decide := true) only [bm_run_ite, Option.toList_some, Option.bind_some, Option.toList_some, Option.toList_none, List.cons_append, List.nil_append, List.append_nil, eq_self, not_true_eq_false, not_false_eq_true, ite_true, ite_false, ↓reduceIte, Nat.reduceLT, Nat.reduceEqDiff, Nat.reduceAdd, or_true, true_or, or_false, false_or, k91, g57_216]
    · rw [s31, s32, s33, s34, s35, s36]
      by_cases el : l = L2
      · subst el
        unfold lwR
        simp only [upd_s]
        refine ⟨?_, ?_, ?_, ?_, ?_, ?_⟩
        · rw [upd_n _ _ (by omega), upd_n _ _ (by omega), upd_n _ _ (by omega), upd_n _ _ (by omega), upd_n _ _ (by omega), upd_s]
        · rw [upd_n _ _ (by omega), upd_n _ _ (by omega), upd_n _ _ (by omega), upd_n _ _ (by omega), upd_s]
        · rw [upd_n _ _ (by omega), upd_n _ _ (by omega), upd_n _ _ (by omega), upd_s]
        · rw [upd_n _ _ (by omega), upd_n _ _ (by omega), upd_s]
        · rw [upd_n _ _ (by omega), upd_n _ _ (by omega), upd_n _ _ (by omega), upd_n _ _ (by omega), upd_n _ _ (by omega), upd_n _ _ (by omega)]; exact (e80 l (by omega)).symm
        · rw [upd_n _ _ (by omega), upd_s]
      · rw [upd_n _ _ el, upd_n _ _ el, upd_n _ _ el, upd_n _ _ el, upd_n _ _ el, upd_n _ _ el, rn _ (by omega) (by omega) (by omega) (by omega) (by omega) (by omega), rn _ (by omega) (by omega) (by omega) (by omega) (by omega) (by omega), rn _ (by omega) (by omega) (by omega) (by omega) (by omega) (by omega), rn _ (by omega) (by omega) (by omega) (by omega) (by omega) (by omega), rn _ (by omega) (by omega) (by omega) (by omega) (by omega) (by omega), rn _ (by omega) (by omega) (by omega) (by omega) (by omega) (by omega)]
        exact g2 l (by omega)
end CLIN6
