/-- the state behind: what was is remembered -/
def AF (M L : Nat) (σ σ1 : bm_S) (n e n1 e1 : Nat) : Prop := σ.1 219 92 = nI n ∧ n ≤ 10 ∧ σ.1 42 1 = nI e ∧ e < 10 ∧ n1 = (if n < 10 then n + 1 else 10) ∧ e1 = (if n < 10 then e else (e + 1) % 10) ∧ σ1.1 42 2 = nI n1 ∧ σ1.1 42 1 = nI e1 ∧ RW M L σ1 (44 + 10 * ((e1 + (n1 - 1)) % 10)) (σ.1 219) ∧ (∀ a, a ≠ 42 → (a < 44 + 10 * ((e1 + (n1 - 1)) % 10) ∨ 44 + 10 * ((e1 + (n1 - 1)) % 10) + 7 < a) → σ1.1 a = σ.1 a) ∧ σ1.2 = σ.2
section SEED
variable {S : am_S} {d : Nat} {σ : bm_S} {M L : Nat}
theorem rem_RS (h : RS M L σ) : ∃ σ1 n e n1 e1, bm_call S (d + 3) 42 [.ref 42, .ref 5] σ = some (none, σ1) ∧ AF M L σ σ1 n e n1 e1 := by
  obtain ⟨n, e, p1, p2, p3, p4, p5, _⟩ := h.2.1
  obtain ⟨σ1, n1, e1, r1, r2, r3, r4, r5, r6, r7, r8, r9, r10⟩ := c42 (S := S) (d := d) h.rw p4 p5 p2 p1
  refine ⟨σ1, n, e, n1, e1, r1, p3, p1, p5, p2, ?_, ?_, r6, r7, r8, r9, r10⟩
  · split
    · next q => exact (r4 q).1
    · exact (r5 (by omega)).1
  · split
    · next q => exact (r4 q).2
    · exact (r5 (by omega)).2
theorem AF.at {σ1 : bm_S} {n e n1 e1 : Nat} (af : AF M L σ σ1 n e n1 e1) {a : Nat} (h : a < 42 ∨ 141 < a) : σ1.1 a = σ.1 a := by
  obtain ⟨_, _, _, _, _, _, _, _, _, f, _⟩ := af
  have hr10 : (e1 + (n1 - 1)) % 10 < 10 := Nat.mod_lt _ (by decide)
  exact f a (by omega) (by omega)
theorem fin_RS {σ1 τ : bm_S} {n e n1 e1 L1 : Nat} {C W : Nat → Int32} (h : RS M L σ) (af : AF M L σ σ1 n e n1 e1) (hC : ∀ i, (i < 22 ∨ 92 ≤ i) → C i = σ.1 219 i) (hW : ∀ i, i < 70 → W i = σ.1 219 (22 + i)) (hok : OKB M L1 C) (h217 : τ.1 219 = noB C W n) (hw : RW M L1 τ 5 C) (fr : ∀ a, ¬ Sc a → a ≠ 218 → a ≠ 219 → (a < 5 ∨ 12 < a) → τ.1 a = σ1.1 a) (f16 : ∀ b, b = 5 ∨ b = 13 ∨ b = 14 → τ.1 218 b = σ1.1 218 b) (f2 : ∀ a, a = 211 ∨ a = 213 ∨ a = 215 ∨ a = 217 ∨ a = 237 → τ.2 a = σ1.2 a) : RS M L1 τ := by
  have a0 := af
  obtain ⟨a1, a2, a3, a4, a5, a6, a7, a8, a9, a10, a11⟩ := a0
  have hr10 : (e1 + (n1 - 1)) % 10 < 10 := Nat.mod_lt _ (by decide)
  have e42 : τ.1 42 = σ1.1 42 := fr 42 (by unfold Sc; omega) (by omega) (by omega) (by omega)
  refine mut_RS h a1 a2 a3 a4 a5 a6 hC hW hok h217 hw (by rw [e42]; exact a7) (by rw [e42]; exact a8) (a9.of (fun a h1 h2 => fr a ?_ ?_ ?_ ?_)) ?_ ?_ ?_
  · unfold Sc; omega
  · omega
  · omega
  · omega
  · intro a h1 h2 h3 h4 h5 h6
    rw [fr a h1 h2 h3 h5]
    exact a10 a h4 h6
  · intro b hb; rw [f16 b hb, af.at (by omega)]
  · intro a ha; rw [f2 a ha, a11]
theorem p_seed (h : RS M L σ) (x : Int32) : PR S (d + 10) 115 218 [.int x] σ := by
  obtain ⟨σ1, n, e, n1, e1, k1, af⟩ := rem_RS (S := S) (d := d + 6) h
  have e5 : ∀ a, a < 42 ∨ 141 < a → σ1.1 a = σ.1 a := fun a ha => af.at ha
  have hr1 : RW M L σ1 5 (σ.1 219) := h.rw.of (fun a _ _ => e5 a (by omega))
  have hw := hr1.wf4 x
  have a0 := af
  obtain ⟨a1, a2, _⟩ := a0
  generalize hB : σ.1 219 = B at *
  -- the reference
  have b0 : (bm_wi (bm_wi σ1 5 4 x) 218 0 0).1 219 = B := by rw [wi_n _ (by decide), wi_n _ (by decide), e5 _ (by omega)]; exact hB
  obtain ⟨g1, k2, kg⟩ := m215 (S := S) (d := d + 9) (σ := bm_wi (bm_wi σ1 5 4 x) 218 0 0)
  rw [b0] at kg
  generalize hρ : bm_wi (bm_wi σ1 5 4 x) 218 0 0 = ρ at *
  have r7 : (bm_wi (bm_row ρ 228 g1) 219 23 x).1 219 = upd B 23 x := by rw [wi_s, bm_row_1n _ _ (by decide), b0]
  have r6 : (bm_wi (bm_row ρ 228 g1) 219 23 x).1 228 = g1 := by rw [wi_n _ (by decide), row_row1]
  have k3 := m217 (S := S) (d := d + 9) (σ := bm_wi (bm_row ρ 228 g1) 219 23 x) a2 (by rw [r7, upd_n _ _ (by decide)]; exact a1)
  rw [r7, r6] at k3
  generalize hτ : bm_row (bm_wi (bm_row ρ 228 g1) 219 23 x) 219 (noB (upd B 23 x) g1 n) = τ at k3
  have tn : ∀ a, a ≠ 219 → a ≠ 228 → τ.1 a = ρ.1 a := by
    intro a h1 h2
    rw [← hτ, bm_row_1n _ _ h1, wi_n _ h1, bm_row_1n _ _ h2]
  have rn : ∀ a, a ≠ 5 → a ≠ 218 → ρ.1 a = σ1.1 a := by
    intro a h1 h2
    rw [← hρ, wi_n _ h2, wi_n _ h1]
  refine ⟨.int (B 23), bm_wi σ1 5 4 x, τ, M, L, ?_, ?_, ?_⟩
  · simp only [e115, g115_0, g115_11, bm_run_ite, Option.toList_some, Option.bind_some, Option.toList_some, Option.toList_none, List.cons_append, List.nil_append, List.append_nil, eq_self, not_true_eq_false, not_false_eq_true, ite_true, ite_false, ↓reduceIte, Nat.reduceLT, Nat.reduceEqDiff, Nat.reduceAdd, or_true, true_or, or_false, false_or, k1, hr1.f4]
  · have t26 : τ.1 228 = g1 := by rw [← hτ, bm_row_1n _ _ (by decide)]; exact r6
    simp only [e218, g218_0, g218_9, g218_21, bm_run_ite, Option.toList_some, Option.bind_some, Option.toList_some, Option.toList_none, List.cons_append, List.nil_append, List.append_nil, eq_self, not_true_eq_false, not_false_eq_true, ite_true, ite_false, ↓reduceIte, Nat.reduceLT, Nat.reduceEqDiff, Nat.reduceAdd, or_true, true_or, or_false, false_or, hρ, k2, k3, t26, kg 1 (by decide)]
  · refine fin_RS h af (C := upd B 23 x) (W := g1) ?_ ?_ ?_ ?_ ?_ ?_ ?_ ?_
    · intro i hi; rw [upd_n _ _ (by omega), hB]
    · intro i hi; rw [kg i hi, hB]
    · have := h.1.1
      rw [hB] at this
      exact this.cgx (fun i hi => upd_n _ _ (by omega))
    · rw [← hτ]; exact row_row1 _ _ _
    · exact hw.of (fun a h1 h2 => by rw [tn a (by omega) (by omega), ← hρ, wi_n _ (by omega)])
    · intro a h1 h2 h3 h4
      unfold Sc at h1
      rw [tn a h3 (by omega), rn a (by omega) h2]
    · intro b hb
      rw [tn 218 (by decide) (by decide), ← hρ, wi_s, upd_n _ _ (by omega), wi_n _ (by decide)]
    · intro a ha
      rw [← hτ, ← hρ]; rfl
end SEED
