/-! copies -/
theorem isW_dj : ∀ s ∈ ([5, 15, 29, 44, 54, 64, 74, 84, 94, 104, 114, 124, 134, 149, 162, 186, 200] : List Nat), ∀ t ∈ ([5, 15, 29, 44, 54, 64, 74, 84, 94, 104, 114, 124, 134, 149, 162, 186, 200] : List Nat), s = t ∨ s + 9 < t ∨ t + 9 < s := by decide +kernel
theorem cpy_lt {f g : Nat → Int32} {n i : Nat} (h : i < n) : va_cpy f g 0 0 n i = f i := by
  unfold va_cpy
  rw [if_pos ⟨Nat.zero_le i, by omega⟩]
  congr 1; omega
section COPY
variable {S : am_S} {d : Nat} {σ : bm_S} {M L s t : Nat} {B : Nat → Int32}
theorem bm_row_n (σ : bm_S) (g : Nat → Int32) {a b : Nat} (h : b ≠ a) : (bm_row σ a g).1 b = σ.1 b := bm_row_1n σ g h
theorem wi_n2 (σ : bm_S) (k : Nat) (x : Int32) {a b : Nat} (h : b ≠ a) : (bm_wi σ a k x).1 b = σ.1 b := wi_n σ h k x
theorem c77 (hs : isW s) (ht : isW t) (hd : s ≠ t) : ∃ σ1, bm_call S (d + 2) 77 [.ref t, .ref s] σ = some (none, σ1) ∧ Fx t σ σ1 ∧ (∀ {M L : Nat} {B : Nat → Int32}, RW M L σ s B → RW M L σ1 t B) := by
  have dj : s + 9 < t ∨ t + 9 < s := by
    rcases isW_dj s hs t ht with q | q
    · exact absurd q hd
    · exact q
  have k1 := fun τ : bm_S => c162 (S := S) (d := d) (σ := τ) hs.t1 ht.t1 (by rw [hs.l1, ht.l1]) (by rw [ht.l1]; decide)
  have k2 := fun τ : bm_S => c162 (S := S) (d := d) (σ := τ) hs.t2 ht.t2 (by rw [hs.l2, ht.l2]) (by rw [ht.l2]; decide)
  have k3 := fun τ : bm_S => c162 (S := S) (d := d) (σ := τ) hs.t3 ht.t3 (by rw [hs.l3, ht.l3]) (by rw [ht.l3]; decide)
  have k4 := fun τ : bm_S => c162 (S := S) (d := d) (σ := τ) hs.t4 ht.t4 (by rw [hs.l4, ht.l4]) (by rw [ht.l4]; decide)
  have k5 := fun τ : bm_S => c162 (S := S) (d := d) (σ := τ) hs.t5 ht.t5 (by rw [hs.l5, ht.l5]) (by rw [ht.l5]; decide)
  have k6 := fun τ : bm_S => c162 (S := S) (d := d) (σ := τ) hs.t6 ht.t6 (by rw [hs.l6, ht.l6]) (by rw [ht.l6]; decide)
  have k7 := fun τ : bm_S => c162 (S := S) (d := d) (σ := τ) hs.t7 ht.t7 (by rw [hs.l7, ht.l7]) (by rw [ht.l7]; decide)
  rw [ht.l1] at k1
  rw [ht.l2] at k2
  rw [ht.l3] at k3
  rw [ht.l4] at k4
  rw [ht.l5] at k5
  rw [ht.l6] at k6
  rw [ht.l7] at k7
  refine ⟨bm_row (bm_row (bm_row (bm_row (bm_row (bm_row (bm_row (bm_row σ t (upd (upd (upd (upd (upd (σ.1 t) 0 (σ.1 s 0)) 1 (σ.1 s 1)) 2 (σ.1 s 2)) 3 (σ.1 s 3)) 4 (σ.1 s 4))) (t + 1) (va_cpy (σ.1 (s + 1)) (σ.1 (t + 1)) 0 0 6)) (t + 2) (va_cpy (σ.1 (s + 2)) (σ.1 (t + 2)) 0 0 12)) (t + 3) (va_cpy (σ.1 (s + 3)) (σ.1 (t + 3)) 0 0 12)) (t + 4) (va_cpy (σ.1 (s + 4)) (σ.1 (t + 4)) 0 0 12)) (t + 5) (va_cpy (σ.1 (s + 5)) (σ.1 (t + 5)) 0 0 12)) (t + 6) (va_cpy (σ.1 (s + 6)) (σ.1 (t + 6)) 0 0 12)) (t + 7) (va_cpy (σ.1 (s + 7)) (σ.1 (t + 7)) 0 0 12), ?_, ?_, ?_⟩
  · rw [e77, g77_0]
    simp (disch := omega) only [hs.t0, ht.t0, if_true, wi_n2]
    simp (disch := omega) only [bm_wi_def, row_row1, bm_row_row, k1, k2, k3, k4, k5, k6, k7, bm_run_ite, Option.toList_some, Option.bind_some, Option.toList_some, Option.toList_none, List.cons_append, List.nil_append, List.append_nil, eq_self, not_true_eq_false, not_false_eq_true, ite_true, ite_false, ↓reduceIte, Nat.reduceLT, Nat.reduceEqDiff, Nat.reduceAdd, or_true, true_or, or_false, false_or, g77_51, g77_62, g77_73, g77_84, g77_95, g77_106, g77_117, hs.t0, ht.t0, bm_row_n]
  · refine ⟨fun a ha => ?_, rfl⟩
    simp (disch := omega) only [bm_row_n]
  · intro M L B h
    have hM := h.M6
    have hL := h.L12
    refine ⟨⟨ht, h.M6, h.L12⟩, ⟨?_, ?_, ?_, ?_, ?_⟩, ?_, ?_, ?_, ?_, ?_, ?_, ?_⟩
    · simp (disch := omega) only [bm_row_n, row_row1, upd_n, upd_s]; exact h.f0
    · simp (disch := omega) only [bm_row_n, row_row1, upd_n, upd_s]; exact h.f1
    · simp (disch := omega) only [bm_row_n, row_row1, upd_n, upd_s]; exact h.f2
    · simp (disch := omega) only [bm_row_n, row_row1, upd_n, upd_s]; exact h.f3
    · simp (disch := omega) only [bm_row_n, row_row1, upd_n, upd_s]; exact h.f4
    · intro i hi; simp (disch := omega) only [bm_row_n, row_row1, cpy_lt]; exact h.r1 hi
    · intro i hi; simp (disch := omega) only [bm_row_n, row_row1, cpy_lt]; exact h.r2 hi
    · intro i hi; simp (disch := omega) only [bm_row_n, row_row1, cpy_lt]; exact h.r3 hi
    · intro i hi; simp (disch := omega) only [bm_row_n, row_row1, cpy_lt]; exact h.r4 hi
    · intro i hi; simp (disch := omega) only [bm_row_n, row_row1, cpy_lt]; exact h.r5 hi
    · intro i hi; simp (disch := omega) only [bm_row_n, row_row1, cpy_lt]; exact h.r6 hi
    · intro i hi; simp (disch := omega) only [bm_row_n, row_row1, cpy_lt]; exact h.r7 hi
theorem isB_dj : ∀ s ∈ ([2, 26, 183, 197] : List Nat), ∀ t ∈ ([2, 26, 183, 197] : List Nat), s = t ∨ s + 2 < t ∨ t + 2 < s := by decide +kernel
theorem isB.bk {b : Nat} (h : isB b) : isBk b := by
  obtain ⟨a1, a2, a3, a4, a5⟩ := isB_all b h
  exact ⟨a1, a2, a3, a4, a5⟩
/-- a book is copied -/
theorem c2 (hs : isB s) (ht : isB t) (hd : s ≠ t) : ∃ σ1, bm_call S (d + 2) 2 [.ref t, .ref s] σ = some (none, σ1) ∧ ((∀ a, a ≠ t → a ≠ t + 1 → σ1.1 a = σ.1 a) ∧ σ1.2 = σ.2) ∧ (∀ i, i < 9 → i ≠ 3 → σ1.1 t i = σ.1 s i) ∧ (∀ i, i < 900 → σ1.1 (t + 1) i = σ.1 (s + 1) i) := by
  have dj : s + 2 < t ∨ t + 2 < s := by
    rcases isB_dj s hs t ht with q | q
    · exact absurd q hd
    · exact q
  obtain ⟨s0, s1, s2, s3, s4⟩ := isB_all s hs
  obtain ⟨t0, t1, t2, t3, t4⟩ := isB_all t ht
  have k1 := fun τ : bm_S => c162 (S := S) (d := d) (σ := τ) s1 t1 (by rw [s3, t3]) (by rw [t3]; decide)
  rw [t3] at k1
  refine ⟨bm_row (bm_row σ t (upd (upd (upd (upd (upd (upd (upd (upd (σ.1 t) 0 (σ.1 s 0)) 1 (σ.1 s 1)) 2 (σ.1 s 2)) 4 (σ.1 s 4)) 5 (σ.1 s 5)) 6 (σ.1 s 6)) 7 (σ.1 s 7)) 8 (σ.1 s 8))) (t + 1) (va_cpy (σ.1 (s + 1)) (σ.1 (t + 1)) 0 0 900), ?_, ?_, ?_, ?_⟩
  · rw [e2, g2_0]
    simp (disch := omega) only [s0, t0, if_true, wi_n2]
    simp (disch := omega) only [bm_wi_def, row_row1, bm_row_row, k1, bm_run_ite, Option.toList_some, Option.bind_some, Option.toList_some, Option.toList_none, List.cons_append, List.nil_append, List.append_nil, eq_self, not_true_eq_false, not_false_eq_true, ite_true, ite_false, ↓reduceIte, Nat.reduceLT, Nat.reduceEqDiff, Nat.reduceAdd, or_true, true_or, or_false, false_or, bm_row_n]
    rw [g2_35]
    simp (disch := omega) only [s0, t0, if_true, wi_n2, bm_row_n]
    simp (disch := omega) only [bm_wi_def, row_row1, bm_row_row, bm_row_n]
    congr 2
    rw [bm_row_comm _ _ _ (show t + 1 ≠ t by omega), bm_row_row]
  · refine ⟨fun a h1 h2 => ?_, rfl⟩
    simp (disch := omega) only [bm_row_n]
  · intro i hi h3
    rw [bm_row_n _ _ (by omega), row_row1]
    have : i = 0 ∨ i = 1 ∨ i = 2 ∨ i = 4 ∨ i = 5 ∨ i = 6 ∨ i = 7 ∨ i = 8 := by omega
    rcases this with rfl | rfl | rfl | rfl | rfl | rfl | rfl | rfl <;> simp (disch := omega) only [upd_n, upd_s]
  · intro i hi
    rw [row_row1, cpy_lt hi]
theorem BK.copy {σ τ : bm_S} (h : BK σ s B) (hl : LW B) (hw : ∀ i, i < 9 → i ≠ 3 → τ.1 t i = σ.1 s i) (hc : ∀ i, i < 900 → τ.1 (t + 1) i = σ.1 (s + 1) i) (ht : isB t) : BK τ t B := by
  obtain ⟨h0, ⟨h1, h2, h3⟩, h4, h4n, h5, h5n⟩ := h
  refine ⟨ht.bk, ⟨?_, ?_, ?_⟩, ?_, ?_, ?_, ?_⟩
  · rw [hw 0 (by omega) (by omega)]; exact h1
  · rw [hw 1 (by omega) (by omega)]; exact h2
  · rw [hw 2 (by omega) (by omega)]; exact h3
  · intro q; rw [hw 5 (by omega) (by omega), hw 6 (by omega) (by omega)]; exact h4 q
  · intro q
    obtain ⟨a1, a2, a3⟩ := h4n q
    obtain ⟨p, n, ep, en, hwf⟩ := hl.2.1 q
    obtain ⟨k1, k2, k3, k4⟩ := wf_n hwf
    have := hwf.1
    refine ⟨by rw [hw 5 (by omega) (by omega)]; exact a1, by rw [hw 6 (by omega) (by omega)]; exact a2, ?_⟩
    rw [ep, en, k3, k4] at a3 ⊢
    intro j hj
    rw [hc _ (by omega)]; exact a3 j hj
  · intro q; rw [hw 7 (by omega) (by omega), hw 8 (by omega) (by omega)]; exact h5 q
  · intro q
    obtain ⟨a1, a2, a3⟩ := h5n q
    obtain ⟨p, n, ep, en, hwf⟩ := hl.2.2 q
    obtain ⟨k1, k2, k3, k4⟩ := wf_n hwf
    have := hwf.1
    refine ⟨by rw [hw 7 (by omega) (by omega)]; exact a1, by rw [hw 8 (by omega) (by omega)]; exact a2, ?_⟩
    rw [ep, en, k3, k4] at a3 ⊢
    intro j hj
    rw [hc _ (by omega)]; exact a3 j hj
end COPY
