/-! THE CLASS'S WORLDS beside a row of the reference -/
section ROWS
variable {S : am_S} {d : Nat} {σ : bm_S}
theorem at_row {a n k : Nat} (ht : bm_tag a = 0) (hl : bm_len a = n) (hk : k < n) (hn : n < 2 ^ 31) : bm_call S d 158 [.ref a, .int (nI k)] σ = some (some (.int (σ.1 a k)), σ) := by
  rw [c158 ht (by omega), hl, rd_nI hk hn]
theorem set_row {a n k : Nat} (ht : bm_tag a = 0) (hl : bm_len a = n) (hk : k < n) (hn : n < 2 ^ 31) (v : Int32) : bm_call S d 159 [.ref a, .int (nI k), .int v] σ = some (none, bm_wi σ a k v) := by
  rw [c159 ht (by omega), hl, wr_nI hk hn]; rfl
end ROWS
def RW (M L : Nat) (σ : bm_S) (w : Nat) (B : Nat → Int32) : Prop :=
  (isW w ∧ M ≤ 6 ∧ L ≤ 12) ∧ (σ.1 w 0 = nI M ∧ σ.1 w 1 = nI L ∧ σ.1 w 2 = B 24 ∧ σ.1 w 3 = B 22 ∧ σ.1 w 4 = B 23) ∧ (∀ i, i < M → σ.1 (w + 1) i = B (26 + i)) ∧ (∀ i, i < L → σ.1 (w + 2) i = B (32 + i)) ∧ (∀ i, i < L → σ.1 (w + 3) i = B (44 + i)) ∧ (∀ i, i < L → σ.1 (w + 4) i = B (56 + i)) ∧ (∀ i, i < L → σ.1 (w + 5) i = B (68 + i)) ∧ (∀ i, i < L → σ.1 (w + 6) i = B (80 + i)) ∧ (∀ i, i < L → σ.1 (w + 7) i = B (10 + i))
section RWS
variable {S : am_S} {d : Nat} {σ : bm_S} {M L w : Nat} {B : Nat → Int32}
theorem RW.iw (h : RW M L σ w B) : isW w := h.1.1
theorem RW.M6 (h : RW M L σ w B) : M ≤ 6 := h.1.2.1
theorem RW.L12 (h : RW M L σ w B) : L ≤ 12 := h.1.2.2
theorem RW.t (h : RW M L σ w B) : bm_tag w = 110 := h.iw.t0
theorem RW.f0 (h : RW M L σ w B) : σ.1 w 0 = nI M := h.2.1.1
theorem RW.f1 (h : RW M L σ w B) : σ.1 w 1 = nI L := h.2.1.2.1
theorem RW.f2 (h : RW M L σ w B) : σ.1 w 2 = B 24 := h.2.1.2.2.1
theorem RW.f3 (h : RW M L σ w B) : σ.1 w 3 = B 22 := h.2.1.2.2.2.1
theorem RW.f4 (h : RW M L σ w B) : σ.1 w 4 = B 23 := h.2.1.2.2.2.2
theorem RW.r1 (h : RW M L σ w B) {i : Nat} (hi : i < M) : σ.1 (w + 1) i = B (26 + i) := h.2.2.1 i hi
theorem RW.a1 (h : RW M L σ w B) {i : Nat} (hi : i < M) : bm_call S d 158 [.ref (w + 1), .int (nI i)] σ = some (some (.int (B (26 + i))), σ) := by
  rw [at_row h.iw.t1 h.iw.l1 (by have := h.M6; omega) (by decide), h.r1 hi]
theorem RW.s1 (h : RW M L σ w B) {i : Nat} (hi : i < M) (v : Int32) : bm_call S d 159 [.ref (w + 1), .int (nI i), .int v] σ = some (none, bm_wi σ (w + 1) i v) := by
  rw [set_row h.iw.t1 h.iw.l1 (by have := h.M6; omega) (by decide)]
theorem RW.r2 (h : RW M L σ w B) {i : Nat} (hi : i < L) : σ.1 (w + 2) i = B (32 + i) := h.2.2.2.1 i hi
theorem RW.a2 (h : RW M L σ w B) {i : Nat} (hi : i < L) : bm_call S d 158 [.ref (w + 2), .int (nI i)] σ = some (some (.int (B (32 + i))), σ) := by
  rw [at_row h.iw.t2 h.iw.l2 (by have := h.L12; omega) (by decide), h.r2 hi]
theorem RW.s2 (h : RW M L σ w B) {i : Nat} (hi : i < L) (v : Int32) : bm_call S d 159 [.ref (w + 2), .int (nI i), .int v] σ = some (none, bm_wi σ (w + 2) i v) := by
  rw [set_row h.iw.t2 h.iw.l2 (by have := h.L12; omega) (by decide)]
theorem RW.r3 (h : RW M L σ w B) {i : Nat} (hi : i < L) : σ.1 (w + 3) i = B (44 + i) := h.2.2.2.2.1 i hi
theorem RW.a3 (h : RW M L σ w B) {i : Nat} (hi : i < L) : bm_call S d 158 [.ref (w + 3), .int (nI i)] σ = some (some (.int (B (44 + i))), σ) := by
  rw [at_row h.iw.t3 h.iw.l3 (by have := h.L12; omega) (by decide), h.r3 hi]
theorem RW.s3 (h : RW M L σ w B) {i : Nat} (hi : i < L) (v : Int32) : bm_call S d 159 [.ref (w + 3), .int (nI i), .int v] σ = some (none, bm_wi σ (w + 3) i v) := by
  rw [set_row h.iw.t3 h.iw.l3 (by have := h.L12; omega) (by decide)]
theorem RW.r4 (h : RW M L σ w B) {i : Nat} (hi : i < L) : σ.1 (w + 4) i = B (56 + i) := h.2.2.2.2.2.1 i hi
theorem RW.a4 (h : RW M L σ w B) {i : Nat} (hi : i < L) : bm_call S d 158 [.ref (w + 4), .int (nI i)] σ = some (some (.int (B (56 + i))), σ) := by
  rw [at_row h.iw.t4 h.iw.l4 (by have := h.L12; omega) (by decide), h.r4 hi]
theorem RW.s4 (h : RW M L σ w B) {i : Nat} (hi : i < L) (v : Int32) : bm_call S d 159 [.ref (w + 4), .int (nI i), .int v] σ = some (none, bm_wi σ (w + 4) i v) := by
  rw [set_row h.iw.t4 h.iw.l4 (by have := h.L12; omega) (by decide)]
theorem RW.r5 (h : RW M L σ w B) {i : Nat} (hi : i < L) : σ.1 (w + 5) i = B (68 + i) := h.2.2.2.2.2.2.1 i hi
theorem RW.a5 (h : RW M L σ w B) {i : Nat} (hi : i < L) : bm_call S d 158 [.ref (w + 5), .int (nI i)] σ = some (some (.int (B (68 + i))), σ) := by
  rw [at_row h.iw.t5 h.iw.l5 (by have := h.L12; omega) (by decide), h.r5 hi]
theorem RW.s5 (h : RW M L σ w B) {i : Nat} (hi : i < L) (v : Int32) : bm_call S d 159 [.ref (w + 5), .int (nI i), .int v] σ = some (none, bm_wi σ (w + 5) i v) := by
  rw [set_row h.iw.t5 h.iw.l5 (by have := h.L12; omega) (by decide)]
theorem RW.r6 (h : RW M L σ w B) {i : Nat} (hi : i < L) : σ.1 (w + 6) i = B (80 + i) := h.2.2.2.2.2.2.2.1 i hi
theorem RW.a6 (h : RW M L σ w B) {i : Nat} (hi : i < L) : bm_call S d 158 [.ref (w + 6), .int (nI i)] σ = some (some (.int (B (80 + i))), σ) := by
  rw [at_row h.iw.t6 h.iw.l6 (by have := h.L12; omega) (by decide), h.r6 hi]
theorem RW.s6 (h : RW M L σ w B) {i : Nat} (hi : i < L) (v : Int32) : bm_call S d 159 [.ref (w + 6), .int (nI i), .int v] σ = some (none, bm_wi σ (w + 6) i v) := by
  rw [set_row h.iw.t6 h.iw.l6 (by have := h.L12; omega) (by decide)]
theorem RW.r7 (h : RW M L σ w B) {i : Nat} (hi : i < L) : σ.1 (w + 7) i = B (10 + i) := h.2.2.2.2.2.2.2.2 i hi
theorem RW.a7 (h : RW M L σ w B) {i : Nat} (hi : i < L) : bm_call S d 158 [.ref (w + 7), .int (nI i)] σ = some (some (.int (B (10 + i))), σ) := by
  rw [at_row h.iw.t7 h.iw.l7 (by have := h.L12; omega) (by decide), h.r7 hi]
theorem RW.s7 (h : RW M L σ w B) {i : Nat} (hi : i < L) (v : Int32) : bm_call S d 159 [.ref (w + 7), .int (nI i), .int v] σ = some (none, bm_wi σ (w + 7) i v) := by
  rw [set_row h.iw.t7 h.iw.l7 (by have := h.L12; omega) (by decide)]
theorem RW.a8 (h : RW M L σ w B) {i : Nat} (hi : i < M) : bm_call S d 158 [.ref (w + 8), .int (nI i)] σ = some (some (.int (σ.1 (w + 8) i)), σ) := by
  rw [at_row h.iw.t8 h.iw.l8 (by have := h.M6; omega) (by decide)]
theorem RW.s8 (h : RW M L σ w B) {i : Nat} (hi : i < M) (v : Int32) : bm_call S d 159 [.ref (w + 8), .int (nI i), .int v] σ = some (none, bm_wi σ (w + 8) i v) := by
  rw [set_row h.iw.t8 h.iw.l8 (by have := h.M6; omega) (by decide)]
theorem RW.a9 (h : RW M L σ w B) {i : Nat} (hi : i < M) : bm_call S d 158 [.ref (w + 9), .int (nI i)] σ = some (some (.int (σ.1 (w + 9) i)), σ) := by
  rw [at_row h.iw.t9 h.iw.l9 (by have := h.M6; omega) (by decide)]
theorem RW.s9 (h : RW M L σ w B) {i : Nat} (hi : i < M) (v : Int32) : bm_call S d 159 [.ref (w + 9), .int (nI i), .int v] σ = some (none, bm_wi σ (w + 9) i v) := by
  rw [set_row h.iw.t9 h.iw.l9 (by have := h.M6; omega) (by decide)]
theorem wi_n (σ : bm_S) {a b : Nat} (h : b ≠ a) (k : Nat) (x : Int32) : (bm_wi σ a k x).1 b = σ.1 b := by simp [bm_wi, bm_row, h]
theorem wi_s (σ : bm_S) (a k : Nat) (x : Int32) : (bm_wi σ a k x).1 a = upd (σ.1 a) k x := by simp [bm_wi, bm_row]
theorem wi_2 (σ : bm_S) (a k : Nat) (x : Int32) : (bm_wi σ a k x).2 = σ.2 := rfl
theorem RW.of (h : RW M L σ w B) {σ1 : bm_S} (e : ∀ a, w ≤ a → a ≤ w + 7 → σ1.1 a = σ.1 a) : RW M L σ1 w B := by
  have e0 := e w (by omega) (by omega)
  have e1 := e (w + 1) (by omega) (by omega)
  have e2 := e (w + 2) (by omega) (by omega)
  have e3 := e (w + 3) (by omega) (by omega)
  have e4 := e (w + 4) (by omega) (by omega)
  have e5 := e (w + 5) (by omega) (by omega)
  have e6 := e (w + 6) (by omega) (by omega)
  have e7 := e (w + 7) (by omega) (by omega)
  unfold RW at h ⊢
  rw [e0, e1, e2, e3, e4, e5, e6, e7]
  exact h
theorem RW.out (h : RW M L σ w B) {a : Nat} (ha : a < w ∨ w + 7 < a) (k : Nat) (x : Int32) : RW M L (bm_wi σ a k x) w B := h.of (fun b h1 h2 => wi_n σ (by omega) k x)
theorem RW.eqB (h : RW M L σ w B) {C : Nat → Int32} (e : ∀ i, (i = 22 ∨ i = 23 ∨ i = 24 ∨ (26 ≤ i ∧ i < 26 + M) ∨ (32 ≤ i ∧ i < 32 + L) ∨ (44 ≤ i ∧ i < 44 + L) ∨ (56 ≤ i ∧ i < 56 + L) ∨ (68 ≤ i ∧ i < 68 + L) ∨ (80 ≤ i ∧ i < 80 + L) ∨ (10 ≤ i ∧ i < 10 + L)) → C i = B i) : RW M L σ w C := by
  refine ⟨h.1, ⟨h.f0, h.f1, ?_, ?_, ?_⟩, ?_, ?_, ?_, ?_, ?_, ?_, ?_⟩
  · rw [h.f2, e 24 (by omega)]
  · rw [h.f3, e 22 (by omega)]
  · rw [h.f4, e 23 (by omega)]
  · intro i hi; rw [h.r1 hi, e _ (by omega)]
  · intro i hi; rw [h.r2 hi, e _ (by omega)]
  · intro i hi; rw [h.r3 hi, e _ (by omega)]
  · intro i hi; rw [h.r4 hi, e _ (by omega)]
  · intro i hi; rw [h.r5 hi, e _ (by omega)]
  · intro i hi; rw [h.r6 hi, e _ (by omega)]
  · intro i hi; rw [h.r7 hi, e _ (by omega)]
theorem RW.w1 (h : RW M L σ w B) {k : Nat} (hk : k < M) (x : Int32) : RW M L (bm_wi σ (w + 1) k x) w (upd B (26 + k) x) := by
  have hM := h.M6
  have hL := h.L12
  refine ⟨h.1, ⟨?_, ?_, ?_, ?_, ?_⟩, ?_, ?_, ?_, ?_, ?_, ?_, ?_⟩
  · rw [wi_n σ (by omega)]; exact h.f0
  · rw [wi_n σ (by omega)]; exact h.f1
  · rw [wi_n σ (by omega), upd_n B x (by omega)]; exact h.f2
  · rw [wi_n σ (by omega), upd_n B x (by omega)]; exact h.f3
  · rw [wi_n σ (by omega), upd_n B x (by omega)]; exact h.f4
  · intro i hi
    rw [wi_s]
    by_cases e : i = k
    · subst e; rw [upd_s, upd_s]
    · rw [upd_n _ x e, upd_n B x (by omega)]; exact h.r1 hi
  · intro i hi; rw [wi_n σ (by omega), upd_n B x (by omega)]; exact h.r2 hi
  · intro i hi; rw [wi_n σ (by omega), upd_n B x (by omega)]; exact h.r3 hi
  · intro i hi; rw [wi_n σ (by omega), upd_n B x (by omega)]; exact h.r4 hi
  · intro i hi; rw [wi_n σ (by omega), upd_n B x (by omega)]; exact h.r5 hi
  · intro i hi; rw [wi_n σ (by omega), upd_n B x (by omega)]; exact h.r6 hi
  · intro i hi; rw [wi_n σ (by omega), upd_n B x (by omega)]; exact h.r7 hi
theorem RW.w2 (h : RW M L σ w B) {k : Nat} (hk : k < L) (x : Int32) : RW M L (bm_wi σ (w + 2) k x) w (upd B (32 + k) x) := by
  have hM := h.M6
  have hL := h.L12
  refine ⟨h.1, ⟨?_, ?_, ?_, ?_, ?_⟩, ?_, ?_, ?_, ?_, ?_, ?_, ?_⟩
  · rw [wi_n σ (by omega)]; exact h.f0
  · rw [wi_n σ (by omega)]; exact h.f1
  · rw [wi_n σ (by omega), upd_n B x (by omega)]; exact h.f2
  · rw [wi_n σ (by omega), upd_n B x (by omega)]; exact h.f3
  · rw [wi_n σ (by omega), upd_n B x (by omega)]; exact h.f4
  · intro i hi; rw [wi_n σ (by omega), upd_n B x (by omega)]; exact h.r1 hi
  · intro i hi
    rw [wi_s]
    by_cases e : i = k
    · subst e; rw [upd_s, upd_s]
    · rw [upd_n _ x e, upd_n B x (by omega)]; exact h.r2 hi
  · intro i hi; rw [wi_n σ (by omega), upd_n B x (by omega)]; exact h.r3 hi
  · intro i hi; rw [wi_n σ (by omega), upd_n B x (by omega)]; exact h.r4 hi
  · intro i hi; rw [wi_n σ (by omega), upd_n B x (by omega)]; exact h.r5 hi
  · intro i hi; rw [wi_n σ (by omega), upd_n B x (by omega)]; exact h.r6 hi
  · intro i hi; rw [wi_n σ (by omega), upd_n B x (by omega)]; exact h.r7 hi
theorem RW.w3 (h : RW M L σ w B) {k : Nat} (hk : k < L) (x : Int32) : RW M L (bm_wi σ (w + 3) k x) w (upd B (44 + k) x) := by
  have hM := h.M6
  have hL := h.L12
  refine ⟨h.1, ⟨?_, ?_, ?_, ?_, ?_⟩, ?_, ?_, ?_, ?_, ?_, ?_, ?_⟩
  · rw [wi_n σ (by omega)]; exact h.f0
  · rw [wi_n σ (by omega)]; exact h.f1
  · rw [wi_n σ (by omega), upd_n B x (by omega)]; exact h.f2
  · rw [wi_n σ (by omega), upd_n B x (by omega)]; exact h.f3
  · rw [wi_n σ (by omega), upd_n B x (by omega)]; exact h.f4
  · intro i hi; rw [wi_n σ (by omega), upd_n B x (by omega)]; exact h.r1 hi
  · intro i hi; rw [wi_n σ (by omega), upd_n B x (by omega)]; exact h.r2 hi
  · intro i hi
    rw [wi_s]
    by_cases e : i = k
    · subst e; rw [upd_s, upd_s]
    · rw [upd_n _ x e, upd_n B x (by omega)]; exact h.r3 hi
  · intro i hi; rw [wi_n σ (by omega), upd_n B x (by omega)]; exact h.r4 hi
  · intro i hi; rw [wi_n σ (by omega), upd_n B x (by omega)]; exact h.r5 hi
  · intro i hi; rw [wi_n σ (by omega), upd_n B x (by omega)]; exact h.r6 hi
  · intro i hi; rw [wi_n σ (by omega), upd_n B x (by omega)]; exact h.r7 hi
theorem RW.w4 (h : RW M L σ w B) {k : Nat} (hk : k < L) (x : Int32) : RW M L (bm_wi σ (w + 4) k x) w (upd B (56 + k) x) := by
  have hM := h.M6
  have hL := h.L12
  refine ⟨h.1, ⟨?_, ?_, ?_, ?_, ?_⟩, ?_, ?_, ?_, ?_, ?_, ?_, ?_⟩
  · rw [wi_n σ (by omega)]; exact h.f0
  · rw [wi_n σ (by omega)]; exact h.f1
  · rw [wi_n σ (by omega), upd_n B x (by omega)]; exact h.f2
  · rw [wi_n σ (by omega), upd_n B x (by omega)]; exact h.f3
  · rw [wi_n σ (by omega), upd_n B x (by omega)]; exact h.f4
  · intro i hi; rw [wi_n σ (by omega), upd_n B x (by omega)]; exact h.r1 hi
  · intro i hi; rw [wi_n σ (by omega), upd_n B x (by omega)]; exact h.r2 hi
  · intro i hi; rw [wi_n σ (by omega), upd_n B x (by omega)]; exact h.r3 hi
  · intro i hi
    rw [wi_s]
    by_cases e : i = k
    · subst e; rw [upd_s, upd_s]
    · rw [upd_n _ x e, upd_n B x (by omega)]; exact h.r4 hi
  · intro i hi; rw [wi_n σ (by omega), upd_n B x (by omega)]; exact h.r5 hi
  · intro i hi; rw [wi_n σ (by omega), upd_n B x (by omega)]; exact h.r6 hi
  · intro i hi; rw [wi_n σ (by omega), upd_n B x (by omega)]; exact h.r7 hi
theorem RW.w5 (h : RW M L σ w B) {k : Nat} (hk : k < L) (x : Int32) : RW M L (bm_wi σ (w + 5) k x) w (upd B (68 + k) x) := by
  have hM := h.M6
  have hL := h.L12
  refine ⟨h.1, ⟨?_, ?_, ?_, ?_, ?_⟩, ?_, ?_, ?_, ?_, ?_, ?_, ?_⟩
  · rw [wi_n σ (by omega)]; exact h.f0
  · rw [wi_n σ (by omega)]; exact h.f1
  · rw [wi_n σ (by omega), upd_n B x (by omega)]; exact h.f2
  · rw [wi_n σ (by omega), upd_n B x (by omega)]; exact h.f3
  · rw [wi_n σ (by omega), upd_n B x (by omega)]; exact h.f4
  · intro i hi; rw [wi_n σ (by omega), upd_n B x (by omega)]; exact h.r1 hi
  · intro i hi; rw [wi_n σ (by omega), upd_n B x (by omega)]; exact h.r2 hi
  · intro i hi; rw [wi_n σ (by omega), upd_n B x (by omega)]; exact h.r3 hi
  · intro i hi; rw [wi_n σ (by omega), upd_n B x (by omega)]; exact h.r4 hi
  · intro i hi
    rw [wi_s]
    by_cases e : i = k
    · subst e; rw [upd_s, upd_s]
    · rw [upd_n _ x e, upd_n B x (by omega)]; exact h.r5 hi
  · intro i hi; rw [wi_n σ (by omega), upd_n B x (by omega)]; exact h.r6 hi
  · intro i hi; rw [wi_n σ (by omega), upd_n B x (by omega)]; exact h.r7 hi
theorem RW.w6 (h : RW M L σ w B) {k : Nat} (hk : k < L) (x : Int32) : RW M L (bm_wi σ (w + 6) k x) w (upd B (80 + k) x) := by
  have hM := h.M6
  have hL := h.L12
  refine ⟨h.1, ⟨?_, ?_, ?_, ?_, ?_⟩, ?_, ?_, ?_, ?_, ?_, ?_, ?_⟩
  · rw [wi_n σ (by omega)]; exact h.f0
  · rw [wi_n σ (by omega)]; exact h.f1
  · rw [wi_n σ (by omega), upd_n B x (by omega)]; exact h.f2
  · rw [wi_n σ (by omega), upd_n B x (by omega)]; exact h.f3
  · rw [wi_n σ (by omega), upd_n B x (by omega)]; exact h.f4
  · intro i hi; rw [wi_n σ (by omega), upd_n B x (by omega)]; exact h.r1 hi
  · intro i hi; rw [wi_n σ (by omega), upd_n B x (by omega)]; exact h.r2 hi
  · intro i hi; rw [wi_n σ (by omega), upd_n B x (by omega)]; exact h.r3 hi
  · intro i hi; rw [wi_n σ (by omega), upd_n B x (by omega)]; exact h.r4 hi
  · intro i hi; rw [wi_n σ (by omega), upd_n B x (by omega)]; exact h.r5 hi
  · intro i hi
    rw [wi_s]
    by_cases e : i = k
    · subst e; rw [upd_s, upd_s]
    · rw [upd_n _ x e, upd_n B x (by omega)]; exact h.r6 hi
  · intro i hi; rw [wi_n σ (by omega), upd_n B x (by omega)]; exact h.r7 hi
theorem RW.w7 (h : RW M L σ w B) {k : Nat} (hk : k < L) (x : Int32) : RW M L (bm_wi σ (w + 7) k x) w (upd B (10 + k) x) := by
  have hM := h.M6
  have hL := h.L12
  refine ⟨h.1, ⟨?_, ?_, ?_, ?_, ?_⟩, ?_, ?_, ?_, ?_, ?_, ?_, ?_⟩
  · rw [wi_n σ (by omega)]; exact h.f0
  · rw [wi_n σ (by omega)]; exact h.f1
  · rw [wi_n σ (by omega), upd_n B x (by omega)]; exact h.f2
  · rw [wi_n σ (by omega), upd_n B x (by omega)]; exact h.f3
  · rw [wi_n σ (by omega), upd_n B x (by omega)]; exact h.f4
  · intro i hi; rw [wi_n σ (by omega), upd_n B x (by omega)]; exact h.r1 hi
  · intro i hi; rw [wi_n σ (by omega), upd_n B x (by omega)]; exact h.r2 hi
  · intro i hi; rw [wi_n σ (by omega), upd_n B x (by omega)]; exact h.r3 hi
  · intro i hi; rw [wi_n σ (by omega), upd_n B x (by omega)]; exact h.r4 hi
  · intro i hi; rw [wi_n σ (by omega), upd_n B x (by omega)]; exact h.r5 hi
  · intro i hi; rw [wi_n σ (by omega), upd_n B x (by omega)]; exact h.r6 hi
  · intro i hi
    rw [wi_s]
    by_cases e : i = k
    · subst e; rw [upd_s, upd_s]
    · rw [upd_n _ x e, upd_n B x (by omega)]; exact h.r7 hi
theorem RW.wf2 (h : RW M L σ w B) (x : Int32) : RW M L (bm_wi σ w 2 x) w (upd B 24 x) := by
  have hM := h.M6
  have hL := h.L12
  refine ⟨h.1, ⟨?_, ?_, ?_, ?_, ?_⟩, ?_, ?_, ?_, ?_, ?_, ?_, ?_⟩
  · rw [wi_s, upd_n _ x (by omega)]; exact h.f0
  · rw [wi_s, upd_n _ x (by omega)]; exact h.f1
  · rw [wi_s, upd_s, upd_s]
  · rw [wi_s, upd_n _ x (by omega), upd_n B x (by omega)]; exact h.f3
  · rw [wi_s, upd_n _ x (by omega), upd_n B x (by omega)]; exact h.f4
  · intro i hi; rw [wi_n σ (by omega), upd_n B x (by omega)]; exact h.r1 hi
  · intro i hi; rw [wi_n σ (by omega), upd_n B x (by omega)]; exact h.r2 hi
  · intro i hi; rw [wi_n σ (by omega), upd_n B x (by omega)]; exact h.r3 hi
  · intro i hi; rw [wi_n σ (by omega), upd_n B x (by omega)]; exact h.r4 hi
  · intro i hi; rw [wi_n σ (by omega), upd_n B x (by omega)]; exact h.r5 hi
  · intro i hi; rw [wi_n σ (by omega), upd_n B x (by omega)]; exact h.r6 hi
  · intro i hi; rw [wi_n σ (by omega), upd_n B x (by omega)]; exact h.r7 hi
theorem RW.wf3 (h : RW M L σ w B) (x : Int32) : RW M L (bm_wi σ w 3 x) w (upd B 22 x) := by
  have hM := h.M6
  have hL := h.L12
  refine ⟨h.1, ⟨?_, ?_, ?_, ?_, ?_⟩, ?_, ?_, ?_, ?_, ?_, ?_, ?_⟩
  · rw [wi_s, upd_n _ x (by omega)]; exact h.f0
  · rw [wi_s, upd_n _ x (by omega)]; exact h.f1
  · rw [wi_s, upd_n _ x (by omega), upd_n B x (by omega)]; exact h.f2
  · rw [wi_s, upd_s, upd_s]
  · rw [wi_s, upd_n _ x (by omega), upd_n B x (by omega)]; exact h.f4
  · intro i hi; rw [wi_n σ (by omega), upd_n B x (by omega)]; exact h.r1 hi
  · intro i hi; rw [wi_n σ (by omega), upd_n B x (by omega)]; exact h.r2 hi
  · intro i hi; rw [wi_n σ (by omega), upd_n B x (by omega)]; exact h.r3 hi
  · intro i hi; rw [wi_n σ (by omega), upd_n B x (by omega)]; exact h.r4 hi
  · intro i hi; rw [wi_n σ (by omega), upd_n B x (by omega)]; exact h.r5 hi
  · intro i hi; rw [wi_n σ (by omega), upd_n B x (by omega)]; exact h.r6 hi
  · intro i hi; rw [wi_n σ (by omega), upd_n B x (by omega)]; exact h.r7 hi
theorem RW.wf4 (h : RW M L σ w B) (x : Int32) : RW M L (bm_wi σ w 4 x) w (upd B 23 x) := by
  have hM := h.M6
  have hL := h.L12
  refine ⟨h.1, ⟨?_, ?_, ?_, ?_, ?_⟩, ?_, ?_, ?_, ?_, ?_, ?_, ?_⟩
  · rw [wi_s, upd_n _ x (by omega)]; exact h.f0
  · rw [wi_s, upd_n _ x (by omega)]; exact h.f1
  · rw [wi_s, upd_n _ x (by omega), upd_n B x (by omega)]; exact h.f2
  · rw [wi_s, upd_n _ x (by omega), upd_n B x (by omega)]; exact h.f3
  · rw [wi_s, upd_s, upd_s]
  · intro i hi; rw [wi_n σ (by omega), upd_n B x (by omega)]; exact h.r1 hi
  · intro i hi; rw [wi_n σ (by omega), upd_n B x (by omega)]; exact h.r2 hi
  · intro i hi; rw [wi_n σ (by omega), upd_n B x (by omega)]; exact h.r3 hi
  · intro i hi; rw [wi_n σ (by omega), upd_n B x (by omega)]; exact h.r4 hi
  · intro i hi; rw [wi_n σ (by omega), upd_n B x (by omega)]; exact h.r5 hi
  · intro i hi; rw [wi_n σ (by omega), upd_n B x (by omega)]; exact h.r6 hi
  · intro i hi; rw [wi_n σ (by omega), upd_n B x (by omega)]; exact h.r7 hi
end RWS
