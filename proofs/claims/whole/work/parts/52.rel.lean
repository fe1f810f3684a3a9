/-! CLASS AND REFERENCE, side by side -/
def OKB (M L : Nat) (B : Nat → Int32) : Prop := GA M L B ∧ (∀ l, L ≤ l → l < 12 → B (10 + l) = 0) ∧ (∀ l, l < L → ∃ k, k ≤ 9 ∧ B (10 + l) = nI k) ∧ (M ≤ 6 ∧ L ≤ 12 ∧ B 3 = nI M ∧ B 25 = nI L) ∧ (∃ n, 1 ≤ n ∧ n ≤ 4 ∧ B 2 = nI n) ∧ (∃ f, 1 ≤ f ∧ f ≤ 6 ∧ B 1 = nI f) ∧ SC M B
def vwB (B : Nat → Int32) (i : Nat) : Nat → Int32 := fun j => if 22 ≤ j ∧ j < 92 then B (93 + 70 * i + (j - 22)) else B j
def imB (B : Nat → Int32) (k : Nat) : Nat → Int32 := fun j => B (1694 * (k + 1) + j)
def CO (M L : Nat) (σ : bm_S) : Prop := OKB M L (σ.1 219) ∧ RW M L σ 5 (σ.1 219) ∧ BK σ 2 (σ.1 219)
def PS (M : Nat) (σ : bm_S) : Prop := ∃ n e, n ≤ 10 ∧ e < 10 ∧ σ.1 219 92 = nI n ∧ σ.1 42 2 = nI n ∧ σ.1 42 1 = nI e ∧ ∀ i, i < n → ∃ L, OKB M L (vwB (σ.1 219) i) ∧ RW M L σ (44 + 10 * ((e + i) % 10)) (vwB (σ.1 219) i)
def IM (σ : bm_S) (k : Nat) : Prop := (σ.1 (182 + 14 * k) 2 = 0 ∧ σ.1 220 k = 0) ∨ (σ.1 (182 + 14 * k) 2 = 1 ∧ σ.1 220 k = 1 ∧ ∃ M L, OKB M L (imB (σ.1 219) k) ∧ RW M L σ (186 + 14 * k) (imB (σ.1 219) k) ∧ BK σ (183 + 14 * k) (imB (σ.1 219) k))
def TR (σ : bm_S) (k : Nat) : Prop := (σ.1 (210 + 2 * k) 1 = Int32.ofInt (-1) ∧ σ.1 235 k = Int32.ofInt (-1)) ∨ (∃ s n, s ≤ 3 ∧ n ≤ 40 ∧ σ.1 (210 + 2 * k) 1 = nI n ∧ σ.1 (210 + 2 * k) 2 = nI s ∧ σ.1 235 k = nI s ∧ σ.1 236 k = nI n ∧ ∀ i, i < n → σ.2 (211 + 2 * k) i = σ.2 237 (40 * k + i))
def TP (σ : bm_S) : Prop := ∃ t, t ≤ 900 ∧ σ.1 0 1 = nI t ∧ σ.1 218 5 = nI t ∧ ∀ i, i < t → σ.1 1 i &&& 255 = σ.1 221 i ∧ (σ.1 1 i).toInt8.toInt32 = σ.1 1 i
def FT (σ : bm_S) : Prop := σ.1 0 2 = σ.1 218 13 ∧ σ.1 0 3 = σ.1 218 14
def RS (M L : Nat) (σ : bm_S) : Prop := CO M L σ ∧ PS M σ ∧ (∀ k, k < 2 → IM σ k) ∧ (∀ k, k < 4 → TR σ k) ∧ TP σ ∧ FT σ
/-- cells in which nothing lasts from one call to the next -/
def Sc (a : Nat) : Prop := a = 4 ∨ a = 13 ∨ a = 14 ∨ (15 ≤ a ∧ a ≤ 41) ∨ (146 ≤ a ∧ a ≤ 181) ∨ (222 ≤ a ∧ a ≤ 234)
def Kp (σ τ : bm_S) : Prop := (∀ a, ¬ Sc a → a ≠ 218 → τ.1 a = σ.1 a) ∧ (∀ b, b = 5 ∨ b = 13 ∨ b = 14 → τ.1 218 b = σ.1 218 b) ∧ (∀ a, a = 211 ∨ a = 213 ∨ a = 215 ∨ a = 217 ∨ a = 237 → τ.2 a = σ.2 a)
theorem Kp.rfl (σ : bm_S) : Kp σ σ := ⟨fun _ _ _ => Eq.refl _, fun _ _ => Eq.refl _, fun _ _ => Eq.refl _⟩
theorem Kp.tr {σ τ ρ : bm_S} (h : Kp σ τ) (h1 : Kp τ ρ) : Kp σ ρ := ⟨fun a x z => (h1.1 a x z).trans (h.1 a x z), fun b x => (h1.2.1 b x).trans (h.2.1 b x), fun b x => (h1.2.2 b x).trans (h.2.2 b x)⟩
theorem Kp.row {σ τ : bm_S} (h : Kp σ τ) {k : Nat} (hk : Sc k) (g : Nat → Int32) : Kp σ (bm_row τ k g) := h.tr ⟨fun a x _ => bm_row_1n _ _ (fun e => x (e ▸ hk)), fun b _ => by unfold Sc at hk; rw [bm_row_1n _ _ (by omega)], fun _ _ => Eq.refl _⟩
theorem Kp.wi {σ τ : bm_S} (h : Kp σ τ) {k : Nat} (hk : Sc k) (i : Nat) (x : Int32) : Kp σ (bm_wi τ k i x) := h.row hk _
theorem Kp.w16 {σ τ : bm_S} (h : Kp σ τ) {i : Nat} (hi : i ≠ 5 ∧ i ≠ 13 ∧ i ≠ 14) (x : Int32) : Kp σ (bm_wi τ 218 i x) := h.tr ⟨fun a _ y => wi_n _ y _ _, fun b hb => by rw [wi_s, upd_n _ _ (by omega)], fun _ _ => Eq.refl _⟩
theorem Fu.kp {σ τ : bm_S} (h : Fu σ τ) : Kp σ τ := ⟨fun a x y => h.1 a y (by unfold Sc at x; omega), fun b hb => h.2.1 b (by omega), fun a _ => by rw [h.2.2]⟩
theorem Fb.kp {w : Nat} {σ τ : bm_S} (h : Fb w 2 σ τ) (hw : w = 15 ∨ w = 149 ∨ w = 162) : Kp σ τ := ⟨fun a x y => h.1 a (by unfold Sc at x; omega) (by unfold Sc at x; omega), fun b _ => by rw [h.1 218 (by omega) (by omega)], fun a _ => by rw [h.2]⟩
theorem RS.kp {M L : Nat} {σ τ : bm_S} (h : RS M L σ) (k : Kp σ τ) : RS M L τ := by
  obtain ⟨⟨c1, c2, c3⟩, ⟨n, e, p1, p2, p3, p4, p5, p6⟩, im, tr, ⟨t, t1, t2, t3, t4⟩, f1, f2⟩ := h
  have e17 : τ.1 219 = σ.1 219 := k.1 219 (by unfold Sc; omega) (by omega)
  refine ⟨⟨by rw [e17]; exact c1, ?_, ?_⟩, ⟨n, e, p1, p2, ?_, ?_, ?_, ?_⟩, ?_, ?_, ⟨t, t1, ?_, ?_, ?_⟩, ?_, ?_⟩
  · rw [e17]; exact c2.of (fun a h1 h2 => k.1 a (by unfold Sc; omega) (by omega))
  · rw [e17]; exact c3.of (k.1 2 (by unfold Sc; omega) (by omega)) (k.1 3 (by unfold Sc; omega) (by omega))
  · rw [e17]; exact p3
  · rw [k.1 42 (by unfold Sc; omega) (by omega)]; exact p4
  · rw [k.1 42 (by unfold Sc; omega) (by omega)]; exact p5
  · intro i hi
    obtain ⟨L1, q1, q2⟩ := p6 i hi
    rw [e17]
    refine ⟨L1, q1, q2.of (fun a h1 h2 => k.1 a ?_ ?_)⟩
    · unfold Sc; omega
    · omega
  · intro j hj
    rcases im j hj with ⟨i1, i2⟩ | ⟨i1, i2, M1, L1, q1, q2, q3⟩
    · left
      rw [k.1 (182 + 14 * j) (by unfold Sc; omega) (by omega), k.1 220 (by unfold Sc; omega) (by omega)]
      exact ⟨i1, i2⟩
    · right
      rw [k.1 (182 + 14 * j) (by unfold Sc; omega) (by omega), k.1 220 (by unfold Sc; omega) (by omega), e17]
      refine ⟨i1, i2, M1, L1, q1, q2.of (fun a h1 h2 => k.1 a ?_ ?_), q3.of (k.1 _ ?_ ?_) (k.1 _ ?_ ?_)⟩
      all_goals first | (unfold Sc; omega) | omega
  · intro j hj
    have e1 : τ.1 (210 + 2 * j) = σ.1 (210 + 2 * j) := k.1 _ (by unfold Sc; omega) (by omega)
    have e2 : τ.1 235 = σ.1 235 := k.1 _ (by unfold Sc; omega) (by omega)
    have e3 : τ.1 236 = σ.1 236 := k.1 _ (by unfold Sc; omega) (by omega)
    have e4 : τ.2 (211 + 2 * j) = σ.2 (211 + 2 * j) := k.2.2 _ (by omega)
    have e5 : τ.2 237 = σ.2 237 := k.2.2 _ (by omega)
    have := tr j hj
    unfold TR at this ⊢
    rw [e1, e2, e3, e4, e5]
    exact this
  · rw [k.1 0 (by unfold Sc; omega) (by omega)]; exact t2
  · rw [k.2.1 5 (by omega)]; exact t3
  · intro i hi
    rw [k.1 1 (by unfold Sc; omega) (by omega), k.1 221 (by unfold Sc; omega) (by omega)]
    exact t4 i hi
  · rw [k.1 0 (by unfold Sc; omega) (by omega), k.2.1 13 (by omega)]; exact f1
  · rw [k.1 0 (by unfold Sc; omega) (by omega), k.2.1 14 (by omega)]; exact f2
theorem CO.mr {M L : Nat} {σ : bm_S} (h : CO M L σ) : MR M L σ := ⟨⟨h.1.2.2.2.1.1, h.1.2.2.2.1.2.1⟩, h.1.2.2.2.1.2.2.1, h.1.2.2.2.1.2.2.2⟩
theorem RS.mr {M L : Nat} {σ : bm_S} (h : RS M L σ) : MR M L σ := h.1.mr
theorem RS.rw {M L : Nat} {σ : bm_S} (h : RS M L σ) : RW M L σ 5 (σ.1 219) := h.1.2.1
theorem RS.bk {M L : Nat} {σ : bm_S} (h : RS M L σ) : BK σ 2 (σ.1 219) := h.1.2.2
theorem RS.ga {M L : Nat} {σ : bm_S} (h : RS M L σ) : GA M L (σ.1 219) := h.1.1.1
