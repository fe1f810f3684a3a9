/-! deeds told, on both sides -/
def rfP (a b : Nat) : Nat → Nat := fun k => if k = 0 then a else b
def w2B (B : Nat → Int32) (L : Nat) (i j : Int32) : Int32 := if hasI i L = true ∧ hasI j L = true ∧ i ≠ j then (if rgB B (rfP (cN i) (cN j)) 2 = true then 0 else 2) else 1
def wnB (M L : Nat) (B : Nat → Int32) (v : Int64) : Int32 := if v = Int64.ofInt (-1) then 0 else if v = 2000 then 0 else if bW v 0 99 = 1 then wpB B L v.toInt32 else if bW v 100 199 = 1 then w2B B L ((v - 100).toInt32 / 10) (am_rem v.toInt32 10) else if bW v 1000 1099 = 1 then wlB B M ((v - 1000).toInt32 / 10) (am_rem v.toInt32 10) 10 else 1
def doB (M L : Nat) (B : Nat → Int32) (v : Int64) : Nat → Int32 := if v = Int64.ofInt (-1) then hoB M L B false else if v = 2000 then hoB M L B true else if bW v 0 99 = 1 then pyB B (cN v.toInt32) else if bW v 100 199 = 1 then csB B (rfP (cN ((v - 100).toInt32 / 10)) (cN (am_rem v.toInt32 10))) 2 else gvB B (cN ((v - 1000).toInt32 / 10)) (cN (am_rem v.toInt32 10)) 10
def Fyd (w : Nat) (σ τ : bm_S) : Prop := (∀ a, (a < w ∨ w + 9 < a) → a ≠ 4 → a ≠ 147 → τ.1 a = σ.1 a) ∧ τ.2 = σ.2
theorem Fyd.rfl (w : Nat) (σ : bm_S) : Fyd w σ σ := ⟨fun _ _ _ _ => Eq.refl _, Eq.refl _⟩
theorem Fyd.tr {w : Nat} {σ τ ρ : bm_S} (h : Fyd w σ τ) (h1 : Fyd w τ ρ) : Fyd w σ ρ := ⟨fun a ha hb hc => (h1.1 a ha hb hc).trans (h.1 a ha hb hc), h1.2.trans h.2⟩
theorem Fb.d {w : Nat} {σ τ : bm_S} (h : Fb w 2 σ τ) : Fyd w σ τ := ⟨fun a h1 h2 _ => h.1 a h1 h2, h.2⟩
theorem wpB_0 {B : Nat → Int32} {L : Nat} (hL : L ≤ 12) {i : Int32} (h : wpB B L i = 0) : ∃ l, l < L ∧ i = nI l ∧ oB B l = true ∧ ¬ B (26 + cN (B (32 + l))) < B (56 + l) := by
  unfold wpB at h
  by_cases hi : hasI i L = true
  · obtain ⟨l, hl, rfl⟩ := hasI_of hi (by omega)
    rw [if_pos hi, cN_nI (show l < 2147483648 by omega)] at h
    by_cases ho : oB B l = true
    · rw [if_pos ho] at h
      refine ⟨l, hl, rfl, ho, fun z => ?_⟩
      rw [if_pos z] at h
      exact absurd h (by decide)
    · rw [if_neg ho] at h; exact absurd h (by decide)
  · rw [if_neg hi] at h; exact absurd h (by decide)
theorem w2B_0 {B : Nat → Int32} {L : Nat} (hL : L ≤ 12) {i j : Int32} (h : w2B B L i j = 0) : ∃ a b, a < L ∧ b < L ∧ a ≠ b ∧ i = nI a ∧ j = nI b ∧ rgB B (rfP a b) 2 = true := by
  unfold w2B at h
  by_cases hc : hasI i L = true ∧ hasI j L = true ∧ i ≠ j
  · rw [if_pos hc] at h
    obtain ⟨hi, hj, hij⟩ := hc
    obtain ⟨a, ha, rfl⟩ := hasI_of hi (by omega)
    obtain ⟨b, hb, rfl⟩ := hasI_of hj (by omega)
    rw [cN_nI (show a < 2147483648 by omega), cN_nI (show b < 2147483648 by omega)] at h
    refine ⟨a, b, ha, hb, fun z => hij (by rw [z]), rfl, rfl, ?_⟩
    cases q : rgB B (rfP a b) 2
    · rw [q] at h; exact absurd h (by decide)
    · rfl
  · rw [if_neg hc] at h; exact absurd h (by decide)
theorem wlB_0 {B : Nat → Int32} {M : Nat} (hM : M ≤ 6) {i j n : Int32} (h : wlB B M i j n = 0) : ∃ a b, a < M ∧ b < M ∧ a ≠ b ∧ i = nI a ∧ j = nI b ∧ ¬ B (26 + a) < n := by
  unfold wlB at h
  by_cases hc : hasI i M = true ∧ hasI j M = true ∧ i ≠ j ∧ bW n.toInt64 1 999 = 1
  · rw [if_pos hc] at h
    obtain ⟨hi, hj, hij, _⟩ := hc
    obtain ⟨a, ha, rfl⟩ := hasI_of hi (by omega)
    obtain ⟨b, hb, rfl⟩ := hasI_of hj (by omega)
    rw [cN_nI (show a < 2147483648 by omega), cN_nI (show b < 2147483648 by omega)] at h
    refine ⟨a, b, ha, hb, fun z => hij (by rw [z]), rfl, rfl, fun z => ?_⟩
    by_cases w : tb (B 24) a = true ∨ tb (B 24) b = true
    · rw [if_pos w] at h; exact absurd h (by decide)
    · rw [if_neg w, if_pos z] at h; exact absurd h (by decide)
  · rw [if_neg hc] at h; exact absurd h (by decide)
theorem k100 : ∀ k, k < 200 → 100 ≤ k → ((nI k).toInt64 - 100).toInt32 = nI k - 100 := by decide +kernel
theorem k1000 : ∀ k, k < 100 → ((nI (1000 + k)).toInt64 - 1000).toInt32 = nI (1000 + k) - 1000 ∧ ((nI (1000 + k)).toInt64 - 1000) / 10 = (((nI (1000 + k)).toInt64 - 1000).toInt32 / 10).toInt64 ∧ (nI (1000 + k)).toInt64 - (nI (1000 + k)).toInt64 / 10 * 10 = (am_rem (nI (1000 + k)) 10).toInt64 := by decide +kernel
theorem bW_ofL {lo hi : Int64} {a b : Nat} (ha : lo.toInt = a) (hb : hi.toInt = b) (hb2 : b < 2147483648) {v : Int64} (h : bW v lo hi = 1) : ∃ k, a ≤ k ∧ k ≤ b ∧ v = (nI k).toInt64 := by
  obtain ⟨h1, h2⟩ := bW_le h
  obtain ⟨k, k1, k2, e⟩ := l_nat (v := v) (b := b) (by omega) (by omega) hb2
  exact ⟨k, by omega, k1, e⟩
/-- what a deed that can be is -/
theorem dn_cases {M L : Nat} {B : Nat → Int32} (hM : M ≤ 6) (hL : L ≤ 12) {v : Int64} (h : wnB M L B v = 0) :
    (v = Int64.ofInt (-1) ∧ doB M L B v = hoB M L B false) ∨ (v = 2000 ∧ doB M L B v = hoB M L B true) ∨
    (∃ l, l < L ∧ v = (nI l).toInt64 ∧ doB M L B v = pyB B l ∧ oB B l = true ∧ ¬ B (26 + cN (B (32 + l))) < B (56 + l)) ∨
    (∃ a b k, a < L ∧ b < L ∧ a ≠ b ∧ 100 ≤ k ∧ k < 200 ∧ v = (nI k).toInt64 ∧ (nI k - 100) / 10 = nI a ∧ am_rem (nI k) 10 = nI b ∧ rgB B (rfP a b) 2 = true ∧ doB M L B v = csB B (rfP a b) 2) ∨
    (∃ a b k, a < M ∧ b < M ∧ a ≠ b ∧ 1000 ≤ k ∧ k < 1100 ∧ v = (nI k).toInt64 ∧ (nI k - 1000) / 10 = nI a ∧ am_rem (nI k) 10 = nI b ∧ ¬ B (26 + a) < 10 ∧ doB M L B v = gvB B a b 10) := by
  unfold wnB at h
  unfold doB
  by_cases q1 : v = Int64.ofInt (-1)
  · exact Or.inl ⟨q1, by rw [if_pos q1]⟩
  by_cases q2 : v = 2000
  · exact Or.inr (Or.inl ⟨q2, by rw [if_neg q1, if_pos q2]⟩)
  rw [if_neg q1, if_neg q2] at h
  rw [if_neg q1, if_neg q2]
  by_cases q3 : bW v 0 99 = 1
  · rw [if_pos q3] at h
    rw [if_pos q3]
    obtain ⟨l, hl, e, o1, o2⟩ := wpB_0 hL h
    obtain ⟨k, _, hk, rfl⟩ := bW_ofL (a := 0) (b := 99) (by decide +kernel) (by decide +kernel) (by decide) q3
    rw [l32] at e ⊢
    have ek := (nI_eq (show k < 2 ^ 31 by omega) (show l < 2 ^ 31 by omega)).mp e
    subst ek
    exact Or.inr (Or.inr (Or.inl ⟨k, hl, rfl, by rw [cN_nI (by omega)], o1, o2⟩))
  rw [if_neg q3] at h
  rw [if_neg q3]
  by_cases q4 : bW v 100 199 = 1
  · rw [if_pos q4] at h
    rw [if_pos q4]
    obtain ⟨k, k1, k2, rfl⟩ := bW_ofL (a := 100) (b := 199) (by decide +kernel) (by decide +kernel) (by decide) q4
    rw [l32, k100 k (by omega) k1] at h ⊢
    obtain ⟨a, b, ha, hb, hab, ea, eb, hr⟩ := w2B_0 hL h
    exact Or.inr (Or.inr (Or.inr (Or.inl ⟨a, b, k, ha, hb, hab, k1, by omega, rfl, ea, eb, hr, by rw [ea, eb, cN_nI (by omega), cN_nI (by omega)]⟩)))
  rw [if_neg q4] at h
  rw [if_neg q4]
  by_cases q5 : bW v 1000 1099 = 1
  · rw [if_pos q5] at h
    obtain ⟨k, k1, k2, rfl⟩ := bW_ofL (a := 1000) (b := 1099) (by decide +kernel) (by decide +kernel) (by decide) q5
    obtain ⟨j, rfl⟩ : ∃ j, k = 1000 + j := ⟨k - 1000, by omega⟩
    rw [l32, (k1000 j (by omega)).1] at h ⊢
    obtain ⟨a, b, ha, hb, hab, ea, eb, hr⟩ := wlB_0 hM h
    exact Or.inr (Or.inr (Or.inr (Or.inr ⟨a, b, 1000 + j, ha, hb, hab, k1, by omega, rfl, ea, eb, hr, by rw [ea, eb, cN_nI (by omega), cN_nI (by omega)]⟩)))
  · rw [if_neg q5] at h; exact absurd h (by decide)
theorem rfP_lt {a b L : Nat} (ha : a < L) (hb : b < L) : ∀ k, k < 2 → rfP a b k < L := by
  intro k _; unfold rfP; split <;> assumption
theorem rfP_nw {a b : Nat} (hab : a ≠ b) : ∀ k, k < 2 → nwF (rfP a b) k = true := by
  intro k hk
  have : k = 0 ∨ k = 1 := by omega
  rcases this with rfl | rfl
  · rfl
  · unfold nwF
    have : List.range 1 = [0] := rfl
    rw [this]
    simp [rfP, hab]
theorem OKB.py {M L : Nat} {B : Nat → Int32} (h : OKB M L B) {l : Nat} (hl : l < L) (hc : ¬ B (26 + cN (B (32 + l))) < B (56 + l)) : OKB M L (pyB B l) := by
  have hM := h.2.2.2.1.1
  obtain ⟨a, b, ha, hb, hab, ea, eb⟩ := h.1.1.2.1 l hl
  obtain ⟨y, hy, ey⟩ := h.1.1.2.2.1 l hl
  unfold pyB
  rw [ea, cN_nI (by omega), ey] at hc
  rw [ea, eb, cN_nI (by omega), cN_nI (by omega), ey]
  exact (h.gv ha hb (by omega) hc).how hl (by decide)
theorem OKB.dn {M L : Nat} {B : Nat → Int32} (h : OKB M L B) {v : Int64} (q : wnB M L B v = 0) : OKB M L (doB M L B v) := by
  have hM := h.2.2.2.1.1
  have hL := h.2.2.2.1.2.1
  rcases dn_cases hM hL q with ⟨_, e⟩ | ⟨_, e⟩ | ⟨l, hl, _, e, _, hc⟩ | ⟨a, b, k, ha, hb, hab, _, _, _, _, _, hr, e⟩ | ⟨a, b, k, ha, hb, hab, _, _, _, _, _, hc, e⟩
  · rw [e]; exact h.hd false 1
  · rw [e]; exact h.hd true 1
  · rw [e]; exact h.py hl hc
  · rw [e]; exact h.cs (rfP_lt ha hb) (rfP_nw hab)
  · rw [e]; exact h.gv ha hb (k := 10) (by omega) hc
theorem doB_out {M L : Nat} {B : Nat → Int32} (h : OKB M L B) {v : Int64} (q : wnB M L B v = 0) {i : Nat} (hi : i < 22 ∨ i = 25 ∨ 92 ≤ i) : doB M L B v i = B i := by
  have hM := h.2.2.2.1.1
  have hL := h.2.2.2.1.2.1
  rcases dn_cases hM hL q with ⟨_, e⟩ | ⟨_, e⟩ | ⟨l, hl, _, e, _, hc⟩ | ⟨a, b, k, ha, hb, hab, _, _, _, _, _, hr, e⟩ | ⟨a, b, k, ha, hb, hab, _, _, _, _, _, hc, e⟩
  · rw [e]; exact hoB_out hM hL false hi
  · rw [e]; exact hoB_out hM hL true hi
  · rw [e]
    obtain ⟨a, b, ha, hb, hab, ea, eb⟩ := h.1.1.2.1 l hl
    unfold pyB
    rw [ea, eb, cN_nI (by omega), cN_nI (by omega), upd_n _ _ (by omega), gvB_out (by omega) (by omega)]
  · rw [e]; unfold csB; exact csB_out hL (rfP_lt ha hb) (by omega)
  · rw [e]; exact gvB_out (by omega) (by omega)
section TOLD
variable {S : am_S} {d : Nat} {σ : bm_S} {M L w : Nat} {B : Nat → Int32}
theorem c15 (h : RW M L σ w B) (go : GO M L B) (gc : GC M B) (gm : GM L B) (i : Int32) : ∃ σ1, bm_call S (d + 4) 15 [.ref 146, .ref w, .int i] σ = some (some (.int (wpB B L i)), σ1) ∧ RW M L σ1 w (if wpB B L i = 0 then pyB B (cN i) else B) ∧ Fw w σ σ1 := by
  have hL := h.L12
  have k1 := c95 (S := S) (d := d + 1) h go i
  by_cases q : wpB B L i = 0
  · obtain ⟨l, hl, rfl, _, _⟩ := wpB_0 hL q
    obtain ⟨σ1, k2, r2, f2⟩ := c96 (S := S) (d := d) h go gc gm hl
    refine ⟨σ1, ?_, by rw [if_pos q, cN_nI (by omega)]; exact r2, f2⟩
    rw [q] at k1
    simp (decide := true) only [e15, g15_0, g15_5, g15_10, g15_15, bm_run_ite, Option.toList_some, Option.bind_some, Option.toList_some, Option.toList_none, List.cons_append, List.nil_append, List.append_nil, eq_self, not_true_eq_false, not_false_eq_true, ite_true, ite_false, ↓reduceIte, Nat.reduceLT, Nat.reduceEqDiff, Nat.reduceAdd, or_true, true_or, or_false, false_or, h.t, k1, q, k2]
  · refine ⟨σ, ?_, by rw [if_neg q]; exact h, Fw.rfl _ _⟩
    simp (decide := true) only [e15, g15_0, g15_5, g15_10, g15_15, bm_run_ite, Option.toList_some, Option.bind_some, Option.toList_some, Option.toList_none, List.cons_append, List.nil_append, List.append_nil, eq_self, not_true_eq_false, not_false_eq_true, ite_true, ite_false, ↓reduceIte, Nat.reduceLT, Nat.reduceEqDiff, Nat.reduceAdd, or_true, true_or, or_false, false_or, h.t, k1, q]
theorem c17 (h : RW M L σ w B) (gc : GC M B) (i j : Int32) : ∃ σ1, bm_call S (d + 4) 17 [.ref 146, .ref w, .int i, .int j] σ = some (some (.int (wlB B M i j 10)), σ1) ∧ RW M L σ1 w (if wlB B M i j 10 = 0 then gvB B (cN i) (cN j) 10 else B) ∧ Fw w σ σ1 := by
  have hM := h.M6
  have k1 := c97 (S := S) (d := d + 2) h i j 10
  by_cases q : wlB B M i j 10 = 0
  · obtain ⟨a, b, ha, hb, hab, rfl, rfl, hc⟩ := wlB_0 hM q
    obtain ⟨c, hc1, hc2⟩ := gc a ha
    obtain ⟨σ1, k2, r2, f2⟩ := c94 (S := S) (d := d + 1) h ha hb (nI 10) (by rw [hc2]; exact mn_sub hc1 (by omega))
    replace k2 : bm_call S (d + 3) 94 [.ref w, .int (nI a), .int (nI b), .int 10] σ = some (none, σ1) := k2
    refine ⟨σ1, ?_, by rw [if_pos q, cN_nI (by omega), cN_nI (by omega)]; exact r2, f2⟩
    rw [q] at k1
    simp (decide := true) only [e17, g17_0, g17_8, g17_15, g17_23, bm_run_ite, Option.toList_some, Option.bind_some, Option.toList_some, Option.toList_none, List.cons_append, List.nil_append, List.append_nil, eq_self, not_true_eq_false, not_false_eq_true, ite_true, ite_false, ↓reduceIte, Nat.reduceLT, Nat.reduceEqDiff, Nat.reduceAdd, or_true, true_or, or_false, false_or, h.t, k1, q, k2]
  · refine ⟨σ, ?_, by rw [if_neg q]; exact h, Fw.rfl _ _⟩
    simp (decide := true) only [e17, g17_0, g17_8, g17_15, g17_23, bm_run_ite, Option.toList_some, Option.bind_some, Option.toList_some, Option.toList_none, List.cons_append, List.nil_append, List.append_nil, eq_self, not_true_eq_false, not_false_eq_true, ite_true, ite_false, ↓reduceIte, Nat.reduceLT, Nat.reduceEqDiff, Nat.reduceAdd, or_true, true_or, or_false, false_or, h.t, k1, q]
theorem c16 (h : RW M L σ w B) (hw : w + 9 < 146) (gm : GM L B) (i j : Int32) : ∃ σ1, bm_call S (d + 3) 16 [.ref 146, .ref w, .int i, .int j] σ = some (some (.int (w2B B L i j)), σ1) ∧ RW M L σ1 w (if w2B B L i j = 0 then csB B (rfP (cN i) (cN j)) 2 else B) ∧ Fyd w σ σ1 := by
  have hL := h.L12
  unfold w2B
  cases hi : hasI i L
  · refine ⟨σ, ?_, by simpa using h, Fyd.rfl _ _⟩
    simp (decide := true) only [e16, g16_0, g16_5, g16_8, g16_13, g16_16, g16_21, g16_23, g16_32, g16_41, g16_50, g16_53, g16_55, g16_64, bm_run_ite, Option.toList_some, Option.bind_some, Option.toList_some, Option.toList_none, List.cons_append, List.nil_append, List.append_nil, eq_self, not_true_eq_false, not_false_eq_true, ite_true, ite_false, ↓reduceIte, Nat.reduceLT, Nat.reduceEqDiff, Nat.reduceAdd, or_true, true_or, or_false, false_or, h.t, c79 h, hi, bI_ite, Bool.false_eq_true, false_and]
  cases hj : hasI j L
  · refine ⟨σ, ?_, by simpa using h, Fyd.rfl _ _⟩
    simp (decide := true) only [e16, g16_0, g16_5, g16_8, g16_13, g16_16, g16_21, g16_23, g16_32, g16_41, g16_50, g16_53, g16_55, g16_64, bm_run_ite, Option.toList_some, Option.bind_some, Option.toList_some, Option.toList_none, List.cons_append, List.nil_append, List.append_nil, eq_self, not_true_eq_false, not_false_eq_true, ite_true, ite_false, ↓reduceIte, Nat.reduceLT, Nat.reduceEqDiff, Nat.reduceAdd, or_true, true_or, or_false, false_or, h.t, c79 h, hi, hj, bI_ite, Bool.false_eq_true, false_and, and_false]
  by_cases hij : i = j
  · refine ⟨σ, ?_, by simpa [hij] using h, Fyd.rfl _ _⟩
    simp (decide := true) only [e16, g16_0, g16_5, g16_8, g16_13, g16_16, g16_21, g16_23, g16_32, g16_41, g16_50, g16_53, g16_55, g16_64, bm_run_ite, Option.toList_some, Option.bind_some, Option.toList_some, Option.toList_none, List.cons_append, List.nil_append, List.append_nil, eq_self, not_true_eq_false, not_false_eq_true, ite_true, ite_false, ↓reduceIte, Nat.reduceLT, Nat.reduceEqDiff, Nat.reduceAdd, or_true, true_or, or_false, false_or, h.t, c79 h, hi, hj, hij, bI_ite, ne_eq, false_and, and_false]
  obtain ⟨a, ha, rfl⟩ := hasI_of hi (by omega)
  obtain ⟨b, hb, rfl⟩ := hasI_of hj (by omega)
  rw [cN_nI (by omega), cN_nI (by omega)]
  have hcond : ((true : Bool) = true ∧ (true : Bool) = true ∧ nI a ≠ nI b) := ⟨rfl, rfl, hij⟩
  rw [if_pos hcond]
  have s0 : bm_call S (d + 2) 159 [.ref 147, .int 0, .int (nI a)] σ = some (none, bm_wi σ 147 0 (nI a)) := set_row (k := 0) t147 l147 (by decide) (by decide) _
  have s1 : bm_call S (d + 2) 159 [.ref 147, .int 1, .int (nI b)] (bm_wi σ 147 0 (nI a)) = some (none, bm_wi (bm_wi σ 147 0 (nI a)) 147 1 (nI b)) := set_row (k := 1) t147 l147 (by decide) (by decide) _
  generalize hτ : bm_wi (bm_wi σ 147 0 (nI a)) 147 1 (nI b) = τ at s1
  have tn : ∀ x, x ≠ 147 → τ.1 x = σ.1 x := fun x hx => by rw [← hτ, wi_n _ hx, wi_n _ hx]
  have hr : RW M L τ w B := h.of (fun x _ _ => tn x (by omega))
  have tr : ∀ k, k < 2 → τ.1 147 k = nI (rfP a b k) := by
    intro k hk
    have : k = 0 ∨ k = 1 := by omega
    rw [← hτ, wi_s, wi_s]
    rcases this with rfl | rfl
    · rw [upd_n _ _ (by decide), upd_s]; rfl
    · rw [upd_s]; rfl
  have f0 : Fyd w σ τ := ⟨fun x _ _ h3 => tn x h3, by rw [← hτ]; rfl⟩
  have k98 := c98 (S := S) (d := d) hr (f := rfP a b) (n := 2) (by omega) (by omega) (rfP_lt ha hb) tr
  replace k98 : bm_call S (d + 2) 98 [.ref w, .ref 147, .int 2] τ = some (some (.int (bI (rgB B (rfP a b) 2))), τ) := k98
  cases q : rgB B (rfP a b) 2
  · refine ⟨τ, ?_, by simpa using hr, f0⟩
    simp (decide := true) only [e16, g16_0, g16_5, g16_8, g16_13, g16_16, g16_21, g16_23, g16_32, g16_41, g16_50, g16_53, g16_55, g16_64, bm_run_ite, Option.toList_some, Option.bind_some, Option.toList_some, Option.toList_none, List.cons_append, List.nil_append, List.append_nil, eq_self, not_true_eq_false, not_false_eq_true, ite_true, ite_false, ↓reduceIte, Nat.reduceLT, Nat.reduceEqDiff, Nat.reduceAdd, or_true, true_or, or_false, false_or, h.t, c79 h, hi, hj, hij, bI_ite, bI_itn, s0, s1, hr.t, k98, q, Bool.false_eq_true]
  · obtain ⟨σ1, k99, r2, f2⟩ := c99 (S := S) (d := d) hr (by omega) (f := rfP a b) (n := 2) (by omega) (by omega) (rfP_lt ha hb) tr gm
    replace k99 : bm_call S (d + 2) 99 [.ref w, .ref 147, .int 2] τ = some (some (.int (lsF B (rfP a b) 999999 2)), σ1) := k99
    refine ⟨σ1, ?_, by simpa using r2, f0.tr (f2.b (b := 2)).d⟩
    simp (decide := true) only [e16, g16_0, g16_5, g16_8, g16_13, g16_16, g16_21, g16_23, g16_32, g16_41, g16_50, g16_53, g16_55, g16_64, bm_run_ite, Option.toList_some, Option.bind_some, Option.toList_some, Option.toList_none, List.cons_append, List.nil_append, List.append_nil, eq_self, not_true_eq_false, not_false_eq_true, ite_true, ite_false, ↓reduceIte, Nat.reduceLT, Nat.reduceEqDiff, Nat.reduceAdd, or_true, true_or, or_false, false_or, h.t, c79 h, hi, hj, hij, bI_ite, bI_itn, s0, s1, hr.t, k98, q, k99]
theorem c14 (h : RW M L σ w B) (hw : w + 9 < 146) (o : ob 2 w) (hb : BK σ 2 B) (hg : GW M L B) (v : Int64) : ∃ σ1, bm_call S (d + 6) 14 [.ref 146, .ref w, .ref 2, .long v] σ = some (some (.int (wnB M L B v)), σ1) ∧ RW M L σ1 w (if wnB M L B v = 0 then doB M L B v else B) ∧ Fyd w σ σ1 := by
  have hL := h.L12
  have hg0 := hg
  obtain ⟨hl, go, gm, gc⟩ := hg0
  unfold wnB doB
  by_cases q1 : v = Int64.ofInt (-1)
  · obtain ⟨σ1, k1, r1, f1⟩ := c101h (S := S) (d := d + 1) h o hb hg false
    replace k1 : bm_call S (d + 5) 101 [.ref w, .ref 2, .int 0] σ = some (none, σ1) := k1
    refine ⟨σ1, ?_, by simpa [q1] using r1, f1.d⟩
    subst q1
    simp (decide := true) only [e14, g14_0, g14_8, g14_16, g14_26, g14_30, g14_31, g14_34, g14_36, g14_44, g14_47, g14_54, g14_55, g14_65, g14_68, g14_87, g14_88, g14_98, g14_101, g14_120, g14_121, bm_run_ite, Option.toList_some, Option.bind_some, Option.toList_some, Option.toList_none, List.cons_append, List.nil_append, List.append_nil, eq_self, not_true_eq_false, not_false_eq_true, ite_true, ite_false, ↓reduceIte, Nat.reduceLT, Nat.reduceEqDiff, Nat.reduceAdd, or_true, true_or, or_false, false_or, lg_eq0, h.t, k1]
  by_cases q2 : v = 2000
  · obtain ⟨σ1, k1, r1, f1⟩ := c101h (S := S) (d := d + 1) h o hb hg true
    replace k1 : bm_call S (d + 5) 101 [.ref w, .ref 2, .int 1] σ = some (none, σ1) := k1
    refine ⟨σ1, ?_, by rw [if_neg q1, if_pos q2, if_neg q1, if_pos q2, if_pos rfl]; exact r1, f1.d⟩
    subst q2
    simp (decide := true) only [e14, g14_0, g14_8, g14_16, g14_26, g14_30, g14_31, g14_34, g14_36, g14_44, g14_47, g14_54, g14_55, g14_65, g14_68, g14_87, g14_88, g14_98, g14_101, g14_120, g14_121, bm_run_ite, Option.toList_some, Option.bind_some, Option.toList_some, Option.toList_none, List.cons_append, List.nil_append, List.append_nil, eq_self, not_true_eq_false, not_false_eq_true, ite_true, ite_false, ↓reduceIte, Nat.reduceLT, Nat.reduceEqDiff, Nat.reduceAdd, or_true, true_or, or_false, false_or, lg_eq0, h.t, k1, if_true, if_false]
  rw [if_neg q1, if_neg q2, if_neg q1, if_neg q2]
  rcases bW_01 v 0 99 with q3 | q3
  case inr =>
    obtain ⟨σ1, k1, r1, f1⟩ := c15 (S := S) (d := d + 1) h go gc gm v.toInt32
    refine ⟨σ1, ?_, by rw [if_pos q3, if_pos q3]; exact r1, f1.b.d⟩
    simp (decide := true) only [e14, g14_0, g14_8, g14_16, g14_26, g14_30, g14_31, g14_34, g14_36, g14_44, g14_47, g14_54, g14_55, g14_65, g14_68, g14_87, g14_88, g14_98, g14_101, g14_120, g14_121, bm_run_ite, Option.toList_some, Option.bind_some, Option.toList_some, Option.toList_none, List.cons_append, List.nil_append, List.append_nil, eq_self, not_true_eq_false, not_false_eq_true, ite_true, ite_false, ↓reduceIte, Nat.reduceLT, Nat.reduceEqDiff, Nat.reduceAdd, or_true, true_or, or_false, false_or, lg_eq0, q1, q2, c157, q3, k1]
  rcases bW_01 v 100 199 with q4 | q4
  case inr =>
    obtain ⟨σ1, k1, r1, f1⟩ := c16 (S := S) (d := d + 2) h hw gm ((v - 100).toInt32 / 10) (am_rem v.toInt32 10)
    refine ⟨σ1, ?_, by simp (decide := true) only [q3, q4, if_true, if_false]; exact r1, f1⟩
    simp (decide := true) only [e14, g14_0, g14_8, g14_16, g14_26, g14_30, g14_31, g14_34, g14_36, g14_44, g14_47, g14_54, g14_55, g14_65, g14_68, g14_87, g14_88, g14_98, g14_101, g14_120, g14_121, bm_run_ite, Option.toList_some, Option.bind_some, Option.toList_some, Option.toList_none, List.cons_append, List.nil_append, List.append_nil, eq_self, not_true_eq_false, not_false_eq_true, ite_true, ite_false, ↓reduceIte, Nat.reduceLT, Nat.reduceEqDiff, Nat.reduceAdd, or_true, true_or, or_false, false_or, lg_eq0, q1, q2, c157, q3, q4, k1]
  rcases bW_01 v 1000 1099 with q5 | q5
  case inr =>
    obtain ⟨σ1, k1, r1, f1⟩ := c17 (S := S) (d := d + 1) h gc ((v - 1000).toInt32 / 10) (am_rem v.toInt32 10)
    refine ⟨σ1, ?_, by simp (decide := true) only [q3, q4, q5, if_true, if_false]; exact r1, f1.b.d⟩
    simp (decide := true) only [e14, g14_0, g14_8, g14_16, g14_26, g14_30, g14_31, g14_34, g14_36, g14_44, g14_47, g14_54, g14_55, g14_65, g14_68, g14_87, g14_88, g14_98, g14_101, g14_120, g14_121, bm_run_ite, Option.toList_some, Option.bind_some, Option.toList_some, Option.toList_none, List.cons_append, List.nil_append, List.append_nil, eq_self, not_true_eq_false, not_false_eq_true, ite_true, ite_false, ↓reduceIte, Nat.reduceLT, Nat.reduceEqDiff, Nat.reduceAdd, or_true, true_or, or_false, false_or, lg_eq0, q1, q2, c157, q3, q4, q5, k1]
  refine ⟨σ, ?_, by simp (decide := true) only [q3, q4, q5, if_true, if_false]; exact h, Fyd.rfl _ _⟩
  simp (decide := true) only [e14, g14_0, g14_8, g14_16, g14_26, g14_30, g14_31, g14_34, g14_36, g14_44, g14_47, g14_54, g14_55, g14_65, g14_68, g14_87, g14_88, g14_98, g14_101, g14_120, g14_121, bm_run_ite, Option.toList_some, Option.bind_some, Option.toList_some, Option.toList_none, List.cons_append, List.nil_append, List.append_nil, eq_self, not_true_eq_false, not_false_eq_true, ite_true, ite_false, ↓reduceIte, Nat.reduceLT, Nat.reduceEqDiff, Nat.reduceAdd, or_true, true_or, or_false, false_or, lg_eq0, q1, q2, c157, q3, q4, q5]
/-! the reference -/
def Fyr (σ τ : bm_S) : Prop := (∀ a, ¬ Sc a → a ≠ 218 → a ≠ 219 → τ.1 a = σ.1 a) ∧ τ.1 228 = σ.1 228 ∧ (∀ b, b = 5 ∨ b = 13 ∨ b = 14 ∨ b = 25 → τ.1 218 b = σ.1 218 b) ∧ τ.2 = σ.2
theorem Fyr.rfl (σ : bm_S) : Fyr σ σ := ⟨fun _ _ _ _ => Eq.refl _, Eq.refl _, fun _ _ => Eq.refl _, Eq.refl _⟩
theorem Fyr.tr {σ τ ρ : bm_S} (h : Fyr σ τ) (h1 : Fyr τ ρ) : Fyr σ ρ := ⟨fun a x y z => (h1.1 a x y z).trans (h.1 a x y z), h1.2.1.trans h.2.1, fun b x => (h1.2.2.1 b x).trans (h.2.2.1 b x), h1.2.2.2.trans h.2.2.2⟩
theorem Fq.r {σ τ : bm_S} (h : Fq σ τ) : Fyr σ τ := ⟨fun a x y z => h.1 a y z (by unfold Sc at x; omega), h.1 228 (by decide) (by decide) (by decide), fun b hb => h.2.1 b (by omega), h.2.2⟩
theorem Fyr.r17 {σ τ : bm_S} (h : Fyr σ τ) (g : Nat → Int32) : Fyr σ (bm_row τ 219 g) := h.tr ⟨fun a _ _ z => bm_row_1n _ _ z, bm_row_1n _ _ (by decide), fun b _ => by rw [bm_row_1n _ _ (by decide)], Eq.refl _⟩
theorem Fyr.row {σ τ : bm_S} (h : Fyr σ τ) {k : Nat} (hk : Sc k) (h6 : k ≠ 228) (g : Nat → Int32) : Fyr σ (bm_row τ k g) := h.tr ⟨fun a x _ _ => bm_row_1n _ _ (fun e => x (e ▸ hk)), bm_row_1n _ _ (fun e => h6 e.symm), fun b _ => by unfold Sc at hk; rw [bm_row_1n _ _ (by omega)], Eq.refl _⟩
theorem Fyr.w16 {σ τ : bm_S} (h : Fyr σ τ) {i : Nat} (hi : i ≠ 5 ∧ i ≠ 13 ∧ i ≠ 14 ∧ i ≠ 25) (x : Int32) : Fyr σ (bm_wi τ 218 i x) := h.tr ⟨fun a _ y _ => wi_n _ y _ _, wi_n _ (by decide) _ _, fun b hb => by rw [wi_s, upd_n _ _ (by omega)], Eq.refl _⟩
/-- a ring of two, laid -/
theorem m233 (h : MR M L σ) (i j : Int32) : ∃ σ1, bm_call S (d + 2) 233 [.ref 218, .int i, .int j] σ = some (some (.int (w2B (σ.1 219) L i j)), σ1) ∧ Fyr σ σ1 ∧ σ1.1 219 = σ.1 219 ∧ (w2B (σ.1 219) L i j = 0 → σ1.1 218 24 = nI 2 ∧ ∀ k, k < 2 → σ1.1 229 k = nI (rfP (cN i) (cN j) k)) := by
  have hL := h.L12
  generalize hB : σ.1 219 = B
  unfold w2B
  cases hi : hasI i L
  · refine ⟨σ, ?_, Fyr.rfl _, hB, fun z => ?_⟩
    · simp (decide := true) only [e233, g233_0, g233_6, g233_9, g233_15, g233_18, g233_23, g233_25, g233_48, g233_51, g233_55, g233_56, bm_run_ite, Option.toList_some, Option.bind_some, Option.toList_some, Option.toList_none, List.cons_append, List.nil_append, List.append_nil, eq_self, not_true_eq_false, not_false_eq_true, ite_true, ite_false, ↓reduceIte, Nat.reduceLT, Nat.reduceEqDiff, Nat.reduceAdd, or_true, true_or, or_false, false_or, m194i h, hi, bI_ite, Bool.false_eq_true, false_and]
    · simp at z
  cases hj : hasI j L
  · refine ⟨σ, ?_, Fyr.rfl _, hB, fun z => ?_⟩
    · simp (decide := true) only [e233, g233_0, g233_6, g233_9, g233_15, g233_18, g233_23, g233_25, g233_48, g233_51, g233_55, g233_56, bm_run_ite, Option.toList_some, Option.bind_some, Option.toList_some, Option.toList_none, List.cons_append, List.nil_append, List.append_nil, eq_self, not_true_eq_false, not_false_eq_true, ite_true, ite_false, ↓reduceIte, Nat.reduceLT, Nat.reduceEqDiff, Nat.reduceAdd, or_true, true_or, or_false, false_or, m194i h, hi, hj, bI_ite, Bool.false_eq_true, false_and, and_false]
    · simp at z
  by_cases hij : i = j
  · refine ⟨σ, ?_, Fyr.rfl _, hB, fun z => ?_⟩
    · simp (decide := true) only [e233, g233_0, g233_6, g233_9, g233_15, g233_18, g233_23, g233_25, g233_48, g233_51, g233_55, g233_56, bm_run_ite, Option.toList_some, Option.bind_some, Option.toList_some, Option.toList_none, List.cons_append, List.nil_append, List.append_nil, eq_self, not_true_eq_false, not_false_eq_true, ite_true, ite_false, ↓reduceIte, Nat.reduceLT, Nat.reduceEqDiff, Nat.reduceAdd, or_true, true_or, or_false, false_or, m194i h, hi, hj, hij, bI_ite, ne_eq, false_and, and_false]
    · simp [hij] at z
  obtain ⟨a, ha, rfl⟩ := hasI_of hi (by omega)
  obtain ⟨b, hb, rfl⟩ := hasI_of hj (by omega)
  rw [cN_nI (by omega), cN_nI (by omega)]
  have hcond : ((true : Bool) = true ∧ (true : Bool) = true ∧ nI a ≠ nI b) := ⟨rfl, rfl, hij⟩
  rw [if_pos hcond]
  generalize hτ : bm_wi (bm_wi (bm_wi σ 218 24 2) 229 0 (nI a)) 229 1 (nI b) = τ
  have t17 : τ.1 219 = B := by rw [← hτ, wi_n _ (by decide), wi_n _ (by decide), wi_n _ (by decide)]; exact hB
  have t24 : τ.1 218 24 = nI 2 := by rw [← hτ, wi_n _ (by decide), wi_n _ (by decide), wi_s, upd_s]; rfl
  have tr : ∀ k, k < 2 → τ.1 229 k = nI (rfP a b k) := by
    intro k hk
    have : k = 0 ∨ k = 1 := by omega
    rw [← hτ, wi_s, wi_s]
    rcases this with rfl | rfl
    · rw [upd_n _ _ (by decide), upd_s]; rfl
    · rw [upd_s]; rfl
  have fr : Fyr σ τ := by
    rw [← hτ]
    exact (((Fyr.rfl σ).w16 (i := 24) (by decide) 2).row (k := 229) (by unfold Sc; omega) (by decide) _).row (k := 229) (by unfold Sc; omega) (by decide) _
  have mr : MR M L τ := ⟨h.1, by rw [t17, ← hB]; exact h.m, by rw [t17, ← hB]; exact h.l⟩
  have k26 := m226 (S := S) (d := d) mr (f := rfP a b) (n := 2) (by omega) (by omega) (rfP_lt ha hb) t24 tr
  rw [t17] at k26
  refine ⟨τ, ?_, fr, t17, fun _ => ⟨t24, tr⟩⟩
  cases q : rgB B (rfP a b) 2
  · simp (decide := true) only [e233, g233_0, g233_6, g233_9, g233_15, g233_18, g233_23, g233_25, g233_48, g233_51, g233_55, g233_56, bm_run_ite, Option.toList_some, Option.bind_some, Option.toList_some, Option.toList_none, List.cons_append, List.nil_append, List.append_nil, eq_self, not_true_eq_false, not_false_eq_true, ite_true, ite_false, ↓reduceIte, Nat.reduceLT, Nat.reduceEqDiff, Nat.reduceAdd, or_true, true_or, or_false, false_or, m194i h, hi, hj, hij, bI_ite, hτ, k26, q, Bool.false_eq_true]
  · simp (decide := true) only [e233, g233_0, g233_6, g233_9, g233_15, g233_18, g233_23, g233_25, g233_48, g233_51, g233_55, g233_56, bm_run_ite, Option.toList_some, Option.bind_some, Option.toList_some, Option.toList_none, List.cons_append, List.nil_append, List.append_nil, eq_self, not_true_eq_false, not_false_eq_true, ite_true, ite_false, ↓reduceIte, Nat.reduceLT, Nat.reduceEqDiff, Nat.reduceAdd, or_true, true_or, or_false, false_or, m194i h, hi, hj, hij, bI_ite, hτ, k26, q]
theorem m234 (h : MR M L σ) (go : GO M L (σ.1 219)) (v : Int64) : ∃ σ1, bm_call S (d + 3) 234 [.ref 218, .long v] σ = some (some (.int (wnB M L (σ.1 219) v)), σ1) ∧ Fyr σ σ1 ∧ σ1.1 219 = σ.1 219 := by
  have hL := h.L12
  generalize hB : σ.1 219 = B at *
  unfold wnB
  by_cases q1 : v = Int64.ofInt (-1)
  · refine ⟨σ, ?_, Fyr.rfl _, hB⟩
    subst q1
    simp (decide := true) only [e234, g234_0, g234_8, g234_16, g234_18, g234_26, g234_29, g234_34, g234_35, g234_45, g234_48, g234_66, g234_67, g234_77, g234_80, g234_101, g234_104, g234_105, bm_run_ite, Option.toList_some, Option.bind_some, Option.toList_some, Option.toList_none, List.cons_append, List.nil_append, List.append_nil, eq_self, not_true_eq_false, not_false_eq_true, ite_true, ite_false, ↓reduceIte, Nat.reduceLT, Nat.reduceEqDiff, Nat.reduceAdd, or_true, true_or, or_false, false_or, lg_eq0]
  by_cases q2 : v = 2000
  · refine ⟨σ, ?_, Fyr.rfl _, hB⟩
    subst q2
    simp (decide := true) only [e234, g234_0, g234_8, g234_16, g234_18, g234_26, g234_29, g234_34, g234_35, g234_45, g234_48, g234_66, g234_67, g234_77, g234_80, g234_101, g234_104, g234_105, bm_run_ite, Option.toList_some, Option.bind_some, Option.toList_some, Option.toList_none, List.cons_append, List.nil_append, List.append_nil, eq_self, not_true_eq_false, not_false_eq_true, ite_true, ite_false, ↓reduceIte, Nat.reduceLT, Nat.reduceEqDiff, Nat.reduceAdd, or_true, true_or, or_false, false_or, lg_eq0, if_true, if_false]
  rw [if_neg q1, if_neg q2]
  rcases bW_01 v 0 99 with q3 | q3
  case inr =>
    obtain ⟨k, _, hk, rfl⟩ := bW_ofL (a := 0) (b := 99) (by decide +kernel) (by decide +kernel) (by decide) q3
    have k1 := m220 (S := S) (d := d) h (by rw [hB]; exact go) (nI k)
    rw [hB] at k1
    refine ⟨σ, ?_, Fyr.rfl _, hB⟩
    rw [if_pos q3, l32]
    simp (decide := true) only [e234, g234_0, g234_8, g234_16, g234_18, g234_26, g234_29, g234_34, g234_35, g234_45, g234_48, g234_66, g234_67, g234_77, g234_80, g234_101, g234_104, g234_105, bm_run_ite, Option.toList_some, Option.bind_some, Option.toList_some, Option.toList_none, List.cons_append, List.nil_append, List.append_nil, eq_self, not_true_eq_false, not_false_eq_true, ite_true, ite_false, ↓reduceIte, Nat.reduceLT, Nat.reduceEqDiff, Nat.reduceAdd, or_true, true_or, or_false, false_or, lg_eq0, q1, q2, c163, q3, k1]
  rcases bW_01 v 100 199 with q4 | q4
  case inr =>
    obtain ⟨σ1, k1, f1, b1, _⟩ := m233 (S := S) (d := d) h ((v - 100).toInt32 / 10) (am_rem v.toInt32 10)
    rw [hB] at k1 b1
    refine ⟨σ1, ?_, f1, b1⟩
    rw [q3, if_neg (by decide), if_pos q4]
    simp (decide := true) only [e234, g234_0, g234_8, g234_16, g234_18, g234_26, g234_29, g234_34, g234_35, g234_45, g234_48, g234_66, g234_67, g234_77, g234_80, g234_101, g234_104, g234_105, bm_run_ite, Option.toList_some, Option.bind_some, Option.toList_some, Option.toList_none, List.cons_append, List.nil_append, List.append_nil, eq_self, not_true_eq_false, not_false_eq_true, ite_true, ite_false, ↓reduceIte, Nat.reduceLT, Nat.reduceEqDiff, Nat.reduceAdd, or_true, true_or, or_false, false_or, lg_eq0, q1, q2, c163, q3, q4, k1]
  rcases bW_01 v 1000 1099 with q5 | q5
  case inr =>
    obtain ⟨k, k1, k2, e⟩ := bW_ofL (a := 1000) (b := 1099) (by decide +kernel) (by decide +kernel) (by decide) q5
    obtain ⟨j, rfl⟩ : ∃ j, k = 1000 + j := ⟨k - 1000, by omega⟩
    obtain ⟨_, j2, j3⟩ := k1000 j (by omega)
    have e10 : (10 : Int64) = (10 : Int32).toInt64 := by decide
    have k3 := m223 (S := S) (d := d) h (((nI (1000 + j)).toInt64 - 1000).toInt32 / 10) (am_rem (nI (1000 + j)) 10) 10
    rw [← j2, ← j3, ← e10, hB] at k3
    have el : (nI (1000 + j)).toInt64.toInt32 = nI (1000 + j) := l32 _
    refine ⟨σ, ?_, Fyr.rfl _, hB⟩
    rw [q3, if_neg (by decide), q4, if_neg (by decide), if_pos q5]
    rw [← e] at k3
    rw [← e] at el
    rw [el]
    simp (decide := true) only [e234, g234_0, g234_8, g234_16, g234_18, g234_26, g234_29, g234_34, g234_35, g234_45, g234_48, g234_66, g234_67, g234_77, g234_80, g234_101, g234_104, g234_105, bm_run_ite, Option.toList_some, Option.bind_some, Option.toList_some, Option.toList_none, List.cons_append, List.nil_append, List.append_nil, eq_self, not_true_eq_false, not_false_eq_true, ite_true, ite_false, ↓reduceIte, Nat.reduceLT, Nat.reduceEqDiff, Nat.reduceAdd, or_true, true_or, or_false, false_or, lg_eq0, q1, q2, c163, q3, q4, q5, k3]
  refine ⟨σ, ?_, Fyr.rfl _, hB⟩
  rw [q3, if_neg (by decide), q4, if_neg (by decide), q5, if_neg (by decide)]
  simp (decide := true) only [e234, g234_0, g234_8, g234_16, g234_18, g234_26, g234_29, g234_34, g234_35, g234_45, g234_48, g234_66, g234_67, g234_77, g234_80, g234_101, g234_104, g234_105, bm_run_ite, Option.toList_some, Option.bind_some, Option.toList_some, Option.toList_none, List.cons_append, List.nil_append, List.append_nil, eq_self, not_true_eq_false, not_false_eq_true, ite_true, ite_false, ↓reduceIte, Nat.reduceLT, Nat.reduceEqDiff, Nat.reduceAdd, or_true, true_or, or_false, false_or, lg_eq0, q1, q2, c163, q3, q4, q5]
theorem m235 (h : MR M L σ) (hok : OKB M L (σ.1 219)) {v : Int64} (q : wnB M L (σ.1 219) v = 0) : ∃ σ1, bm_call S (d + 7) 235 [.ref 218, .int v.toInt32] σ = some (none, σ1) ∧ σ1.1 219 = doB M L (σ.1 219) v ∧ Fyr σ σ1 := by
  have hM := h.M6
  have hL := h.L12
  generalize hB : σ.1 219 = B at *
  rcases dn_cases hM hL q with ⟨rfl, e⟩ | ⟨rfl, e⟩ | ⟨l, hl, rfl, e, _, hc⟩ | ⟨a, b, k, ha, hb, hab, k1, k2, rfl, ea, eb, hr, e⟩ | ⟨a, b, k, ha, hb, hab, k1, k2, rfl, ea, eb, hc, e⟩
  · obtain ⟨σ1, e1, b1, f1⟩ := m212 (S := S) (d := d + 1) h (by rw [hB]; exact hok.1.1) 0
    rw [hB, D0_0] at b1
    have ev : (Int64.ofInt (-1)).toInt32 = Int32.ofInt (-1) := by decide
    refine ⟨σ1, ?_, by rw [b1, e]; rfl, f1.r⟩
    simp (decide := true) only [e235, g235_0, g235_5, g235_10, g235_14, g235_20, g235_25, g235_28, g235_35, g235_50, g235_55, g235_59, g235_66, g235_84, g235_87, g235_91, g235_92, bm_run_ite, Option.toList_some, Option.bind_some, Option.toList_some, Option.toList_none, List.cons_append, List.nil_append, List.append_nil, eq_self, not_true_eq_false, not_false_eq_true, ite_true, ite_false, ↓reduceIte, Nat.reduceLT, Nat.reduceEqDiff, Nat.reduceAdd, or_true, true_or, or_false, false_or, ev, e1]
  · obtain ⟨σ1, e1, b1, f1⟩ := m214 (S := S) (d := d) h (by rw [hB]; exact hok.1.1)
    rw [hB] at b1
    have ev : (2000 : Int64).toInt32 = 2000 := by decide
    refine ⟨σ1, ?_, by rw [b1, e], f1.r⟩
    simp (decide := true) only [e235, g235_0, g235_5, g235_10, g235_14, g235_20, g235_25, g235_28, g235_35, g235_50, g235_55, g235_59, g235_66, g235_84, g235_87, g235_91, g235_92, bm_run_ite, Option.toList_some, Option.bind_some, Option.toList_some, Option.toList_none, List.cons_append, List.nil_append, List.append_nil, eq_self, not_true_eq_false, not_false_eq_true, ite_true, ite_false, ↓reduceIte, Nat.reduceLT, Nat.reduceEqDiff, Nat.reduceAdd, or_true, true_or, or_false, false_or, ev, e1]
  · have e1 := m222 (S := S) (d := d + 5) h (by rw [hB]; exact hok.1.1.2.1) hl
    rw [hB] at e1
    refine ⟨bm_row σ 219 (pyB B l), ?_, by rw [row_row1, e], (Fyr.rfl σ).r17 _⟩
    rw [l32]
    have n1 := nm1 (show l < 2147483648 by omega)
    have n2 : ¬ (100 : Int32) ≤ nI l := nI_ge (b := 100) (by omega) (by decide)
    simp (decide := true) only [e235, g235_0, g235_5, g235_10, g235_14, g235_20, g235_25, g235_28, g235_35, g235_50, g235_55, g235_59, g235_66, g235_84, g235_87, g235_91, g235_92, bm_run_ite, Option.toList_some, Option.bind_some, Option.toList_some, Option.toList_none, List.cons_append, List.nil_append, List.append_nil, eq_self, not_true_eq_false, not_false_eq_true, ite_true, ite_false, ↓reduceIte, Nat.reduceLT, Nat.reduceEqDiff, Nat.reduceAdd, or_true, true_or, or_false, false_or, n1, n2, e1]
  · obtain ⟨σ1, e1, f1, b1, g1⟩ := m233 (S := S) (d := d + 4) h (nI a) (nI b)
    rw [hB] at e1 b1 g1
    have w0 : w2B B L (nI a) (nI b) = 0 := by
      unfold w2B
      have hi := hasI_nI ha (show L < 2 ^ 31 by omega)
      have hj := hasI_nI hb (show L < 2 ^ 31 by omega)
      have hne : nI a ≠ nI b := fun z => hab ((nI_eq (by omega) (by omega)).mp z)
      rw [if_pos ⟨hi, hj, hne⟩, cN_nI (by omega), cN_nI (by omega), hr, if_pos rfl]
    obtain ⟨g2, g3⟩ := g1 w0
    rw [cN_nI (by omega), cN_nI (by omega)] at g3
    have k28 := m228 (S := S) (d := d + 5) (σ := σ1) (f := rfP a b) (n := 2) (by omega) (fun j hj => by have := rfP_lt ha hb j hj; omega) g2 g3
    rw [b1] at k28
    refine ⟨bm_row σ1 219 (csB B (rfP a b) 2), ?_, by rw [row_row1, e], f1.r17 _⟩
    rw [l32]
    have n1 := nm1 (show k < 2147483648 by omega)
    have n2 : (100 : Int32) ≤ nI k := nI_le (a := 100) (by omega) (by omega)
    have n3 : ¬ (200 : Int32) ≤ nI k := nI_ge (b := 200) (by omega) (by decide)
    simp (decide := true) only [e235, g235_0, g235_5, g235_10, g235_14, g235_20, g235_25, g235_28, g235_35, g235_50, g235_55, g235_59, g235_66, g235_84, g235_87, g235_91, g235_92, bm_run_ite, Option.toList_some, Option.bind_some, Option.toList_some, Option.toList_none, List.cons_append, List.nil_append, List.append_nil, eq_self, not_true_eq_false, not_false_eq_true, ite_true, ite_false, ↓reduceIte, Nat.reduceLT, Nat.reduceEqDiff, Nat.reduceAdd, or_true, true_or, or_false, false_or, n1, n2, n3, ea, eb, e1, k28]
  · have e1 := m221 (S := S) (d := d + 6) (σ := σ) (show a < 6 by omega) (show b < 6 by omega) 10
    rw [hB] at e1
    refine ⟨bm_row σ 219 (gvB B a b 10), ?_, by rw [row_row1, e], (Fyr.rfl σ).r17 _⟩
    rw [l32]
    have n1 := nm1 (show k < 2147483648 by omega)
    have n2 : (100 : Int32) ≤ nI k := nI_le (a := 100) (by omega) (by omega)
    have n3 : (200 : Int32) ≤ nI k := nI_le (a := 200) (by omega) (by omega)
    have n4 : ¬ (2000 : Int32) ≤ nI k := nI_ge (b := 2000) (by omega) (by decide)
    simp (decide := true) only [e235, g235_0, g235_5, g235_10, g235_14, g235_20, g235_25, g235_28, g235_35, g235_50, g235_55, g235_59, g235_66, g235_84, g235_87, g235_91, g235_92, bm_run_ite, Option.toList_some, Option.bind_some, Option.toList_some, Option.toList_none, List.cons_append, List.nil_append, List.append_nil, eq_self, not_true_eq_false, not_false_eq_true, ite_true, ite_false, ↓reduceIte, Nat.reduceLT, Nat.reduceEqDiff, Nat.reduceAdd, or_true, true_or, or_false, false_or, n1, n2, n3, n4, ea, eb, e1]
end TOLD
