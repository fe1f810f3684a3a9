/-! trays, and the ring that one tells -/
theorem loop_allq {β γ : Type} (F : Nat → γ → β) (P : Nat → γ → Prop) (ok : Nat → Bool) (Q : β → Prop) (n : Nat) (s0 : γ) (h0 : P 0 s0) (hs : ∀ k s, k < n → P k s → (ok k = true → ∃ s1, F k s = F (k + 1) s1 ∧ P (k + 1) s1) ∧ (ok k = false → Q (F k s))) : ((List.range n).all ok = true ∧ ∃ s1, F 0 s0 = F n s1 ∧ P n s1) ∨ ((List.range n).all ok = false ∧ Q (F 0 s0)) := by
  induction n with
  | zero => exact Or.inl ⟨rfl, s0, rfl, h0⟩
  | succ n ih =>
    rcases ih (fun k s hk => hs k s (by omega)) with ⟨a1, s1, e1, p1⟩ | ⟨a1, e1⟩
    · obtain ⟨x1, x2⟩ := hs n s1 (by omega) p1
      rw [List.range_succ, List.all_append]
      cases q : ok n
      · exact Or.inr ⟨by simp [q], by rw [e1]; exact x2 q⟩
      · obtain ⟨s2, e2, p2⟩ := x1 q
        exact Or.inl ⟨by simp [q, a1], s2, e1.trans e2, p2⟩
    · rw [List.range_succ, List.all_append]
      exact Or.inr ⟨by rw [a1]; rfl, e1⟩
theorem bW_le {v lo hi : Int64} (h : bW v lo hi = 1) : lo.toInt ≤ v.toInt ∧ v.toInt ≤ hi.toInt := by
  unfold bW at h
  split at h
  · exact absurd h (by decide)
  · next h1 =>
    split at h
    · exact absurd h (by decide)
    · next h2 =>
      rw [Int64.lt_iff_toInt_lt] at h1 h2
      omega
theorem l_nat {v : Int64} {b : Nat} (h0 : 0 ≤ v.toInt) (hb : v.toInt ≤ b) (hb2 : b < 2147483648) : ∃ k, k ≤ b ∧ (k : Int) = v.toInt ∧ v = (nI k).toInt64 := by
  refine ⟨v.toInt.toNat, by omega, by omega, ?_⟩
  apply Int64.toInt_inj.mp
  rw [Int32.toInt_toInt64, nI_toInt2 (by omega)]
  omega
theorem l32 (i : Int32) : i.toInt64.toInt32 = i := by simp
/-- the letters that a row tells -/
def raF (X : Nat → Int64) (k : Nat) : Nat := cN (X k).toInt32
def wrA (X : Nat → Int64) (L n : Nat) : Bool := decide (2 ≤ n) && decide (n ≤ 6) && (List.range n).all (fun k => decide (bW (X k) 0 (nI L - 1).toInt64 = 1))
def wrB (B : Nat → Int32) (L : Nat) (X : Nat → Int64) (n : Nat) : Int32 := if wrA X L n = true then (if rgB B (raF X) n = true then 0 else 2) else 1
theorem raF_ok {X : Nat → Int64} {L k : Nat} (hL : L ≤ 12) (h : bW (X k) 0 (nI L - 1).toInt64 = 1) : raF X k < L ∧ (X k).toInt32 = nI (raF X k) ∧ X k = (nI (raF X k)).toInt64 := by
  obtain ⟨h1, h2⟩ := bW_le h
  have z : (0 : Int64).toInt = 0 := by decide +kernel
  have q2 : (nI L - 1).toInt64.toInt = (L : Int) - 1 := by
    have q3 : (1 : Int32).toInt = 1 := by decide +kernel
    rw [Int32.toInt_toInt64, Int32.toInt_sub, nI_toInt2 (by omega), q3, Int.bmod_eq_of_le (by omega) (by omega)]
  rw [z] at h1
  rw [q2] at h2
  obtain ⟨j, hj, ej, e⟩ := l_nat (b := 12) h1 (by omega) (by decide)
  have er : raF X k = j := by
    unfold raF
    rw [e, l32, cN_nI (by omega)]
  rw [er]
  exact ⟨by omega, by rw [e, l32], e⟩
theorem rows145 : ∀ k, k < 4 → bm_rfa 145 k = some (210 + 2 * k) := by decide +kernel
theorem isT4 : ∀ k, k < 4 → bm_tag (210 + 2 * k) = 109 ∧ bm_tag (211 + 2 * k) = 2 ∧ bm_len (211 + 2 * k) = 40 := by decide +kernel
theorem nm1 {k : Nat} (h : k < 2147483648) : ¬ nI k = Int32.ofInt (-1) := by
  intro z; have := nI_pos (show k < 2 ^ 31 by omega); rw [z] at this; exact this (by decide)
theorem mul40 : ∀ t, t < 4 → (40 : Int32) * nI t = nI (40 * t) := by decide +kernel
section TRAY
variable {S : am_S} {d : Nat} {σ : bm_S} {M L w : Nat} {B : Nat → Int32}
theorem c154 {k : Nat} (hk : k < 4) : bm_call S d 154 [.ref 0, .int (nI k)] σ = some (some (.ref (210 + 2 * k)), σ) := by
  have n4 : ¬ (4 : Int32) ≤ nI k := nI_ge (b := 4) hk (by decide)
  simp (disch := omega) only [bm_run_ite, Option.toList_some, Option.bind_some, Option.toList_some, Option.toList_none, List.cons_append, List.nil_append, List.append_nil, eq_self, not_true_eq_false, not_false_eq_true, ite_true, ite_false, ↓reduceIte, Nat.reduceLT, Nat.reduceEqDiff, Nat.reduceAdd, or_true, true_or, or_false, false_or, nI_clamp2, nI_lt0F, nI_leT, nI_leF, nI_ltT, nI_ltF, n_leF, n_leT, nI_1, kA6, kA8, kA10, kA22, kA26, kA32, kA44, kA56, kA68, kA80, kA93, kA163, kA794, not_or, or_self, and_self, and_true, true_and, e154, g154_0, g154_4, g154_13, g154_22, g154_23, n4, rows145 k hk, am_rf, bm_isr]
theorem c154n {i : Int32} (h : hasI i 4 = false) : bm_call S d 154 [.ref 0, .int i] σ = some (some .null, σ) := by
  by_cases h0 : i < 0
  · simp only [e154, g154_0, g154_4, g154_13, g154_22, g154_23, bm_run_ite, Option.toList_some, Option.bind_some, Option.toList_some, Option.toList_none, List.cons_append, List.nil_append, List.append_nil, eq_self, not_true_eq_false, not_false_eq_true, ite_true, ite_false, ↓reduceIte, Nat.reduceLT, Nat.reduceEqDiff, Nat.reduceAdd, or_true, true_or, or_false, false_or, h0, bm_isr]
  · have h1 : (4 : Int32) ≤ i := by
      by_cases q : (4 : Int32) ≤ i
      · exact q
      · have : hasI i 4 = true := by
          unfold hasI
          have q2 : ¬ nI 4 ≤ i := q
          simp [h0, q2]
        rw [this] at h; cases h
    simp only [e154, g154_0, g154_4, g154_13, g154_22, g154_23, bm_run_ite, Option.toList_some, Option.bind_some, Option.toList_some, Option.toList_none, List.cons_append, List.nil_append, List.append_nil, eq_self, not_true_eq_false, not_false_eq_true, ite_true, ite_false, ↓reduceIte, Nat.reduceLT, Nat.reduceEqDiff, Nat.reduceAdd, or_true, true_or, or_false, false_or, h0, h1, bm_isr]
theorem c71 {k : Nat} (hk : k < 4) : bm_call S d 71 [.ref (210 + 2 * k)] σ = some (some (.int (bI (decide (σ.1 (210 + 2 * k) 1 = Int32.ofInt (-1))))), σ) := by
  by_cases q : σ.1 (210 + 2 * k) 1 = Int32.ofInt (-1)
  · simp (decide := true) only [e71, g71_0, g71_8, g71_12, g71_13, bm_run_ite, Option.toList_some, Option.bind_some, Option.toList_some, Option.toList_none, List.cons_append, List.nil_append, List.append_nil, eq_self, not_true_eq_false, not_false_eq_true, ite_true, ite_false, ↓reduceIte, Nat.reduceLT, Nat.reduceEqDiff, Nat.reduceAdd, or_true, true_or, or_false, false_or, (isT4 k hk).1, q]; rfl
  · simp (decide := true) only [e71, g71_0, g71_8, g71_12, g71_13, bm_run_ite, Option.toList_some, Option.bind_some, Option.toList_some, Option.toList_none, List.cons_append, List.nil_append, List.append_nil, eq_self, not_true_eq_false, not_false_eq_true, ite_true, ite_false, ↓reduceIte, Nat.reduceLT, Nat.reduceEqDiff, Nat.reduceAdd, or_true, true_or, or_false, false_or, (isT4 k hk).1, q]; rfl
theorem m229 (i : Int32) : bm_call S (d + 1) 229 [.ref 218, .int i] σ = some (some (.int (if hasI i 4 = true then (if σ.1 235 (cN i) = Int32.ofInt (-1) then Int32.ofInt (-6) else 0) else Int32.ofInt (-2))), σ) := by
  have e : bW i.toInt64 0 3 = bI (hasI i 4) := bW_hasI (n := 4) (by decide) i
  cases hi : hasI i 4
  · simp only [e229, g229_0, g229_9, g229_12, g229_17, g229_27, g229_32, g229_33, bm_run_ite, Option.toList_some, Option.bind_some, Option.toList_some, Option.toList_none, List.cons_append, List.nil_append, List.append_nil, eq_self, not_true_eq_false, not_false_eq_true, ite_true, ite_false, ↓reduceIte, Nat.reduceLT, Nat.reduceEqDiff, Nat.reduceAdd, or_true, true_or, or_false, false_or, c163, e, hi, bI_itn, Bool.false_eq_true]
  · obtain ⟨k, hk, rfl⟩ := hasI_of hi (by decide)
    rw [cN_nI (by omega)]
    by_cases q : σ.1 235 k = Int32.ofInt (-1)
    · simp (disch := omega) only [bm_run_ite, Option.toList_some, Option.bind_some, Option.toList_some, Option.toList_none, List.cons_append, List.nil_append, List.append_nil, eq_self, not_true_eq_false, not_false_eq_true, ite_true, ite_false, ↓reduceIte, Nat.reduceLT, Nat.reduceEqDiff, Nat.reduceAdd, or_true, true_or, or_false, false_or, nI_clamp2, nI_lt0F, nI_leT, nI_leF, nI_ltT, nI_ltF, n_leF, n_leT, nI_1, kA6, kA8, kA10, kA22, kA26, kA32, kA44, kA56, kA68, kA80, kA93, kA163, kA794, not_or, or_self, and_self, and_true, true_and, e229, g229_0, g229_9, g229_12, g229_17, g229_27, g229_32, g229_33, c163, e, hi, bI_itn, q]
    · simp (disch := omega) only [bm_run_ite, Option.toList_some, Option.bind_some, Option.toList_some, Option.toList_none, List.cons_append, List.nil_append, List.append_nil, eq_self, not_true_eq_false, not_false_eq_true, ite_true, ite_false, ↓reduceIte, Nat.reduceLT, Nat.reduceEqDiff, Nat.reduceAdd, or_true, true_or, or_false, false_or, nI_clamp2, nI_lt0F, nI_leT, nI_leF, nI_ltT, nI_ltF, n_leF, n_leT, nI_1, kA6, kA8, kA10, kA22, kA26, kA32, kA44, kA56, kA68, kA80, kA93, kA163, kA794, not_or, or_self, and_self, and_true, true_and, e229, g229_0, g229_9, g229_12, g229_17, g229_27, g229_32, g229_33, c163, e, hi, bI_itn, q]
theorem c73 {t k : Nat} (ht : t < 4) (hk : k < 40) : bm_call S d 73 [.ref (210 + 2 * t), .int (nI k)] σ = some (some (.long (σ.2 (211 + 2 * t) k)), σ) := by
  obtain ⟨t1, t2, t3⟩ := isT4 t ht
  have e : 210 + 2 * t + 1 = 211 + 2 * t := by omega
  have l : (Int32.ofNat 40 ≤ nI k) = False := eq_false (nI_ge (b := 40) hk (by decide))
  rw [e73, g73_0]
  simp (disch := omega) only [bm_run_ite, Option.toList_some, Option.bind_some, Option.toList_some, Option.toList_none, List.cons_append, List.nil_append, List.append_nil, eq_self, not_true_eq_false, not_false_eq_true, ite_true, ite_false, ↓reduceIte, Nat.reduceLT, Nat.reduceEqDiff, Nat.reduceAdd, or_true, true_or, or_false, false_or, nI_clamp2, nI_lt0F, nI_leT, nI_leF, nI_ltT, nI_ltF, n_leF, n_leT, nI_1, kA6, kA8, kA10, kA22, kA26, kA32, kA44, kA56, kA68, kA80, kA93, kA163, kA794, not_or, or_self, and_self, and_true, true_and, g73_4, g73_13, g73_23, e, t1, t2, t3, l]
/-- a row's ring, looked at -/
theorem c12 (h : RW M L σ w B) (hw : w + 9 < 146) {t n : Nat} (ht : t < 4) (hn : σ.1 (210 + 2 * t) 1 = nI n) (h40 : n ≤ 40) : ∃ g, bm_call S (d + 3) 12 [.ref 146, .ref w, .ref (210 + 2 * t)] σ = some (some (.int (wrB B L (σ.2 (211 + 2 * t)) n)), bm_row σ 147 g) ∧ (wrB B L (σ.2 (211 + 2 * t)) n = 0 → ∀ k, k < n → g k = nI (raF (σ.2 (211 + 2 * t)) k)) := by
  have hL := h.L12
  obtain ⟨t1, t2, t3⟩ := isT4 t ht
  generalize hX : σ.2 (211 + 2 * t) = X
  by_cases q1 : n < 2
  · refine ⟨σ.1 147, ?_, ?_⟩
    · have e1 : wrB B L X n = 1 := by unfold wrB wrA; simp [show ¬ 2 ≤ n by omega]
      have l2 : nI n < 2 := nI_lt (b := 2) q1 (by decide)
      rw [e1, bm_row_self]
      simp only [e12, g12_0, g12_17, bm_run_ite, Option.toList_some, Option.bind_some, Option.toList_some, Option.toList_none, List.cons_append, List.nil_append, List.append_nil, eq_self, not_true_eq_false, not_false_eq_true, ite_true, ite_false, ↓reduceIte, Nat.reduceLT, Nat.reduceEqDiff, Nat.reduceAdd, or_true, true_or, or_false, false_or, t1, hn, l2]
    · intro z; unfold wrB wrA at z; simp [show ¬ 2 ≤ n by omega] at z
  have l2 : ¬ nI n < 2 := nI_nlt (b := 2) (by omega) (by omega)
  by_cases q2 : 6 < n
  · refine ⟨σ.1 147, ?_, ?_⟩
    · have e1 : wrB B L X n = 1 := by unfold wrB wrA; simp [show ¬ n ≤ 6 by omega]
      have l6 : ¬ nI n ≤ 6 := nI_ge (a := 6) q2 (by omega)
      rw [e1, bm_row_self]
      simp only [e12, g12_0, g12_8, g12_17, bm_run_ite, Option.toList_some, Option.bind_some, Option.toList_some, Option.toList_none, List.cons_append, List.nil_append, List.append_nil, eq_self, not_true_eq_false, not_false_eq_true, ite_true, ite_false, ↓reduceIte, Nat.reduceLT, Nat.reduceEqDiff, Nat.reduceAdd, or_true, true_or, or_false, false_or, t1, hn, l2, l6]
    · intro z; unfold wrB wrA at z; simp [show ¬ n ≤ 6 by omega] at z
  have l6 : nI n ≤ 6 := nI_le (b := 6) (by omega) (by decide)
  have fr : ∀ (g : Nat → Int32) a, a ≠ 147 → (bm_row σ 147 g).1 a = σ.1 a := fun g a ha => bm_row_1n _ _ ha
  have step := loop_allq (fun k (s : Option Value × (Nat → Int32)) => bm_run S (d + 3) 12 21 [some (.ref 146), some (.ref w), some (.ref (210 + 2 * t)), some (.int (nI k)), s.1, none] [] (bm_row σ 147 s.2)) (fun k s => ∀ i, i < k → s.2 i = (X i).toInt32) (fun k => decide (bW (X k) 0 (nI L - 1).toInt64 = 1)) (fun r => ∃ g, r = some (some (.int 1), bm_row σ 147 g)) n (none, σ.1 147) (fun i hi => absurd hi (by omega)) (by
    intro k s hk hp
    have e0 := fr s.2
    have c1 := c73 (S := S) (d := d + 2) (σ := bm_row σ 147 s.2) ht (show k < 40 by omega)
    have x2 : (bm_row σ 147 s.2).2 = σ.2 := rfl
    rw [x2, hX] at c1
    have hr : RW M L (bm_row σ 147 s.2) w B := h.of (fun a _ _ => e0 a (by omega))
    have n8 := e0 (210 + 2 * t) (by omega)
    constructor
    · intro ok
      have q : bW (X k) 0 (nI L - 1).toInt64 = 1 := by simpa using ok
      refine ⟨(some (.long (X k)), upd s.2 k (X k).toInt32), ?_, ?_⟩
      · have sr := set_row (S := S) (d := d + 2) (σ := bm_row σ 147 s.2) t147 l147 (show k < 6 by omega) (by decide) (X k).toInt32
        rw [wi_row] at sr
        rw [g12_21]
        simp (disch := omega) only [bm_run_ite, Option.toList_some, Option.bind_some, Option.toList_some, Option.toList_none, List.cons_append, List.nil_append, List.append_nil, eq_self, not_true_eq_false, not_false_eq_true, ite_true, ite_false, ↓reduceIte, Nat.reduceLT, Nat.reduceEqDiff, Nat.reduceAdd, or_true, true_or, or_false, false_or, nI_clamp2, nI_lt0F, nI_leT, nI_leF, nI_ltT, nI_ltF, n_leF, n_leT, nI_1, kA6, kA8, kA10, kA22, kA26, kA32, kA44, kA56, kA68, kA80, kA93, kA163, kA794, not_or, or_self, and_self, and_true, true_and, g12_29, g12_34, g12_49, g12_54, g12_65, t1, n8, hn, c1, hr.t, hr.f1, c157, q, nz10, sr]
      · intro i hi
        simp only [upd]
        split
        · next e => rw [e]
        · exact hp i (by omega)
    · intro ok
      have q : bW (X k) 0 (nI L - 1).toInt64 = 0 := by
        rcases bW_01 (X k) 0 (nI L - 1).toInt64 with z | z
        · exact z
        · rw [z] at ok; simp at ok
      refine ⟨s.2, ?_⟩
      show bm_run S (d + 3) 12 21 [some (.ref 146), some (.ref w), some (.ref (210 + 2 * t)), some (.int (nI k)), s.1, none] [] (bm_row σ 147 s.2) = _
      rw [g12_21]
      simp (disch := omega) only [bm_run_ite, Option.toList_some, Option.bind_some, Option.toList_some, Option.toList_none, List.cons_append, List.nil_append, List.append_nil, eq_self, not_true_eq_false, not_false_eq_true, ite_true, ite_false, ↓reduceIte, Nat.reduceLT, Nat.reduceEqDiff, Nat.reduceAdd, or_true, true_or, or_false, false_or, nI_clamp2, nI_lt0F, nI_leT, nI_leF, nI_ltT, nI_ltF, n_leF, n_leT, nI_1, kA6, kA8, kA10, kA22, kA26, kA32, kA44, kA56, kA68, kA80, kA93, kA163, kA794, not_or, or_self, and_self, and_true, true_and, g12_29, g12_34, g12_49, g12_52, t1, n8, hn, c1, hr.t, hr.f1, c157, q])
  rw [bm_row_self] at step
  have ent : bm_call S (d + 3) 12 [.ref 146, .ref w, .ref (210 + 2 * t)] σ = bm_run S (d + 3) 12 21 [some (.ref 146), some (.ref w), some (.ref (210 + 2 * t)), some (.int (nI 0)), none, none] [] σ := by
    simp only [e12, g12_0, g12_8, g12_19, bm_run_ite, Option.toList_some, Option.bind_some, Option.toList_some, Option.toList_none, List.cons_append, List.nil_append, List.append_nil, eq_self, not_true_eq_false, not_false_eq_true, ite_true, ite_false, ↓reduceIte, Nat.reduceLT, Nat.reduceEqDiff, Nat.reduceAdd, or_true, true_or, or_false, false_or, t1, hn, l2, l6]
    rfl
  rcases step with ⟨a1, ⟨o4, g⟩, e1, p1⟩ | ⟨a1, g, e1⟩
  · have a2 : wrA X L n = true := by unfold wrA; rw [a1]; simp; omega
    have hf : ∀ k, k < n → raF X k < L ∧ (X k).toInt32 = nI (raF X k) ∧ X k = (nI (raF X k)).toInt64 := by
      intro k hk
      rw [List.all_eq_true] at a1
      have := a1 k (List.mem_range.mpr hk)
      exact raF_ok hL (by simpa using this)
    have gk : ∀ k, k < n → g k = nI (raF X k) := fun k hk => (p1 k hk).trans (hf k hk).2.1
    refine ⟨g, ?_, fun _ => gk⟩
    have hr : RW M L (bm_row σ 147 g) w B := h.of (fun a _ _ => fr g a (by omega))
    have k98 := c98 (S := S) (d := d) hr (f := raF X) (n := n) (by omega) (by omega) (fun k hk => (hf k hk).1) (fun k hk => by rw [row_row1]; exact gk k hk)
    rw [ent]
    refine e1.trans ?_
    have n8 := fr g (210 + 2 * t) (by omega)
    unfold wrB
    rw [a2, if_pos rfl, g12_21]
    cases q : rgB B (raF X) n
    · simp (disch := omega) only [bm_run_ite, Option.toList_some, Option.bind_some, Option.toList_some, Option.toList_none, List.cons_append, List.nil_append, List.append_nil, eq_self, not_true_eq_false, not_false_eq_true, ite_true, ite_false, ↓reduceIte, Nat.reduceLT, Nat.reduceEqDiff, Nat.reduceAdd, or_true, true_or, or_false, false_or, nI_clamp2, nI_lt0F, nI_leT, nI_leF, nI_ltT, nI_ltF, n_leF, n_leT, nI_1, kA6, kA8, kA10, kA22, kA26, kA32, kA44, kA56, kA68, kA80, kA93, kA163, kA794, not_or, or_self, and_self, and_true, true_and, g12_71, g12_83, g12_90, g12_91, t1, n8, hn, hr.t, k98, q, bI_ite, Bool.false_eq_true]
    · simp (disch := omega) only [bm_run_ite, Option.toList_some, Option.bind_some, Option.toList_some, Option.toList_none, List.cons_append, List.nil_append, List.append_nil, eq_self, not_true_eq_false, not_false_eq_true, ite_true, ite_false, ↓reduceIte, Nat.reduceLT, Nat.reduceEqDiff, Nat.reduceAdd, or_true, true_or, or_false, false_or, nI_clamp2, nI_lt0F, nI_leT, nI_leF, nI_ltT, nI_ltF, n_leF, n_leT, nI_1, kA6, kA8, kA10, kA22, kA26, kA32, kA44, kA56, kA68, kA80, kA93, kA163, kA794, not_or, or_self, and_self, and_true, true_and, g12_71, g12_83, g12_86, g12_91, t1, n8, hn, hr.t, k98, q, bI_ite]
  · have a2 : wrA X L n = false := by unfold wrA; rw [a1]; simp
    refine ⟨g, ?_, ?_⟩
    · unfold wrB
      rw [a2, ent]
      exact e1
    · intro z; unfold wrB at z; rw [a2, if_neg Bool.false_ne_true] at z; exact absurd z (by decide)
end TRAY
section CANCEL
variable {S : am_S} {d : Nat} {σ : bm_S} {M L : Nat}
theorem mut_fin2 {σ1 σ2 ρ2 : bm_S} {n e n1 e1 L1 : Nat} {C : Nat → Int32} (h : RS M L σ) (af : AF M L σ σ1 n e n1 e1) (f12 : Fb 5 2 σ1 σ2) (hg : ∀ i, i < 70 → ρ2.1 228 i = σ.1 219 (22 + i)) (fq : ∀ a, ¬ Sc a → a ≠ 218 → a ≠ 219 → ρ2.1 a = σ2.1 a) (f16 : ∀ b, b = 5 ∨ b = 13 ∨ b = 14 → ρ2.1 218 b = σ2.1 218 b) (f2 : ∀ a, a = 211 ∨ a = 213 ∨ a = 215 ∨ a = 217 ∨ a = 237 → ρ2.2 a = σ2.2 a) (e217 : ρ2.1 219 = C) (hC : ∀ i, (i < 22 ∨ 92 ≤ i) → C i = σ.1 219 i) (hok : OKB M L1 C) (hw : RW M L1 σ2 5 C) : bm_call S d 217 [.ref 218] ρ2 = some (none, bm_row ρ2 219 (noB C (ρ2.1 228) n)) ∧ RS M L1 (bm_row ρ2 219 (noB C (ρ2.1 228) n)) := by
  have a0 := af
  obtain ⟨a1, a2, _⟩ := a0
  have k3 := m217 (S := S) (d := d) (σ := ρ2) a2 (by rw [e217, hC _ (by omega)]; exact a1)
  rw [e217] at k3
  refine ⟨k3, fin_RS h af hC hg hok (row_row1 _ _ _) ?_ ?_ ?_ ?_⟩
  · refine hw.of (fun a h1 h2 => ?_)
    rw [bm_row_1n _ _ (by omega), fq a (by unfold Sc; omega) (by omega) (by omega)]
  · intro a h1 h2 h3 h4
    have h0 := h1
    unfold Sc at h0
    rw [bm_row_1n _ _ h3, fq a h1 h2 h3, f12.1 a (by omega) (by omega)]
  · intro b hb
    rw [bm_row_1n _ _ (by decide), f16 b hb, f12.1 218 (by omega) (by omega)]
  · intro a ha
    show ρ2.2 a = σ1.2 a
    rw [f2 a ha, f12.2]
theorem PR.ofk {a b : Nat} {As : List Value} {v : Value} (h : RS M L σ) (hc : ∃ σ1, bm_call S d a (.ref 0 :: As) σ = some (some v, σ1) ∧ Kp σ σ1) (hm : ∀ σ1, Kp σ σ1 → ∃ σ2, bm_call S d b (.ref 218 :: As) σ1 = some (some v, σ2) ∧ Kp σ1 σ2) : PR S d a b As σ := by
  obtain ⟨σ1, e1, k1⟩ := hc
  obtain ⟨σ2, e2, k2⟩ := hm σ1 k1
  exact ⟨v, σ1, σ2, M, L, e1, e2, (h.kp k1).kp k2⟩
theorem m229a {i : Int32} (hi : hasI i 4 = false) : bm_call S (d + 1) 229 [.ref 218, .int i] σ = some (some (.int (Int32.ofInt (-2))), σ) := by
  rw [m229, hi]; rfl
theorem m229b {t : Nat} (ht : t < 4) (j : σ.1 235 t = Int32.ofInt (-1)) : bm_call S (d + 1) 229 [.ref 218, .int (nI t)] σ = some (some (.int (Int32.ofInt (-6))), σ) := by
  rw [m229, hasI_nI ht (by decide), cN_nI (by omega), j]; rfl
theorem m229c {t s : Nat} (ht : t < 4) (hs : s ≤ 3) (j : σ.1 235 t = nI s) : bm_call S (d + 1) 229 [.ref 218, .int (nI t)] σ = some (some (.int 0), σ) := by
  rw [m229, hasI_nI ht (by decide), cN_nI (by omega), j, if_pos rfl, if_neg (nm1 (by omega))]
theorem bW26 : ∀ n, n < 41 → bW (nI n).toInt64 2 6 = if 2 ≤ n ∧ n ≤ 6 then 1 else 0 := by decide +kernel
/-- the reference looks a row's ring at -/
theorem m230 (h : MR M L σ) {t n : Nat} (ht : t < 4) (h34 : σ.1 236 t = nI n) (h40 : n ≤ 40) {X : Nat → Int64} (hX : ∀ k, k < n → σ.2 237 (40 * t + k) = X k) (o2 : Option Value) : ∃ g o3 o4, (wrB (σ.1 219) L X n = 0 → (∀ k, k < n → g k = nI (raF X k)) ∧ bm_run S (d + 3) 230 17 [some (.ref 218), some (.int (nI t)), o2, none] [] σ = bm_run S (d + 3) 230 112 [some (.ref 218), some (.int (nI t)), o3, o4] [] (bm_row (bm_wi σ 218 24 (nI n)) 229 g)) ∧ (wrB (σ.1 219) L X n ≠ 0 → bm_run S (d + 3) 230 17 [some (.ref 218), some (.int (nI t)), o2, none] [] σ = some (some (.int (Int32.ofInt (-10) - wrB (σ.1 219) L X n)), bm_row (bm_wi σ 218 24 (nI n)) 229 g)) := by
  have hL := h.L12
  generalize hB : σ.1 219 = B
  have bw := bW26 n (by omega)
  have wself : bm_row (bm_wi σ 218 24 (nI n)) 229 (σ.1 229) = bm_wi σ 218 24 (nI n) := by
    have := bm_row_self (bm_wi σ 218 24 (nI n)) 229
    rwa [wi_n _ (by decide)] at this
  have u24 : (bm_wi σ 218 24 (nI n)).1 218 24 = nI n := by rw [wi_s, upd_s]
  by_cases q1 : 2 ≤ n ∧ n ≤ 6
  · rw [if_pos q1] at bw
    have t16 : ∀ g, (bm_row (bm_wi σ 218 24 (nI n)) 229 g).1 218 24 = nI n := fun g => by rw [bm_row_1n _ _ (by decide)]; exact u24
    have t17 : ∀ g, (bm_row (bm_wi σ 218 24 (nI n)) 229 g).1 219 = B := fun g => by rw [bm_row_1n _ _ (by decide), wi_n _ (by decide)]; exact hB
    have mr : ∀ g, MR M L (bm_row (bm_wi σ 218 24 (nI n)) 229 g) := fun g => ⟨h.1, by rw [t17, ← hB]; exact h.m, by rw [t17, ← hB]; exact h.l⟩
    have x2 : ∀ g, (bm_row (bm_wi σ 218 24 (nI n)) 229 g).2 = σ.2 := fun g => rfl
    have step := loop_allq (fun k (s : Option Value × (Nat → Int32)) => bm_run S (d + 3) 230 49 [some (.ref 218), some (.int (nI t)), s.1, some (.int (nI k))] [] (bm_row (bm_wi σ 218 24 (nI n)) 229 s.2)) (fun k s => ∀ i, i < k → s.2 i = (X i).toInt32) (fun k => decide (bW (X k) 0 (nI L - 1).toInt64 = 1)) (fun r => ∃ g, r = some (some (.int (Int32.ofInt (-11))), bm_row (bm_wi σ 218 24 (nI n)) 229 g)) n (am_clr o2, σ.1 229) (fun i hi => absurd hi (by omega)) (by
      intro k s hk hp
      have hXk := hX k hk
      have m4 := m194 (S := S) (d := d + 1) (mr s.2) (X k)
      constructor
      · intro ok
        have q : bW (X k) 0 (nI L - 1).toInt64 = 1 := by simpa using ok
        refine ⟨(am_clr s.1, upd s.2 k (X k).toInt32), ?_, ?_⟩
        · rw [g230_49]
          simp (disch := omega) only [bm_run_ite, Option.toList_some, Option.bind_some, Option.toList_some, Option.toList_none, List.cons_append, List.nil_append, List.append_nil, eq_self, not_true_eq_false, not_false_eq_true, ite_true, ite_false, ↓reduceIte, Nat.reduceLT, Nat.reduceEqDiff, Nat.reduceAdd, or_true, true_or, or_false, false_or, nI_clamp2, nI_lt0F, nI_leT, nI_leF, nI_ltT, nI_ltF, n_leF, n_leT, nI_1, kA6, kA8, kA10, kA22, kA26, kA32, kA44, kA56, kA68, kA80, kA93, kA163, kA794, not_or, or_self, and_self, and_true, true_and, g230_57, g230_72, g230_78, t16, mul40 t ht, nI_add, x2, hXk, m4, q, nz10, wi_row]
        · intro i hi
          simp only [upd]
          split
          · next e => rw [e]
          · exact hp i (by omega)
      · intro ok
        have q : bW (X k) 0 (nI L - 1).toInt64 = 0 := by
          rcases bW_01 (X k) 0 (nI L - 1).toInt64 with z | z
          · exact z
          · rw [z] at ok; simp at ok
        refine ⟨s.2, ?_⟩
        show bm_run S (d + 3) 230 49 [some (.ref 218), some (.int (nI t)), s.1, some (.int (nI k))] [] (bm_row (bm_wi σ 218 24 (nI n)) 229 s.2) = _
        rw [g230_49]
        simp (disch := omega) only [bm_run_ite, Option.toList_some, Option.bind_some, Option.toList_some, Option.toList_none, List.cons_append, List.nil_append, List.append_nil, eq_self, not_true_eq_false, not_false_eq_true, ite_true, ite_false, ↓reduceIte, Nat.reduceLT, Nat.reduceEqDiff, Nat.reduceAdd, or_true, true_or, or_false, false_or, nI_clamp2, nI_lt0F, nI_leT, nI_leF, nI_ltT, nI_ltF, n_leF, n_leT, nI_1, kA6, kA8, kA10, kA22, kA26, kA32, kA44, kA56, kA68, kA80, kA93, kA163, kA794, not_or, or_self, and_self, and_true, true_and, g230_57, g230_72, g230_75, t16, mul40 t ht, nI_add, x2, hXk, m4, q])
    rw [wself] at step
    have ent : bm_run S (d + 3) 230 17 [some (.ref 218), some (.int (nI t)), o2, none] [] σ = bm_run S (d + 3) 230 49 [some (.ref 218), some (.int (nI t)), am_clr o2, some (.int (nI 0))] [] (bm_wi σ 218 24 (nI n)) := by
      rw [g230_17]
      simp (disch := omega) only [bm_run_ite, Option.toList_some, Option.bind_some, Option.toList_some, Option.toList_none, List.cons_append, List.nil_append, List.append_nil, eq_self, not_true_eq_false, not_false_eq_true, ite_true, ite_false, ↓reduceIte, Nat.reduceLT, Nat.reduceEqDiff, Nat.reduceAdd, or_true, true_or, or_false, false_or, nI_clamp2, nI_lt0F, nI_leT, nI_leF, nI_ltT, nI_ltF, n_leF, n_leT, nI_1, kA6, kA8, kA10, kA22, kA26, kA32, kA44, kA56, kA68, kA80, kA93, kA163, kA794, not_or, or_self, and_self, and_true, true_and, h34, u24, c163, bw, g230_41, nz10, g230_47]
      rfl
    rcases step with ⟨a1, ⟨o3, g⟩, e1, p1⟩ | ⟨a1, g, e1⟩
    · have a2 : wrA X L n = true := by unfold wrA; rw [a1]; simp; omega
      have hf : ∀ k, k < n → raF X k < L ∧ (X k).toInt32 = nI (raF X k) ∧ X k = (nI (raF X k)).toInt64 := by
        intro k hk
        rw [List.all_eq_true] at a1
        have := a1 k (List.mem_range.mpr hk)
        exact raF_ok hL (by simpa using this)
      have gk : ∀ k, k < n → g k = nI (raF X k) := fun k hk => (p1 k hk).trans (hf k hk).2.1
      have k26 := m226 (S := S) (d := d + 1) (mr g) (f := raF X) (n := n) (by omega) (by omega) (fun k hk => (hf k hk).1) (t16 g) (fun k hk => by rw [row_row1]; exact gk k hk)
      rw [t17] at k26
      have e2 : bm_run S (d + 3) 230 17 [some (.ref 218), some (.int (nI t)), o2, none] [] σ = bm_run S (d + 3) 230 (if rgB B (raF X) n = true then 112 else 109) [some (.ref 218), some (.int (nI t)), o3, some (.int (nI n))] [] (bm_row (bm_wi σ 218 24 (nI n)) 229 g) := by
        rw [ent]
        refine e1.trans ?_
        rw [g230_49]
        cases q : rgB B (raF X) n
        · simp (disch := omega) only [bm_run_ite, Option.toList_some, Option.bind_some, Option.toList_some, Option.toList_none, List.cons_append, List.nil_append, List.append_nil, eq_self, not_true_eq_false, not_false_eq_true, ite_true, ite_false, ↓reduceIte, Nat.reduceLT, Nat.reduceEqDiff, Nat.reduceAdd, or_true, true_or, or_false, false_or, nI_clamp2, nI_lt0F, nI_leT, nI_leF, nI_ltT, nI_ltF, n_leF, n_leT, nI_1, kA6, kA8, kA10, kA22, kA26, kA32, kA44, kA56, kA68, kA80, kA93, kA163, kA794, not_or, or_self, and_self, and_true, true_and, t16, g230_102, k26, q, g230_106, bI_itn, Bool.false_eq_true]
        · simp (disch := omega) only [bm_run_ite, Option.toList_some, Option.bind_some, Option.toList_some, Option.toList_none, List.cons_append, List.nil_append, List.append_nil, eq_self, not_true_eq_false, not_false_eq_true, ite_true, ite_false, ↓reduceIte, Nat.reduceLT, Nat.reduceEqDiff, Nat.reduceAdd, or_true, true_or, or_false, false_or, nI_clamp2, nI_lt0F, nI_leT, nI_leF, nI_ltT, nI_ltF, n_leF, n_leT, nI_1, kA6, kA8, kA10, kA22, kA26, kA32, kA44, kA56, kA68, kA80, kA93, kA163, kA794, not_or, or_self, and_self, and_true, true_and, t16, g230_102, k26, q, g230_106, bI_itn]
      refine ⟨g, o3, some (.int (nI n)), ?_, ?_⟩
      · intro z
        refine ⟨gk, ?_⟩
        unfold wrB at z
        rw [a2, if_pos rfl] at z
        cases q : rgB B (raF X) n
        · rw [q] at z; exact absurd z (by decide)
        · rw [q] at e2; exact e2
      · intro z
        unfold wrB at z ⊢
        rw [a2, if_pos rfl] at z ⊢
        cases q : rgB B (raF X) n
        · rw [q] at e2
          rw [e2]
          simp only [Bool.false_eq_true, if_false, g230_109]
          rfl
        · rw [q] at z; exact absurd rfl z
    · have a2 : wrA X L n = false := by unfold wrA; rw [a1]; simp
      refine ⟨g, none, none, ?_, ?_⟩
      · intro z; unfold wrB at z; rw [a2, if_neg Bool.false_ne_true] at z; exact absurd z (by decide)
      · intro _
        have e11 : Int32.ofInt (-10) - 1 = Int32.ofInt (-11) := by decide
        unfold wrB
        rw [a2, ent, if_neg Bool.false_ne_true, e11]
        exact e1
  · rw [if_neg q1] at bw
    have a2 : wrA X L n = false := by
      unfold wrA
      rw [Bool.and_eq_false_iff, Bool.and_eq_false_iff]
      by_cases q2 : 2 ≤ n
      · exact Or.inl (Or.inr (by simp; omega))
      · exact Or.inl (Or.inl (by simp; omega))
    refine ⟨σ.1 229, none, none, ?_, ?_⟩
    · intro z; unfold wrB at z; rw [a2, if_neg Bool.false_ne_true] at z; exact absurd z (by decide)
    · intro _
      have e11 : Int32.ofInt (-10) - 1 = Int32.ofInt (-11) := by decide
      unfold wrB
      rw [a2, wself, g230_17, if_neg Bool.false_ne_true, e11]
      simp (disch := omega) only [bm_run_ite, Option.toList_some, Option.bind_some, Option.toList_some, Option.toList_none, List.cons_append, List.nil_append, List.append_nil, eq_self, not_true_eq_false, not_false_eq_true, ite_true, ite_false, ↓reduceIte, Nat.reduceLT, Nat.reduceEqDiff, Nat.reduceAdd, or_true, true_or, or_false, false_or, nI_clamp2, nI_lt0F, nI_leT, nI_leF, nI_ltT, nI_ltF, n_leF, n_leT, nI_1, kA6, kA8, kA10, kA22, kA26, kA32, kA44, kA56, kA68, kA80, kA93, kA163, kA794, not_or, or_self, and_self, and_true, true_and, h34, u24, c163, bw, g230_41, g230_44]
theorem Kp.at {σ τ : bm_S} (k : Kp σ τ) {a : Nat} (h : ¬ Sc a) (h1 : a ≠ 218) : τ.1 a = σ.1 a := k.1 a h h1
theorem p_cancel (h : RS M L σ) (i : Int32) : PR S (d + 10) 119 230 [.int i] σ := by
  have hM := h.rw.M6
  have hL := h.rw.L12
  have s3 : ¬ Sc 235 := by unfold Sc; omega
  have s4 : ¬ Sc 236 := by unfold Sc; omega
  have s7 : ¬ Sc 219 := by unfold Sc; omega
  cases hi : hasI i 4
  · refine PR.ofk (v := .int (Int32.ofInt (-2))) h ⟨σ, by simp (decide := true) only [e119, g119_0, g119_5n, g119_10, bm_run_ite, Option.toList_some, Option.bind_some, Option.toList_some, Option.toList_none, List.cons_append, List.nil_append, List.append_nil, eq_self, not_true_eq_false, not_false_eq_true, ite_true, ite_false, ↓reduceIte, Nat.reduceLT, Nat.reduceEqDiff, Nat.reduceAdd, or_true, true_or, or_false, false_or, c154n hi], Kp.rfl σ⟩ ?_
    intro τ k
    exact ⟨_, by simp (decide := true) only [e230, g230_0, g230_10, g230_15, bm_run_ite, Option.toList_some, Option.bind_some, Option.toList_some, Option.toList_none, List.cons_append, List.nil_append, List.append_nil, eq_self, not_true_eq_false, not_false_eq_true, ite_true, ite_false, ↓reduceIte, Nat.reduceLT, Nat.reduceEqDiff, Nat.reduceAdd, or_true, true_or, or_false, false_or, m229a hi], kp_t0 τ⟩
  obtain ⟨t, ht, rfl⟩ := hasI_of hi (by decide)
  obtain ⟨t1, t2, t3⟩ := isT4 t ht
  rcases h.2.2.2.1 t ht with ⟨i1, i2⟩ | ⟨s, n, hs, hn, i1, i2, i3, i4, i5⟩
  · refine PR.ofk (v := .int (Int32.ofInt (-6))) h ⟨σ, by simp (decide := true) only [e119, g119_0, g119_5r, g119_13r, g119_17r, g119_20, bm_run_ite, Option.toList_some, Option.bind_some, Option.toList_some, Option.toList_none, List.cons_append, List.nil_append, List.append_nil, eq_self, not_true_eq_false, not_false_eq_true, ite_true, ite_false, ↓reduceIte, Nat.reduceLT, Nat.reduceEqDiff, Nat.reduceAdd, or_true, true_or, or_false, false_or, c154 ht, t1, c71 ht, i1, bI_ite, decide_true, decide_false, Bool.false_eq_true], Kp.rfl σ⟩ ?_
    intro τ k
    have j1 : (bm_wi τ 218 0 0).1 235 t = Int32.ofInt (-1) := by rw [wi_n _ (by decide), k.at s3 (by omega)]; exact i2
    exact ⟨_, by simp (decide := true) only [e230, g230_0, g230_10, g230_15, bm_run_ite, Option.toList_some, Option.bind_some, Option.toList_some, Option.toList_none, List.cons_append, List.nil_append, List.append_nil, eq_self, not_true_eq_false, not_false_eq_true, ite_true, ite_false, ↓reduceIte, Nat.reduceLT, Nat.reduceEqDiff, Nat.reduceAdd, or_true, true_or, or_false, false_or, m229b ht j1], kp_t0 τ⟩
  have hr := h.rw
  have hok := h.1.1
  have hm3 := h.mr.m
  have hm25 := h.mr.l
  generalize hB : σ.1 219 = B at *
  have mr : ∀ τ : bm_S, τ.1 219 = B → MR M L τ := fun τ ht => ⟨⟨hM, hL⟩, by rw [ht]; exact hm3, by rw [ht]; exact hm25⟩
  obtain ⟨g, k12, gk⟩ := c12 (S := S) (d := d + 6) hr (by omega) ht i1 hn
  generalize hX : σ.2 (211 + 2 * t) = X at *
  have ka : Kp σ (bm_row σ 147 g) := (Kp.rfl σ).row (by unfold Sc; omega) g
  have nmm : ¬ nI n = Int32.ofInt (-1) := nm1 (by omega)
  by_cases w : wrB B L X n = 0
  · have ha := h.kp ka
    have fk : ∀ k, k < n → raF X k < L := by
      intro k hk
      unfold wrB at w
      by_cases q : wrA X L n = true
      · unfold wrA at q
        simp only [Bool.and_eq_true, List.all_eq_true, List.mem_range, decide_eq_true_eq] at q
        exact (raF_ok hL (q.2 k hk)).1
      · rw [if_neg q] at w; exact absurd w (by decide)
    have n26 : 2 ≤ n ∧ n ≤ 6 := by
      unfold wrB at w
      by_cases q : wrA X L n = true
      · unfold wrA at q
        simp only [Bool.and_eq_true, decide_eq_true_eq] at q
        exact q.1
      · rw [if_neg q] at w; exact absurd w (by decide)
    have hrg : rgB B (raF X) n = true := by
      unfold wrB at w
      cases q : rgB B (raF X) n
      · rw [q] at w
        by_cases q2 : wrA X L n = true
        · rw [if_pos q2] at w; exact absurd w (by decide)
        · rw [if_neg q2] at w; exact absurd w (by decide)
      · rfl
    have inj : ∀ k, k < n → nwF (raF X) k = true := by
      intro k hk
      unfold rgB at hrg
      rw [List.all_eq_true] at hrg
      have := hrg k (List.mem_range.mpr hk)
      unfold rgK at this
      simp only [Bool.and_eq_true] at this
      exact this.1.2
    have hC : OKB M L (csB B (raF X) n) := hok.cs fk inj
    obtain ⟨σ1, m, e, n1, e1, k1, af⟩ := rem_RS (S := S) (d := d + 6) ha
    have e5 : ∀ a, a < 42 ∨ 141 < a → σ1.1 a = (bm_row σ 147 g).1 a := fun a ha => af.at ha
    have hr1 : RW M L σ1 5 B := hr.of (fun a _ _ => by rw [e5 a (by omega), bm_row_1n _ _ (by omega)])
    obtain ⟨σ2, k2, r2, f2⟩ := c99 (S := S) (d := d + 7) hr1 (by omega) (f := raF X) (n := n) (by omega) (by omega) fk (fun k hk => by rw [e5 147 (by omega), row_row1]; exact gk w k hk) hok.1.1.2.2.1
    have n8 : σ1.1 (210 + 2 * t) 1 = nI n := by rw [e5 _ (by omega), bm_row_1n _ _ (by omega)]; exact i1
    have b0 : (bm_wi σ2 218 0 0).1 219 = B := by rw [wi_n _ (by decide), f2.1 219 (by omega), e5 _ (by omega), bm_row_1n _ _ (by decide)]; exact hB
    have sm : ∀ a, 141 < a → a ≠ 147 → a ≠ 218 → (bm_wi σ2 218 0 0).1 a = σ.1 a := by
      intro a h1 h2 h3
      rw [wi_n _ h3, f2.1 a (by omega), e5 _ (by omega), bm_row_1n _ _ h2]
    have s2x : (bm_wi σ2 218 0 0).2 = σ.2 := by
      show σ2.2 = σ.2
      obtain ⟨_, _, _, _, _, _, _, _, _, _, a11⟩ := af
      rw [f2.2, a11]; rfl
    obtain ⟨g2, o3, o4, mA, _⟩ := m230 (S := S) (d := d + 7) (mr _ b0) ht (n := n) (by rw [sm 236 (by omega) (by omega) (by omega)]; exact i4) hn (X := X) (fun k hk => by rw [s2x, ← i5 k hk]) (some (.int 0))
    rw [b0] at mA
    obtain ⟨gk2, mB⟩ := mA w
    generalize hρ : bm_row (bm_wi (bm_wi σ2 218 0 0) 218 24 (nI n)) 229 g2 = ρ at mB
    have ρ17 : ρ.1 219 = B := by rw [← hρ, bm_row_1n _ _ (by decide), wi_n _ (by decide)]; exact b0
    have ρ24 : ρ.1 218 24 = nI n := by rw [← hρ, bm_row_1n _ _ (by decide), wi_s, upd_s]
    have ρ27 : ρ.1 229 = g2 := by rw [← hρ, row_row1]
    have ρn : ∀ a, a ≠ 218 → a ≠ 229 → ρ.1 a = σ2.1 a := fun a h1 h2 => by rw [← hρ, bm_row_1n _ _ h2, wi_n _ h1, wi_n _ h1]
    have ρ16 : ∀ b, b ≠ 0 → b ≠ 24 → ρ.1 218 b = σ2.1 218 b := fun b h1 h2 => by rw [← hρ, bm_row_1n _ _ (by decide), wi_s, upd_n _ _ h2, wi_s, upd_n _ _ h1]
    have ρ2x : ρ.2 = σ2.2 := by rw [← hρ]; rfl
    obtain ⟨g1, k5, kg⟩ := m215 (S := S) (d := d + 9) (σ := ρ)
    rw [ρ17] at kg
    have b1 : (bm_row ρ 228 g1).1 219 = B := (bm_row_1n _ _ (by decide)).trans ρ17
    have k6 := m228 (S := S) (d := d + 8) (σ := bm_row ρ 228 g1) (f := raF X) (n := n) (by omega) (fun k hk => by have := fk k hk; omega) (by rw [bm_row_1n _ _ (by decide)]; exact ρ24) (fun k hk => by rw [bm_row_1n _ _ (by decide), ρ27]; exact gk2 k hk)
    rw [b1] at k6
    obtain ⟨k7, rs⟩ := mut_fin2 (S := S) (d := d + 9) (ρ2 := bm_row (bm_row ρ 228 g1) 219 (csB B (raF X) n)) ha af f2.b (by
      intro j hj
      rw [bm_row_1n _ _ (by decide), row_row1, kg j hj, bm_row_1n _ _ (by decide), hB]) (by
      intro a h1 h2 h3
      unfold Sc at h1
      rw [bm_row_1n _ _ h3, bm_row_1n _ _ (by omega), ρn a h2 (by omega)]) (by
      intro b hb
      rw [bm_row_1n _ _ (by decide), bm_row_1n _ _ (by decide), ρ16 b (by omega) (by omega)]) (by
      intro a ha
      show ρ.2 a = σ2.2 a
      rw [ρ2x]) (row_row1 _ _ _) (fun k hk => by
        unfold csB
        rw [csB_out hL fk (by omega), bm_row_1n _ _ (by decide), hB]) hC r2
    refine ⟨.int (lsF B (raF X) 999999 n), σ2, _, M, L, ?_, ?_, rs⟩
    · simp (decide := true) only [e119, g119_0, g119_5r, g119_13r, g119_17r, g119_23r, g119_35r, g119_45r, g119_56r, g119_74, bm_run_ite, Option.toList_some, Option.bind_some, Option.toList_some, Option.toList_none, List.cons_append, List.nil_append, List.append_nil, eq_self, not_true_eq_false, not_false_eq_true, ite_true, ite_false, ↓reduceIte, Nat.reduceLT, Nat.reduceEqDiff, Nat.reduceAdd, or_true, true_or, or_false, false_or, c154 ht, t1, c71 ht, i1, nmm, bI_ite, decide_true, decide_false, Bool.false_eq_true, k12, w, k1, n8, k2]
    · have j1 : (bm_wi σ2 218 0 0).1 235 t = nI s := by rw [sm 235 (by omega) (by omega) (by omega)]; exact i3
      simp (decide := true) only [e230, g230_0, g230_10, bm_run_ite, Option.toList_some, Option.bind_some, Option.toList_some, Option.toList_none, List.cons_append, List.nil_append, List.append_nil, eq_self, not_true_eq_false, not_false_eq_true, ite_true, ite_false, ↓reduceIte, Nat.reduceLT, Nat.reduceEqDiff, Nat.reduceAdd, or_true, true_or, or_false, false_or, m229c ht hs j1]
      rw [mB]
      simp (decide := true) only [g230_112, g230_116, g230_120, g230_125, bm_run_ite, Option.toList_some, Option.bind_some, Option.toList_some, Option.toList_none, List.cons_append, List.nil_append, List.append_nil, eq_self, not_true_eq_false, not_false_eq_true, ite_true, ite_false, ↓reduceIte, Nat.reduceLT, Nat.reduceEqDiff, Nat.reduceAdd, or_true, true_or, or_false, false_or, k5, k6, k7]
  · refine PR.ofk (v := .int (Int32.ofInt (-10) - wrB B L X n)) h ⟨bm_row σ 147 g, by simp (decide := true) only [e119, g119_0, g119_5r, g119_13r, g119_17r, g119_23r, g119_35r, g119_40, bm_run_ite, Option.toList_some, Option.bind_some, Option.toList_some, Option.toList_none, List.cons_append, List.nil_append, List.append_nil, eq_self, not_true_eq_false, not_false_eq_true, ite_true, ite_false, ↓reduceIte, Nat.reduceLT, Nat.reduceEqDiff, Nat.reduceAdd, or_true, true_or, or_false, false_or, c154 ht, t1, c71 ht, i1, nmm, bI_ite, decide_true, decide_false, Bool.false_eq_true, k12, w], ka⟩ ?_
    intro τ k
    have j1 : (bm_wi τ 218 0 0).1 235 t = nI s := by rw [wi_n _ (by decide), k.at s3 (by omega)]; exact i3
    have b0 : (bm_wi τ 218 0 0).1 219 = B := by rw [wi_n _ (by decide), k.at s7 (by omega)]; exact hB
    obtain ⟨g2, o3, o4, _, mA⟩ := m230 (S := S) (d := d + 7) (mr _ b0) ht (n := n) (by rw [wi_n _ (by decide), k.at s4 (by omega)]; exact i4) hn (X := X) (fun j hj => by
      show τ.2 237 (40 * t + j) = X j
      rw [k.2.2 237 (by omega), ← i5 j hj]) (some (.int 0))
    rw [b0] at mA
    refine ⟨_, ?_, ((kp_t0 τ).w16 (i := 24) (by decide) (nI n)).row (k := 229) (by unfold Sc; omega) g2⟩
    simp (decide := true) only [e230, g230_0, g230_10, bm_run_ite, Option.toList_some, Option.bind_some, Option.toList_some, Option.toList_none, List.cons_append, List.nil_append, List.append_nil, eq_self, not_true_eq_false, not_false_eq_true, ite_true, ite_false, ↓reduceIte, Nat.reduceLT, Nat.reduceEqDiff, Nat.reduceAdd, or_true, true_or, or_false, false_or, m229c ht hs j1]
    exact mA w
end CANCEL
