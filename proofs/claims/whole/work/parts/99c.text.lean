/-! the constant texts -/
def wdC : List (List Int32) := [[102, 97, 105, 114, 115], [109, 111, 110, 101, 121, 115], [109, 101, 114, 99, 104, 97, 110, 116], [108, 101, 116, 116, 101, 114], [116, 111], [111, 102], [97, 116], [108, 97, 116, 101], [119, 111, 114, 116, 104], [116, 105, 109, 101], [102, 97, 105, 114], [121, 101, 97, 114], [109, 111, 110, 101, 121], [119, 104, 111], [99, 97, 115, 104], [115, 104, 111, 114, 116], [110, 111, 116], [97, 110, 100], [111, 114]]
def wdR : List (List Int32) := [[102, 97, 105, 114, 115], [109, 111, 110, 101, 121, 115], [109, 101, 114, 99, 104, 97, 110, 116], [108, 101, 116, 116, 101, 114], [116, 111], [111, 102], [97, 116], [108, 97, 116, 101], [119, 111, 114, 116, 104], [116, 105, 109, 101], [102, 97, 105, 114], [121, 101, 97, 114], [109, 111, 110, 101, 121], [119, 104, 111], [99, 97, 115, 104], [115, 104, 111, 114, 116], [97, 110, 100], [111, 114], [110, 111, 116]]
def psC : List Nat := [1, 7, 14, 23, 30, 33, 36, 39, 44, 50, 55, 60, 65, 71, 75, 80, 86, 90, 94, 97]
def psR : List Nat := [1, 7, 14, 23, 30, 33, 36, 39, 44, 50, 55, 60, 65, 71, 75, 80, 86, 90, 93, 97]
def wC (j : Nat) : List Int32 := wdC.getD j []
def wR (j : Nat) : List Int32 := wdR.getD j []
def pC (j : Nat) : Nat := psC.getD j 0
def pR (j : Nat) : Nat := psR.getD j 0
theorem tabC : ∀ j, j < 19 → (1 ≤ (wC j).length ∧ am_byt 1 (pC j - 1) = 32 ∧ am_byt 1 (pC j + (wC j).length) = 32 ∧ pC (j + 1) = pC j + (wC j).length + 1 ∧ 1 ≤ pC j ∧ pC j + (wC j).length < 97) ∧ ∀ k, k < (wC j).length → am_byt 1 (pC j + k) = (wC j).getD k 0 ∧ ¬ am_byt 1 (pC j + k) = 32 := by decide +kernel
theorem tabR : ∀ j, j < 19 → (1 ≤ (wR j).length ∧ am_byt 2 (pR j + (wR j).length) = 32 ∧ pR (j + 1) = pR j + (wR j).length + 1 ∧ 1 ≤ pR j ∧ pR j + (wR j).length < 97) ∧ ∀ k, k < (wR j).length → am_byt 2 (pR j + k) = (wR j).getD k 0 ∧ ¬ am_byt 2 (pR j + k) = 32 := by decide +kernel
section TEXT
variable {S : am_S} {d : Nat} {σ : bm_S}
theorem c297 : bm_call S d 297 [.retAddr 2] σ = some (some (.int 0), σ) ∧ bm_call S d 297 [.retAddr 4] σ = some (some (.int 0), σ) ∧ bm_call S d 297 [.retAddr 6] σ = some (some (.int 0), σ) ∧ bm_call S d 297 [.retAddr 0] σ = some (some (.int 0), σ) := by
  have n : narrow .byte (.int (0 : Int32)) = .int 0 := by decide +kernel
  refine ⟨?_, ?_, ?_, ?_⟩ <;> simp (decide := true) only [e297k0, e297k1, e297k2, e297k3, g297_0k0, g297_6k0, g297_13k0, g297_14k0, g297_0k1, g297_6k1, g297_13k1, g297_14k1, g297_0k2, g297_6k2, g297_13k2, g297_14k2, g297_0k3, g297_6k3, g297_13k3, g297_14k3, bm_run_ite, Option.toList_some, Option.bind_some, Option.toList_some, Option.toList_none, List.cons_append, List.nil_append, List.append_nil, eq_self, not_true_eq_false, not_false_eq_true, ite_true, ite_false, ↓reduceIte, Nat.reduceLT, Nat.reduceEqDiff, Nat.reduceAdd, or_true, true_or, or_false, false_or, n, if_true]
theorem c293 : bm_call S (d + 1) 293 [.retAddr 2] σ = some (some (.int 97), σ) ∧ bm_call S (d + 1) 293 [.retAddr 4] σ = some (some (.int 97), σ) ∧ bm_call S (d + 1) 293 [.retAddr 6] σ = some (some (.int 12), σ) ∧ bm_call S (d + 1) 293 [.retAddr 0] σ = some (some (.int 12), σ) := by
  obtain ⟨a, b, c, e⟩ := c297 (S := S) (d := d) (σ := σ)
  have n1 : (97 : Int32) >>> ((0 : Int32) &&& 31) = 97 := by decide +kernel
  have n2 : (12 : Int32) >>> ((0 : Int32) &&& 31) = 12 := by decide +kernel
  refine ⟨?_, ?_, ?_, ?_⟩ <;> simp (decide := true) only [e293k0, e293k1, e293k2, e293k3, g293_0k0, g293_9k0, g293_0k1, g293_9k1, g293_0k2, g293_9k2, g293_0k3, g293_9k3, bm_run_ite, Option.toList_some, Option.bind_some, Option.toList_some, Option.toList_none, List.cons_append, List.nil_append, List.append_nil, eq_self, not_true_eq_false, not_false_eq_true, ite_true, ite_false, ↓reduceIte, Nat.reduceLT, Nat.reduceEqDiff, Nat.reduceAdd, or_true, true_or, or_false, false_or, a, b, c, e, n1, n2]
theorem c298 : bm_call S d 298 [.retAddr 2] σ = some (some (.int 1), σ) ∧ bm_call S d 298 [.retAddr 4] σ = some (some (.int 1), σ) ∧ bm_call S d 298 [.retAddr 6] σ = some (some (.int 1), σ) ∧ bm_call S d 298 [.retAddr 0] σ = some (some (.int 1), σ) := by
  refine ⟨?_, ?_, ?_, ?_⟩ <;> simp (decide := true) only [e298k0, e298k1, e298k2, e298k3, g298_0k0, g298_6k0, g298_13k0, g298_17k0, g298_18k0, g298_0k1, g298_6k1, g298_13k1, g298_17k1, g298_18k1, g298_0k2, g298_6k2, g298_13k2, g298_17k2, g298_18k2, g298_0k3, g298_6k3, g298_13k3, g298_17k3, g298_18k3, bm_run_ite, Option.toList_some, Option.bind_some, Option.toList_some, Option.toList_none, List.cons_append, List.nil_append, List.append_nil, eq_self, not_true_eq_false, not_false_eq_true, ite_true, ite_false, ↓reduceIte, Nat.reduceLT, Nat.reduceEqDiff, Nat.reduceAdd, or_true, true_or, or_false, false_or, if_true]
theorem c299 {j n : Nat} (h : j < n) (hn : n < 2147483648) : bm_call S (d + 1) 299 [.int (nI j), .int (nI n)] σ = some (none, σ) := by
  have n0 : ¬ nI j < 0 := nI_pos (by omega)
  have n1 : nI j < nI n := nI_lt h hn
  simp only [e299, g299_0, g299_8, e304, g304_0, g304_4, g304_16, bm_run_ite, Option.toList_some, Option.bind_some, Option.toList_some, Option.toList_none, List.cons_append, List.nil_append, List.append_nil, eq_self, not_true_eq_false, not_false_eq_true, ite_true, ite_false, ↓reduceIte, Nat.reduceLT, Nat.reduceEqDiff, Nat.reduceAdd, or_true, true_or, or_false, false_or, n0, n1]
theorem byt97 : ∀ j, j < 97 → ((((am_byt 1 j) &&& 255).toUInt32 % 65536).toInt32 = am_byt 1 j ∧ narrow .char (.int (am_byt 1 j)) = .int (am_byt 1 j)) ∧ ((((am_byt 2 j) &&& 255).toUInt32 % 65536).toInt32 = am_byt 2 j ∧ narrow .char (.int (am_byt 2 j)) = .int (am_byt 2 j)) := by decide +kernel
theorem byt12 : ∀ j, j < 12 → (((am_byt 3 j) &&& 255).toUInt32 % 65536).toInt32 = am_byt 3 j ∧ narrow .char (.int (am_byt 3 j)) = .int (am_byt 3 j) := by decide +kernel
theorem c294a {j : Nat} (h : j < 97) : bm_call S (d + 3) 294 [.retAddr 2, .int (nI j)] σ = some (some (.int (am_byt 1 j)), σ) := by
  obtain ⟨⟨a1, a2⟩, _⟩ := byt97 j h
  have k := c299 (S := S) (d := d) (σ := σ) h (by decide)
  replace k : bm_call S (d + 1) 299 [.int (nI j), .int 97] σ = some (none, σ) := k
  have bd : ¬ (nI j < 0 ∨ 97 ≤ j) := by rintro (z | z); exact nI_pos (by omega) z; omega
  simp (decide := true) only [e294k1, g294_0k1, g294_4k1, g294_7k1, g294_15k1, e300k1, g300_0k1, g300_6k1, bm_run_ite, Option.toList_some, Option.bind_some, Option.toList_some, Option.toList_none, List.cons_append, List.nil_append, List.append_nil, eq_self, not_true_eq_false, not_false_eq_true, ite_true, ite_false, ↓reduceIte, Nat.reduceLT, Nat.reduceEqDiff, Nat.reduceAdd, or_true, true_or, or_false, false_or, c298.1, k, nI_clamp2 (show j < 2147483648 by omega), a1, a2, bd, if_true]
theorem c294b {j : Nat} (h : j < 97) : bm_call S (d + 3) 294 [.retAddr 4, .int (nI j)] σ = some (some (.int (am_byt 2 j)), σ) := by
  obtain ⟨_, a1, a2⟩ := byt97 j h
  have k := c299 (S := S) (d := d) (σ := σ) h (by decide)
  replace k : bm_call S (d + 1) 299 [.int (nI j), .int 97] σ = some (none, σ) := k
  have bd : ¬ (nI j < 0 ∨ 97 ≤ j) := by rintro (z | z); exact nI_pos (by omega) z; omega
  simp (decide := true) only [e294k2, g294_0k2, g294_4k2, g294_7k2, g294_15k2, e300k2, g300_0k2, g300_6k2, bm_run_ite, Option.toList_some, Option.bind_some, Option.toList_some, Option.toList_none, List.cons_append, List.nil_append, List.append_nil, eq_self, not_true_eq_false, not_false_eq_true, ite_true, ite_false, ↓reduceIte, Nat.reduceLT, Nat.reduceEqDiff, Nat.reduceAdd, or_true, true_or, or_false, false_or, c298.2.1, k, nI_clamp2 (show j < 2147483648 by omega), a1, a2, bd, if_true]
theorem c294s {j : Nat} (h : j < 12) : bm_call S (d + 3) 294 [.retAddr 6, .int (nI j)] σ = some (some (.int (am_byt 3 j)), σ) := by
  obtain ⟨a1, a2⟩ := byt12 j h
  have k := c299 (S := S) (d := d) (σ := σ) h (by decide)
  replace k : bm_call S (d + 1) 299 [.int (nI j), .int 12] σ = some (none, σ) := k
  have bd : ¬ (nI j < 0 ∨ 12 ≤ j) := by rintro (z | z); exact nI_pos (by omega) z; omega
  simp (decide := true) only [e294k3, g294_0k3, g294_4k3, g294_7k3, g294_15k3, e300k3, g300_0k3, g300_6k3, bm_run_ite, Option.toList_some, Option.bind_some, Option.toList_some, Option.toList_none, List.cons_append, List.nil_append, List.append_nil, eq_self, not_true_eq_false, not_false_eq_true, ite_true, ite_false, ↓reduceIte, Nat.reduceLT, Nat.reduceEqDiff, Nat.reduceAdd, or_true, true_or, or_false, false_or, c298.2.2.1, k, nI_clamp2 (show j < 2147483648 by omega), a1, a2, bd, if_true]
theorem sg12 : ∀ j, j < 12 → (am_byt 0 j).toInt8.toInt32 = am_byt 0 j ∧ am_byt 3 j = am_byt 0 j ∧ ∃ k, k < 128 ∧ am_byt 0 j = nI k := by decide +kernel
theorem i8_v : ∀ c, c < 256 → (c < 128 → (nI c).toInt8.toInt32 = nI c) ∧ (128 ≤ c → (nI c).toInt8.toInt32 < 0) := by decide +kernel
theorem i8_lt (c : Nat) (hc : c < 256) (k : Nat) (hk : k < 128) : (nI c).toInt8.toInt32 = nI k ↔ c = k := by
  rcases Nat.lt_or_ge c 128 with q | q
  · rw [(i8_v c hc).1 q, nI_eq (by omega) (by omega)]
  · constructor
    · intro z
      have := (i8_v c hc).2 q
      rw [z] at this
      exact absurd this (nI_pos (by omega))
    · intro z; omega
/-- is it a sign? -/
def isG (c : Int32) : Bool := !(List.range 12).all (fun j => !decide (am_byt 0 j = c))
theorem c295 {c : Nat} (hc : c < 256) : ∃ v : Int32, bm_call S (d + 3) 295 [.retAddr 0, .int (nI c)] σ = some (some (.int v), σ) ∧ (v < 0 ↔ isG (nI c) = false) := by
  have c0 : ¬ nI c < 0 := nI_pos (by omega)
  have c1 : ¬ (255 : Int32) < nI c := nI_nlt (a := 255) (by omega) (by decide)
  have same : ∀ j, j < 12 → (am_byt 0 j = (nI c).toInt8.toInt32 ↔ am_byt 0 j = nI c) := fun j hj => by
    obtain ⟨_, _, k, hk, ek⟩ := sg12 j hj
    rw [ek]
    constructor
    · intro z
      have := (i8_lt c hc k hk).mp z.symm
      rw [this]
    · intro z
      have := (nI_eq (by omega) (by omega)).mp z
      exact ((i8_lt c hc k hk).mpr this.symm).symm
  have go : ∀ v, bm_run S d 303 7 [some (.retAddr 1), some (.int (nI c)), some (.int 0), some (.int 12), some (.int (nI c).toInt8.toInt32), some (.int 0)] [] σ = some (some (.int v), σ) → bm_call S (d + 3) 295 [.retAddr 0, .int (nI c)] σ = some (some (.int v), σ) := by
    intro v hv
    have k303 : bm_call S d 303 [.retAddr 1, .int (nI c), .int 0, .int 12] σ = some (some (.int v), σ) := by
      rw [e303k0, g303_0k0]; exact hv
    have k301 : bm_call S d 301 [.int (nI c)] σ = some (some (.int 1), σ) := by
      simp (decide := true) only [e301, g301_0, g301_4, g301_11, g301_16, bm_run_ite, Option.toList_some, Option.bind_some, Option.toList_some, Option.toList_none, List.cons_append, List.nil_append, List.append_nil, eq_self, not_true_eq_false, not_false_eq_true, ite_true, ite_false, ↓reduceIte, Nat.reduceLT, Nat.reduceEqDiff, Nat.reduceAdd, or_true, true_or, or_false, false_or, c0, c1, if_true]
    have k302 : bm_call S (d + 1) 302 [.retAddr 1, .int (nI c), .int 0, .int 12] σ = some (some (.int v), σ) := by
      simp (decide := true) only [e302k0, g302_0k0, g302_4k0, g302_9k0, g302_14k0, g302_21k0, g302_29k0, g302_36k0, bm_run_ite, Option.toList_some, Option.bind_some, Option.toList_some, Option.toList_none, List.cons_append, List.nil_append, List.append_nil, eq_self, not_true_eq_false, not_false_eq_true, ite_true, ite_false, ↓reduceIte, Nat.reduceLT, Nat.reduceEqDiff, Nat.reduceAdd, or_true, true_or, or_false, false_or, k301, c289, c291, k303]
    simp (decide := true) only [e295k0, g295_0k0, g295_6k0, e296k0, g296_0k0, g296_4k0, g296_7k0, g296_17k0, g296_20k0, g296_36k0, bm_run_ite, Option.toList_some, Option.bind_some, Option.toList_some, Option.toList_none, List.cons_append, List.nil_append, List.append_nil, eq_self, not_true_eq_false, not_false_eq_true, ite_true, ite_false, ↓reduceIte, Nat.reduceLT, Nat.reduceEqDiff, Nat.reduceAdd, or_true, true_or, or_false, false_or, c298.2.2.2, c293.2.2.2, k302]
  have step := loop_allq (fun j (_ : Unit) => bm_run S d 303 7 [some (.retAddr 1), some (.int (nI c)), some (.int 0), some (.int 12), some (.int (nI c).toInt8.toInt32), some (.int (nI j))] [] σ) (fun _ _ => True) (fun j => !decide (am_byt 0 j = nI c)) (fun z => ∃ j, j < 12 ∧ z = some (some (.int (nI j)), σ)) 12 () trivial (by
    intro j s hj _
    have lt : ¬ (12 : Int32) ≤ nI j := nI_ge (b := 12) hj (by decide)
    have bd : ¬ (nI j < 0 ∨ 12 ≤ j) := by rintro (z | z); exact nI_pos (by omega) z; omega
    refine ⟨fun q => ⟨(), ?_, trivial⟩, fun q => ⟨j, hj, ?_⟩⟩
    · have q1 : ¬ am_byt 0 j = (nI c).toInt8.toInt32 := fun z => by rw [(same j hj).mp z] at q; simp at q
      show bm_run S d 303 7 _ [] σ = _
      rw [g303_7k0]
      simp (decide := true) only [bm_run_ite, Option.toList_some, Option.bind_some, Option.toList_some, Option.toList_none, List.cons_append, List.nil_append, List.append_nil, eq_self, not_true_eq_false, not_false_eq_true, ite_true, ite_false, ↓reduceIte, Nat.reduceLT, Nat.reduceEqDiff, Nat.reduceAdd, or_true, true_or, or_false, false_or, lt, g303_13k0, nI_clamp2 (show j < 2147483648 by omega), bd, q1, g303_25k0, nI_1]
    · have q0 : am_byt 0 j = nI c := by simpa using q
      have q1 : am_byt 0 j = (nI c).toInt8.toInt32 := (same j hj).mpr q0
      show bm_run S d 303 7 _ [] σ = _
      rw [g303_7k0]
      simp (decide := true) only [bm_run_ite, Option.toList_some, Option.bind_some, Option.toList_some, Option.toList_none, List.cons_append, List.nil_append, List.append_nil, eq_self, not_true_eq_false, not_false_eq_true, ite_true, ite_false, ↓reduceIte, Nat.reduceLT, Nat.reduceEqDiff, Nat.reduceAdd, or_true, true_or, or_false, false_or, lt, g303_13k0, nI_clamp2 (show j < 2147483648 by omega), bd, q1, g303_22k0])
  rcases step with ⟨a1, _, e1, _⟩ | ⟨a1, j, hj, e1⟩
  · refine ⟨Int32.ofInt (-1), go _ ?_, ?_⟩
    · refine (show bm_run S d 303 7 [some (.retAddr 1), some (.int (nI c)), some (.int 0), some (.int 12), some (.int (nI c).toInt8.toInt32), some (.int (nI 0))] [] σ = _ from e1).trans ?_
      have le : (12 : Int32) ≤ nI 12 := by decide
      show bm_run S d 303 7 _ [] σ = _
      rw [g303_7k0]
      simp (decide := true) only [bm_run_ite, Option.toList_some, Option.bind_some, Option.toList_some, Option.toList_none, List.cons_append, List.nil_append, List.append_nil, eq_self, not_true_eq_false, not_false_eq_true, ite_true, ite_false, ↓reduceIte, Nat.reduceLT, Nat.reduceEqDiff, Nat.reduceAdd, or_true, true_or, or_false, false_or, le, g303_31k0]
    · unfold isG
      rw [a1]
      simp (decide := true)
  · refine ⟨nI j, go _ e1, ?_⟩
    unfold isG
    rw [a1]
    constructor
    · intro z; exact absurd z (nI_pos (by omega))
    · intro z; cases z
end TEXT
/-! words -/
def wo (T : Nat → Int32) (s e : Nat) : List Int32 := (List.range (e - s)).map (fun i => T (s + i))
theorem wo_eq {T : Nat → Int32} {s e : Nat} {w : List Int32} : wo T s e = w ↔ e - s = w.length ∧ ∀ i, i < w.length → T (s + i) = w.getD i 0 := by
  unfold wo
  constructor
  · intro h
    subst h
    refine ⟨by simp, fun i hi => ?_⟩
    simp at hi
    simp [List.getD_eq_getElem?_getD, hi]
  · rintro ⟨h1, h2⟩
    apply List.ext_getElem
    · simp [h1]
    · intro i a b
      simp at a
      simp only [List.getElem_map, List.getElem_range]
      rw [h2 i b, List.getD_eq_getElem?_getD, List.getElem?_eq_getElem b, Option.getD_some]
def fdF (W : Nat → List Int32) (w : List Int32) : Nat → Nat → Nat
  | 0, j => j
  | f + 1, j => if w = W j then j else fdF W w f (j + 1)
def rkF (w : List Int32) : Int32 := if fdF wR w 19 0 < 19 then nI (fdF wR w 19 0) else 22
def ckF (w : List Int32) : Int32 := if fdF wC w 19 0 < 19 then nI (201 + fdF wC w 19 0) else 200
section WORD
variable {S : am_S} {d : Nat} {σ : bm_S}
theorem m170i {j s e : Nat} (hj : j < 19) (h6 : σ.1 218 6 = nI s) (h7 : σ.1 218 7 = nI e) (he : e ≤ 900) : ∀ r k, k + r = (wR j).length → s + k ≤ e → (∀ i, i < k → σ.1 221 (s + i) = (wR j).getD i 0) → ∃ k2, k2 ≤ (wR j).length ∧ s + k2 ≤ e ∧ (∀ i, i < k2 → σ.1 221 (s + i) = (wR j).getD i 0) ∧ (k2 = (wR j).length ∨ s + k2 = e ∨ ¬ σ.1 221 (s + k2) = (wR j).getD k2 0) ∧ bm_run S (d + 4) 170 15 [some (.ref 218), some (.int (nI j)), some (.int (nI (pR j))), some (.int (nI k))] [] σ = bm_run S (d + 4) 170 69 [some (.ref 218), some (.int (nI j)), some (.int (nI (pR j))), some (.int (nI k2))] [] σ := by
  obtain ⟨⟨t1, t2, t3, t4, t5⟩, t6⟩ := tabR j hj
  intro r
  induction r with
  | zero =>
    intro k hk hs hm
    refine ⟨k, by omega, hs, hm, Or.inl (by omega), ?_⟩
    have ca := c294b (S := S) (d := d) (σ := σ) (j := pR j + k) (by omega)
    rw [show k = (wR j).length by omega, t2] at ca
    rw [show k = (wR j).length by omega, g170_15]
    simp (decide := true) only [bm_run_ite, Option.toList_some, Option.bind_some, Option.toList_some, Option.toList_none, List.cons_append, List.nil_append, List.append_nil, eq_self, not_true_eq_false, not_false_eq_true, ite_true, ite_false, ↓reduceIte, Nat.reduceLT, Nat.reduceEqDiff, Nat.reduceAdd, or_true, true_or, or_false, false_or, nI_add, ca, g170_23]
  | succ r ih =>
    intro k hk hs hm
    obtain ⟨u1, u2⟩ := t6 k (by omega)
    have ca := c294b (S := S) (d := d) (σ := σ) (j := pR j + k) (by omega)
    by_cases q : s + k = e
    · have le : nI e ≤ nI (s + k) := by rw [q]; exact Int32.le_refl _
      refine ⟨k, by omega, hs, hm, Or.inr (Or.inl q), ?_⟩
      rw [g170_15]
      simp only [bm_run_ite, Option.toList_some, Option.bind_some, Option.toList_some, Option.toList_none, List.cons_append, List.nil_append, List.append_nil, eq_self, not_true_eq_false, not_false_eq_true, ite_true, ite_false, ↓reduceIte, Nat.reduceLT, Nat.reduceEqDiff, Nat.reduceAdd, or_true, true_or, or_false, false_or, nI_add, ca, g170_23, u2, g170_28, h6, h7, le]
    · have le : ¬ nI e ≤ nI (s + k) := nI_ge (by omega) (by omega)
      have bd : ¬ (nI (s + k) < 0 ∨ 900 ≤ s + k) := by rintro (z | z); exact nI_pos (by omega) z; omega
      by_cases q2 : σ.1 221 (s + k) = (wR j).getD k 0
      · obtain ⟨k2, a1, a2, a3, a4, a5⟩ := ih (k + 1) (by omega) (by omega) (fun i hi => by
          by_cases ei : i = k
          · subst ei; exact q2
          · exact hm i (by omega))
        refine ⟨k2, a1, a2, a3, a4, ?_⟩
        rw [← a5, g170_15]
        have q3 : σ.1 221 (s + k) = am_byt 2 (pR j + k) := by rw [u1]; exact q2
        simp only [bm_run_ite, Option.toList_some, Option.bind_some, Option.toList_some, Option.toList_none, List.cons_append, List.nil_append, List.append_nil, eq_self, not_true_eq_false, not_false_eq_true, ite_true, ite_false, ↓reduceIte, Nat.reduceLT, Nat.reduceEqDiff, Nat.reduceAdd, or_true, true_or, or_false, false_or, nI_add, ca, g170_23, u2, g170_28, h6, h7, le, g170_41, nI_clamp2 (show s + k < 2147483648 by omega), bd, g170_60, q3, g170_63, nI_1]
      · have q3 : ¬ σ.1 221 (s + k) = am_byt 2 (pR j + k) := by rw [u1]; exact q2
        refine ⟨k, by omega, hs, hm, Or.inr (Or.inr q2), ?_⟩
        rw [g170_15]
        simp only [bm_run_ite, Option.toList_some, Option.bind_some, Option.toList_some, Option.toList_none, List.cons_append, List.nil_append, List.append_nil, eq_self, not_true_eq_false, not_false_eq_true, ite_true, ite_false, ↓reduceIte, Nat.reduceLT, Nat.reduceEqDiff, Nat.reduceAdd, or_true, true_or, or_false, false_or, nI_add, ca, g170_23, u2, g170_28, h6, h7, le, g170_41, nI_clamp2 (show s + k < 2147483648 by omega), bd, g170_60, q3]
theorem m170n {j : Nat} (hj : j < 19) (o3 : Option Value) : ∀ r k, k + r = (wR j).length → bm_run S (d + 4) 170 97 [some (.ref 218), some (.int (nI j)), some (.int (nI (pR j + k))), o3] [] σ = bm_run S (d + 4) 170 4 [some (.ref 218), some (.int (nI (j + 1))), some (.int (nI (pR (j + 1)))), o3] [] σ := by
  obtain ⟨⟨t1, t2, t3, t4, t5⟩, t6⟩ := tabR j hj
  intro r
  induction r with
  | zero =>
    intro k hk
    have ca := c294b (S := S) (d := d) (σ := σ) (j := pR j + k) (by omega)
    rw [show k = (wR j).length by omega, t2] at ca
    rw [show k = (wR j).length by omega, g170_97, t3]
    simp (decide := true) only [bm_run_ite, Option.toList_some, Option.bind_some, Option.toList_some, Option.toList_none, List.cons_append, List.nil_append, List.append_nil, eq_self, not_true_eq_false, not_false_eq_true, ite_true, ite_false, ↓reduceIte, Nat.reduceLT, Nat.reduceEqDiff, Nat.reduceAdd, or_true, true_or, or_false, false_or, ca, g170_103, g170_114, nI_1]
  | succ r ih =>
    intro k hk
    have ca := c294b (S := S) (d := d) (σ := σ) (j := pR j + k) (by omega)
    have ih2 := ih (k + 1) (by omega)
    rw [← ih2, g170_97]
    simp only [bm_run_ite, Option.toList_some, Option.bind_some, Option.toList_some, Option.toList_none, List.cons_append, List.nil_append, List.append_nil, eq_self, not_true_eq_false, not_false_eq_true, ite_true, ite_false, ↓reduceIte, Nat.reduceLT, Nat.reduceEqDiff, Nat.reduceAdd, or_true, true_or, or_false, false_or, ca, g170_103, (t6 k (by omega)).2, g170_108, nI_1, Nat.add_assoc]
theorem m170 {s e : Nat} (h6 : σ.1 218 6 = nI s) (h7 : σ.1 218 7 = nI e) (hs : s ≤ e) (he : e ≤ 900) : bm_call S (d + 4) 170 [.ref 218] σ = some (some (.int (rkF (wo (σ.1 221) s e))), σ) := by
  have main : ∀ f j, j + f = 19 → ∀ o3, bm_run S (d + 4) 170 4 [some (.ref 218), some (.int (nI j)), some (.int (nI (pR j))), o3] [] σ = some (some (.int (if fdF wR (wo (σ.1 221) s e) f j < 19 then nI (fdF wR (wo (σ.1 221) s e) f j) else 22)), σ) := by
    intro f
    induction f with
    | zero =>
      intro j hj o3
      have e19 : j = 19 := by omega
      subst e19
      have p19 : pR 19 = 97 := by decide +kernel
      have le : (97 : Int32) ≤ nI 97 := by decide
      rw [g170_4, p19]
      simp (decide := true) only [bm_run_ite, Option.toList_some, Option.bind_some, Option.toList_some, Option.toList_none, List.cons_append, List.nil_append, List.append_nil, eq_self, not_true_eq_false, not_false_eq_true, ite_true, ite_false, ↓reduceIte, Nat.reduceLT, Nat.reduceEqDiff, Nat.reduceAdd, or_true, true_or, or_false, false_or, c293.2.1, g170_10, le, g170_123, fdF]
    | succ f ih =>
      intro j hj o3
      have hj19 : j < 19 := by omega
      obtain ⟨⟨t1, t2, t3, t4, t5⟩, t6⟩ := tabR j hj19
      have lt : ¬ (97 : Int32) ≤ nI (pR j) := nI_ge (b := 97) (by omega) (by decide)
      obtain ⟨k, a1, a2, a3, a4, a5⟩ := m170i (S := S) (d := d) hj19 h6 h7 he (wR j).length 0 (by omega) (by omega) (fun i hi => absurd hi (by omega))
      have ca := c294b (S := S) (d := d) (σ := σ) (j := pR j + k) (by omega)
      have nx := m170n (S := S) (d := d) (σ := σ) hj19 (some (.int (nI k))) (wR j).length 0 (by omega)
      rw [Nat.add_zero] at nx
      rw [g170_4]
      simp only [bm_run_ite, Option.toList_some, Option.bind_some, Option.toList_some, Option.toList_none, List.cons_append, List.nil_append, List.append_nil, eq_self, not_true_eq_false, not_false_eq_true, ite_true, ite_false, ↓reduceIte, Nat.reduceLT, Nat.reduceEqDiff, Nat.reduceAdd, or_true, true_or, or_false, false_or, c293.2.1, g170_10, lt, g170_13]
      refine (show bm_run S (d + 4) 170 15 [some (.ref 218), some (.int (nI j)), some (.int (nI (pR j))), some (.int (nI 0))] [] σ = _ from a5).trans ?_
      rw [g170_69, fdF]
      by_cases q : wo (σ.1 221) s e = wR j
      · obtain ⟨b1, b2⟩ := wo_eq.mp q
        have ek : k = (wR j).length := by
          rcases a4 with z | z | z
          · exact z
          · omega
          · rcases Nat.lt_or_ge k (wR j).length with y | y
            · exact absurd (b2 k y) z
            · omega
        rw [ek, t2] at ca
        have e7 : nI (s + (wR j).length) = nI e := by rw [show s + (wR j).length = e by omega]
        rw [if_pos q, if_pos hj19, ek]
        simp (decide := true) only [bm_run_ite, Option.toList_some, Option.bind_some, Option.toList_some, Option.toList_none, List.cons_append, List.nil_append, List.append_nil, eq_self, not_true_eq_false, not_false_eq_true, ite_true, ite_false, ↓reduceIte, Nat.reduceLT, Nat.reduceEqDiff, Nat.reduceAdd, or_true, true_or, or_false, false_or, nI_add, ca, g170_77, g170_82, h6, h7, e7, g170_95]
      · rw [if_neg q, ← ih (j + 1) (by omega) (some (.int (nI k))), ← nx]
        rcases Nat.lt_or_ge k (wR j).length with y | y
        · simp only [bm_run_ite, Option.toList_some, Option.bind_some, Option.toList_some, Option.toList_none, List.cons_append, List.nil_append, List.append_nil, eq_self, not_true_eq_false, not_false_eq_true, ite_true, ite_false, ↓reduceIte, Nat.reduceLT, Nat.reduceEqDiff, Nat.reduceAdd, or_true, true_or, or_false, false_or, nI_add, ca, g170_77, (t6 k y).2]
          rfl
        · have ek : k = (wR j).length := by omega
          rw [ek, t2] at ca
          have ne : ¬ s + (wR j).length = e := fun z => q (wo_eq.mpr ⟨by omega, fun i hi => a3 i (by omega)⟩)
          have e7 : ¬ nI (s + (wR j).length) = nI e := fun z => ne ((nI_eq (by omega) (by omega)).mp z)
          rw [ek]
          simp (decide := true) only [bm_run_ite, Option.toList_some, Option.bind_some, Option.toList_some, Option.toList_none, List.cons_append, List.nil_append, List.append_nil, eq_self, not_true_eq_false, not_false_eq_true, ite_true, ite_false, ↓reduceIte, Nat.reduceLT, Nat.reduceEqDiff, Nat.reduceAdd, or_true, true_or, or_false, false_or, nI_add, ca, g170_77, g170_82, h6, h7, e7]
          rfl
  have m0 := main 19 0 (by omega) none
  rw [e170, g170_0]
  exact m0
end WORD
