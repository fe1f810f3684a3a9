/-! the signs of a text, told -/
def isSp (c : Int32) : Bool := decide (c = 10) || decide (c = 32)
def isL (c : Int32) : Bool := decide (¬ c < 97) && decide (¬ 122 < c)
def isD (c : Int32) : Bool := decide (¬ c < 48) && decide (¬ 57 < c)
def ruF (P : Int32 → Bool) (T : Nat → Int32) : Nat → Nat → Nat
  | 0, p => p
  | r + 1, p => if P (T p) = true then ruF P T r (p + 1) else p
theorem ruF_le {P : Int32 → Bool} {T : Nat → Int32} : ∀ r p, p ≤ ruF P T r p ∧ ruF P T r p ≤ p + r := by
  intro r
  induction r with
  | zero => intro p; exact ⟨Nat.le_refl _, Nat.le_refl _⟩
  | succ r ih =>
    intro p
    rw [ruF]
    split
    · have := ih (p + 1); omega
    · omega
theorem ruF_all {P : Int32 → Bool} {T : Nat → Int32} : ∀ r p i, p ≤ i → i < ruF P T r p → P (T i) = true := by
  intro r
  induction r with
  | zero => intro p i h1 h2; exact absurd h2 (by show ¬ i < p; omega)
  | succ r ih =>
    intro p i h1 h2
    rw [ruF] at h2
    split at h2
    · next q =>
      by_cases e : i = p
      · subst e; exact q
      · exact ih (p + 1) i (by omega) h2
    · omega
theorem ruF_end {P : Int32 → Bool} {T : Nat → Int32} : ∀ r p, ruF P T r p < p + r → P (T (ruF P T r p)) = false := by
  intro r
  induction r with
  | zero => intro p h; exact absurd h (by show ¬ p < p; omega)
  | succ r ih =>
    intro p h
    rw [ruF] at h ⊢
    split
    · next q =>
      rw [if_pos q] at h
      exact ih (p + 1) (by omega)
    · next q =>
      cases e : P (T p)
      · rfl
      · exact absurd e q
def nvF (T : Nat → Int32) (s : Nat) : Nat → Int32
  | 0 => 0
  | k + 1 => 10 * nvF T s k + T (s + k) - 48
def krT (q : Nat) : Int32 := if q < 19 then nI q else if q = 19 then 22 else if q = 20 then 23 else if q = 21 then 24 else if q = 22 then 25 else nI (30 + (q - 23))
def kcT (q : Nat) : Int32 := if q < 16 then nI (201 + q) else if q = 16 then 218 else if q = 17 then 219 else if q = 18 then 217 else if q = 19 then 200 else if q = 20 then 2 else if q = 21 then 0 else if q = 22 then 1 else am_byt 0 (q - 23)
theorem fdF_ok {W : Nat → List Int32} {w : List Int32} : ∀ f j, (W (fdF W w f j) = w ∧ j ≤ fdF W w f j ∧ fdF W w f j < j + f) ∨ (fdF W w f j = j + f ∧ ∀ i, j ≤ i → i < j + f → ¬ W i = w) := by
  intro f
  induction f with
  | zero => intro j; exact Or.inr ⟨rfl, fun i h1 h2 => by omega⟩
  | succ f ih =>
    intro j
    rw [fdF]
    by_cases q : w = W j
    · rw [if_pos q]; exact Or.inl ⟨q.symm, Nat.le_refl _, by omega⟩
    · rw [if_neg q]
      rcases ih (j + 1) with ⟨a, b, c⟩ | ⟨a, b⟩
      · exact Or.inl ⟨a, by omega, by omega⟩
      · refine Or.inr ⟨by omega, fun i h1 h2 => ?_⟩
        by_cases e : i = j
        · subst e; exact fun z => q z.symm
        · exact b i (by omega) (by omega)
theorem wdRC : (∀ j, j < 19 → ckF (wR j) = kcT j ∧ fdF wR (wR j) 19 0 = j) ∧ ∀ j, j < 19 → ∃ i, i < 19 ∧ wC j = wR i := by
  refine ⟨by decide +kernel, ?_⟩
  intro j hj
  have h : ∀ j, j < 19 → wC j = wR (if j < 16 then j else if j = 16 then 18 else j - 1) := by decide +kernel
  refine ⟨if j < 16 then j else if j = 16 then 18 else j - 1, ?_, h j hj⟩
  split
  · omega
  · split <;> omega
def wqF (w : List Int32) : Nat := fdF wR w 19 0
theorem wq_r (w : List Int32) : krT (wqF w) = rkF w ∧ wqF w ≤ 19 := by
  have h : wqF w ≤ 19 := by
    unfold wqF
    rcases fdF_ok (W := wR) (w := w) 19 0 with ⟨_, _, c⟩ | ⟨a, _⟩ <;> omega
  refine ⟨?_, h⟩
  unfold krT rkF wqF at *
  by_cases q : fdF wR w 19 0 < 19
  · rw [if_pos q, if_pos q]
  · rw [if_neg q, if_neg q, if_pos (by omega)]
theorem wq_c (w : List Int32) : kcT (wqF w) = ckF w := by
  unfold wqF
  rcases fdF_ok (W := wR) (w := w) 19 0 with ⟨a, b, c⟩ | ⟨a, b⟩
  · generalize fdF wR w 19 0 = j at *
    rw [← a, (wdRC.1 j (by omega)).1]
  · rw [a]
    unfold ckF
    rcases fdF_ok (W := wC) (w := w) 19 0 with ⟨a2, b2, c2⟩ | ⟨a2, b2⟩
    · exfalso
      obtain ⟨i, hi, ei⟩ := wdRC.2 _ (show fdF wC w 19 0 < 19 by omega)
      rw [a2] at ei
      exact b i (by omega) (by omega) ei.symm
    · rw [a2]
      rfl
/-- a sign's kind -/
def gqF (c : Int32) : Nat → Nat
  | 0 => 22
  | i + 1 => if am_byt 3 i = c then 23 + i else gqF c i
theorem gq_c : ∀ c, c < 256 → (isG (nI c) = true → kcT (gqF (nI c) 12) = nI c) ∧ (isG (nI c) = false → gqF (nI c) 12 = 22) := by decide +kernel
theorem gq_r (c : Int32) : ∀ i, i ≤ 12 → 22 ≤ gqF c i ∧ gqF c i < 35 ∧ krT (gqF c (i + 1)) = if am_byt 3 i = c then 30 + nI i else krT (gqF c i) := by
  intro i hi
  have h : 22 ≤ gqF c i ∧ gqF c i < 23 + i := by
    clear hi
    induction i with
    | zero => exact ⟨Nat.le_refl _, by show 22 < 23; omega⟩
    | succ i ih => rw [gqF]; split <;> omega
  refine ⟨h.1, by omega, ?_⟩
  rw [gqF]
  split
  · unfold krT
    rw [if_neg (by omega), if_neg (by omega), if_neg (by omega), if_neg (by omega), if_neg (by omega), show 23 + i - 23 = i by omega]
    exact (nI_add 30 i).symm
  · rfl
/-- (kind, number, from, to) -/
abbrev Tok : Type := Nat × Int32 × Nat × Nat
def tkF (T : Nat → Int32) (n p : Nat) (v0 : Int32) : Tok :=
  let s := ruF isSp T (n - p) p
  if n ≤ s then (21, v0, n, n)
  else if isL (T s) = true then (wqF (wo T s (ruF isL T (n - s) s)), v0, s, ruF isL T (n - s) s)
  else if isD (T s) = true then (if ruF isD T (n - s) s - s ≤ 3 then 20 else 22, nvF T s (min (ruF isD T (n - s) s - s) 3), s, ruF isD T (n - s) s)
  else (gqF (T s) 12, v0, s, s + 1)
