/-! the best changing, in numbers -/
def mxF (f : Nat → Nat) : Nat → Nat
  | 0 => 0
  | k + 1 => if mxF f k < f k then f k else mxF f k
theorem mxF_ge {f : Nat → Nat} {k : Nat} : ∀ {n : Nat}, k < n → f k ≤ mxF f n := by
  intro n
  induction n with
  | zero => intro h; omega
  | succ n ih =>
    intro h
    rw [mxF]
    by_cases e : k = n
    · subst e; split <;> omega
    · have := ih (by omega)
      split <;> omega
theorem mxF_le {f : Nat → Nat} {x : Nat} : ∀ {n : Nat}, (∀ k, k < n → f k ≤ x) → mxF f n ≤ x := by
  intro n
  induction n with
  | zero => intro _; exact Nat.zero_le _
  | succ n ih =>
    intro h
    rw [mxF]
    split
    · exact h n (by omega)
    · exact ih (fun k hk => h k (by omega))
theorem mxF_at {f : Nat → Nat} : ∀ {n : Nat}, 0 < n → ∃ k, k < n ∧ mxF f n = f k := by
  intro n
  induction n with
  | zero => intro h; omega
  | succ n ih =>
    intro _
    rw [mxF]
    split
    · exact ⟨n, by omega, rfl⟩
    · next q =>
      rcases Nat.eq_zero_or_pos n with e | e
      · subst e
        refine ⟨0, by omega, ?_⟩
        have z : mxF f 0 = 0 := rfl
        omega
      · obtain ⟨k, hk, ek⟩ := ih e
        exact ⟨k, by omega, ek⟩
theorem mxF_cg {f g : Nat → Nat} : ∀ {n : Nat}, (∀ k, k < n → f k = g k) → mxF f n = mxF g n := by
  intro n
  induction n with
  | zero => intro _; rfl
  | succ n ih => intro h; rw [mxF, mxF, ih (fun k hk => h k (by omega)), h n (by omega)]
def chF (W : Nat → Nat → Nat) (i k c j : Nat) : Nat := if k = j then c else if c * W i k / W i j < 1000000000 then c * W i k / W i j else 1000000000
theorem chF_le {W : Nat → Nat → Nat} {i k c j : Nat} (h : c ≤ 1000000000) : chF W i k c j ≤ 1000000000 := by
  unfold chF
  split
  · exact h
  · split <;> omega
theorem chF_mono {W : Nat → Nat → Nat} {i k j c c2 : Nat} (h : c ≤ c2) : chF W i k c j ≤ chF W i k c2 j := by
  unfold chF
  split
  · exact h
  · have : c * W i k / W i j ≤ c2 * W i k / W i j := Nat.div_le_div_right (Nat.mul_le_mul_right _ h)
    split <;> split <;> omega
theorem chF_0 {W : Nat → Nat → Nat} {i k j : Nat} : chF W i k 0 j = 0 := by
  unfold chF
  split
  · rfl
  · rw [Nat.zero_mul, Nat.zero_div, if_pos (by omega)]
def vF (W : Nat → Nat → Nat) (C n : Nat) : Nat → Nat → Nat → Nat → Nat
  | 0, _, k, c => c * W n k
  | r + 1, i, k, c => mxF (fun j => vF W C n r (i + 1) j (chF W i k c j)) C
theorem vF_mono {W : Nat → Nat → Nat} {C n : Nat} : ∀ r i k c c2, c ≤ c2 → vF W C n r i k c ≤ vF W C n r i k c2 := by
  intro r
  induction r with
  | zero => intro i k c c2 h; exact Nat.mul_le_mul_right _ h
  | succ r ih =>
    intro i k c c2 h
    rw [vF, vF]
    exact mxF_le (fun j hj => Nat.le_trans (ih (i + 1) j _ _ (chF_mono h)) (mxF_ge (f := fun j => vF W C n r (i + 1) j (chF W i k c2 j)) hj))
theorem vF_0 {W : Nat → Nat → Nat} {C n : Nat} : ∀ r i k, vF W C n r i k 0 = 0 := by
  intro r
  induction r with
  | zero => intro i k; exact Nat.zero_mul _
  | succ r ih =>
    intro i k
    rw [vF]
    exact Nat.le_zero.mp (mxF_le (fun j _ => by rw [chF_0, ih]; exact Nat.le_refl _))
theorem vF_le {W : Nat → Nat → Nat} {C n : Nat} (hC : C ≤ 4) (hW : ∀ j, j < 4 → W n j ≤ 999) : ∀ r i k c, k < 4 → c ≤ 1000000000 → vF W C n r i k c ≤ 999000000000 := by
  intro r
  induction r with
  | zero =>
    intro i k c hk hc
    have := Nat.mul_le_mul hc (hW k hk)
    show c * W n k ≤ _
    omega
  | succ r ih =>
    intro i k c hk hc
    rw [vF]
    exact mxF_le (fun j hj => ih (i + 1) j _ (by omega) (chF_le hc))
/-- all that one may have, money by money, behind a fair -/
def gsF (W : Nat → Nat → Nat) (C i : Nat) (g : Nat → Nat) (j : Nat) : Nat := mxF (fun k => chF W i k (g k) j) C
def giF (W : Nat → Nat → Nat) (C : Nat) : Nat → Nat → (Nat → Nat) → Nat → Nat
  | 0, _, g => g
  | r + 1, i, g => giF W C r (i + 1) (gsF W C i g)
theorem gsF_le {W : Nat → Nat → Nat} {C i : Nat} {g : Nat → Nat} (h : ∀ k, k < C → g k ≤ 1000000000) (j : Nat) : gsF W C i g j ≤ 1000000000 := mxF_le (fun k hk => chF_le (h k hk))
theorem giF_v {W : Nat → Nat → Nat} {C n : Nat} (hC : 0 < C) : ∀ r i g, mxF (fun j => giF W C r i g j * W n j) C = mxF (fun k => vF W C n r i k (g k)) C := by
  intro r
  induction r with
  | zero => intro i g; rfl
  | succ r ih =>
    intro i g
    rw [giF, ih]
    apply Nat.le_antisymm
    · refine mxF_le (fun j hj => ?_)
      obtain ⟨k, hk, ek⟩ := mxF_at (f := fun k => chF W i k (g k) j) hC
      have e : gsF W C i g j = chF W i k (g k) j := ek
      rw [e]
      have h1 := mxF_ge (f := fun j => vF W C n r (i + 1) j (chF W i k (g k) j)) hj
      have h2 := mxF_ge (f := fun k => vF W C n (r + 1) i k (g k)) hk
      exact Nat.le_trans h1 h2
    · refine mxF_le (fun k hk => ?_)
      rw [vF]
      refine mxF_le (fun j hj => ?_)
      refine Nat.le_trans (vF_mono r (i + 1) j _ (gsF W C i g j) (mxF_ge (f := fun k => chF W i k (g k) j) hk)) ?_
      exact mxF_ge (f := fun j => vF W C n r (i + 1) j (gsF W C i g j)) hj
def onF (k c : Nat) : Nat → Nat := fun j => if j = k then c else 0
theorem giF_on {W : Nat → Nat → Nat} {C n k c : Nat} (hk : k < C) (r i : Nat) : mxF (fun j => giF W C r i (onF k c) j * W n j) C = vF W C n r i k c := by
  rw [giF_v (by omega)]
  apply Nat.le_antisymm
  · refine mxF_le (fun j hj => ?_)
    unfold onF
    by_cases e : j = k
    · subst e; rw [if_pos rfl]; exact Nat.le_refl _
    · rw [if_neg e, vF_0]; exact Nat.zero_le _
  · have := mxF_ge (f := fun j => vF W C n r i j (onF k c j)) hk
    have e : onF k c k = c := if_pos rfl
    simp only [e] at this
    exact this
def fstF (P : Nat → Bool) : Nat → Nat → Nat
  | 0, j => j
  | f + 1, j => if P j = true then j else fstF P f (j + 1)
theorem fstF_ok {P : Nat → Bool} : ∀ f j, (∃ k, j ≤ k ∧ k < j + f ∧ P k = true) → P (fstF P f j) = true ∧ fstF P f j < j + f ∧ j ≤ fstF P f j ∧ ∀ l, j ≤ l → l < fstF P f j → P l = false := by
  intro f
  induction f with
  | zero => rintro j ⟨k, h1, h2, _⟩; omega
  | succ f ih =>
    rintro j ⟨k, h1, h2, h3⟩
    rw [fstF]
    cases q : P j
    · rw [if_neg (by decide)]
      have hk : k ≠ j := fun e => by rw [e, q] at h3; cases h3
      obtain ⟨a, b, b2, c⟩ := ih (j + 1) ⟨k, by omega, by omega, h3⟩
      refine ⟨a, by omega, by omega, fun l l1 l2 => ?_⟩
      by_cases e : l = j
      · subst e; exact q
      · exact c l (by omega) l2
    · rw [if_pos rfl]
      exact ⟨q, by omega, Nat.le_refl _, fun l l1 l2 => by omega⟩
def bsP (W : Nat → Nat → Nat) (C n r i k c j : Nat) : Bool := decide (vF W C n r (i + 1) j (chF W i k c j) = vF W C n (r + 1) i k c)
def nxF (W : Nat → Nat → Nat) (C n r i k c : Nat) : Nat := fstF (bsP W C n r i k c) C 0
theorem nxF_ok {W : Nat → Nat → Nat} {C n : Nat} (hC : 0 < C) (r i k c : Nat) : nxF W C n r i k c < C ∧ vF W C n r (i + 1) (nxF W C n r i k c) (chF W i k c (nxF W C n r i k c)) = vF W C n (r + 1) i k c ∧ ∀ l, l < nxF W C n r i k c → ¬ vF W C n r (i + 1) l (chF W i k c l) = vF W C n (r + 1) i k c := by
  obtain ⟨j, hj, ej⟩ := mxF_at (f := fun j => vF W C n r (i + 1) j (chF W i k c j)) hC
  obtain ⟨a, b, _, e⟩ := fstF_ok (P := bsP W C n r i k c) C 0 ⟨j, by omega, by omega, decide_eq_true ej.symm⟩
  refine ⟨by unfold nxF; omega, of_decide_eq_true a, fun l hl => of_decide_eq_false (e l (by omega) hl)⟩
def ptF (W : Nat → Nat → Nat) (C n : Nat) : Nat → Nat → Nat → Nat → Nat → Nat
  | 0, _, _, _ => fun _ => 0
  | r + 1, i, k, c => fun l => if l = i then nxF W C n r i k c else ptF W C n r (i + 1) (nxF W C n r i k c) (chF W i k c (nxF W C n r i k c)) l
/-! longs that are no less than 0 -/
def qL (k : Nat) : Int64 := Int64.ofInt (k : Int)
theorem qL_int {k : Nat} (h : k < 2 ^ 63) : (qL k).toInt = (k : Int) := by
  unfold qL
  rw [Int64.toInt_ofInt, show Int64.size = 18446744073709551616 from rfl]
  exact Int.bmod_eq_of_le (by omega) (by omega)
theorem qL_nI {k : Nat} (h : k < 2147483648) : (nI k).toInt64 = qL k := by
  apply Int64.toInt_inj.mp
  rw [Int32.toInt_toInt64, nI_toInt2 h, qL_int (by omega)]
theorem qL_32 {k : Nat} (h : k < 2147483648) : (qL k).toInt32 = nI k := by
  rw [← qL_nI h]; exact l32 _
theorem qL_mul {a b : Nat} (h : a * b < 2 ^ 63) (ha : a < 2 ^ 63) (hb : b < 2 ^ 63) : qL a * qL b = qL (a * b) := by
  apply Int64.toInt_inj.mp
  rw [Int64.toInt_mul, qL_int ha, qL_int hb, qL_int h, ← Int.natCast_mul]
  exact Int.bmod_eq_of_le (by omega) (by omega)
theorem qL_div {a b : Nat} (ha : a < 2 ^ 63) (hb : b < 2 ^ 63) (h0 : 0 < b) : qL a / qL b = qL (a / b) := by
  have hd : a / b ≤ a := Nat.div_le_self a b
  apply Int64.toInt_inj.mp
  rw [Int64.toInt_div, qL_int ha, qL_int hb, qL_int (by omega), ← Int.ofNat_eq_natCast, ← Int.ofNat_eq_natCast]
  have e : (Int.ofNat a).tdiv (Int.ofNat b) = Int.ofNat (a / b) := rfl
  rw [e]
  show Int.bmod ((a / b : Nat) : Int) _ = ((a / b : Nat) : Int)
  generalize a / b = q at hd ⊢
  exact Int.bmod_eq_of_le (by omega) (by omega)
theorem qL_lt {a b : Nat} (ha : a < 2 ^ 63) (hb : b < 2 ^ 63) : qL a < qL b ↔ a < b := by
  rw [Int64.lt_iff_toInt_lt, qL_int ha, qL_int hb]; omega
theorem qL_eq {a b : Nat} (ha : a < 2 ^ 63) (hb : b < 2 ^ 63) : qL a = qL b ↔ a = b := by
  rw [← Int64.toInt_inj, qL_int ha, qL_int hb]; omega
theorem qL_m1 {a : Nat} (ha : a < 2 ^ 63) : Int64.ofInt (-1) < qL a := by
  rw [Int64.lt_iff_toInt_lt, qL_int ha]
  have e : (Int64.ofInt (-1)).toInt = -1 := by decide +kernel
  rw [e]; omega
theorem mul4 : ∀ i, i < 10 → ∀ k, k < 4 → nI i * 4 + nI k = nI (4 * i + k) ∧ 4 * nI i + nI k = nI (4 * i + k) := by decide +kernel
