/-! the cash of all: no deed and no fair makes it more -/
def sZ (B : Nat → Int32) : Nat → Int
  | 0 => 0
  | n + 1 => sZ B n + (B (26 + n)).toInt
def SC (M : Nat) (B : Nat → Int32) : Prop := sZ B M ≤ 5994
theorem sZ_cg {B C : Nat → Int32} : ∀ {n : Nat}, (∀ i, i < n → C (26 + i) = B (26 + i)) → sZ C n = sZ B n := by
  intro n
  induction n with
  | zero => intro _; rfl
  | succ n ih => intro h; rw [sZ, sZ, ih (fun i hi => h i (by omega)), h n (by omega)]
theorem SC.cg {M : Nat} {B C : Nat → Int32} (h : SC M B) (e : ∀ i, i < M → C (26 + i) = B (26 + i)) : SC M C := by
  unfold SC
  rw [sZ_cg e]
  exact h
theorem sZ_upd {B : Nat → Int32} {m : Nat} {v : Int32} : ∀ {n : Nat}, m < n → sZ (upd B (26 + m) v) n = sZ B n - (B (26 + m)).toInt + v.toInt := by
  intro n
  induction n with
  | zero => intro h; omega
  | succ n ih =>
    intro h
    rw [sZ, sZ]
    by_cases e : m = n
    · subst e
      have e1 : sZ (upd B (26 + m) v) m = sZ B m := sZ_cg (fun i hi => upd_n _ _ (by omega))
      rw [upd_s, e1]
      omega
    · rw [upd_n _ _ (show 26 + n ≠ 26 + m by omega), ih (by omega)]
      omega
theorem SC.dn {M : Nat} {B : Nat → Int32} (h : SC M B) {m : Nat} {v : Int32} (hm : m < M) (hv : v.toInt ≤ (B (26 + m)).toInt) : SC M (upd B (26 + m) v) := by
  unfold SC at h ⊢
  rw [sZ_upd hm]
  omega
theorem sZ_rng {M : Nat} {B : Nat → Int32} (gc : GC M B) : ∀ n, n ≤ M → 0 ≤ sZ B n ∧ ∀ m, m < n → 0 ≤ (B (26 + m)).toInt ∧ (B (26 + m)).toInt ≤ sZ B n := by
  intro n
  induction n with
  | zero => intro _; exact ⟨Int.le_refl _, fun m hm => absurd hm (by omega)⟩
  | succ n ih =>
    intro hn
    obtain ⟨h1, h2⟩ := ih (by omega)
    obtain ⟨k, hk, ek⟩ := gc n (by omega)
    have e : (B (26 + n)).toInt = (k : Int) := by rw [ek]; exact nI_toInt2 (by omega)
    have es : sZ B (n + 1) = sZ B n + (B (26 + n)).toInt := rfl
    refine ⟨by omega, fun m hm => ?_⟩
    by_cases q : m = n
    · subst q; omega
    · obtain ⟨a, b⟩ := h2 m (by omega)
      omega
def nZ (g : Nat → Int32) : Nat → Int
  | 0 => 0
  | n + 1 => nZ g n + (g n).toInt
theorem nZ_cg {f g : Nat → Int32} : ∀ {n : Nat}, (∀ i, i < n → f i = g i) → nZ f n = nZ g n := by
  intro n
  induction n with
  | zero => intro _; rfl
  | succ n ih => intro h; rw [nZ, nZ, ih (fun i hi => h i (by omega)), h n (by omega)]
theorem nZ_upd {g : Nat → Int32} {m : Nat} {v : Int32} : ∀ {n : Nat}, m < n → nZ (upd g m v) n = nZ g n - (g m).toInt + v.toInt := by
  intro n
  induction n with
  | zero => intro h; omega
  | succ n ih =>
    intro h
    rw [nZ, nZ]
    by_cases e : m = n
    · subst e
      have e1 : nZ (upd g m v) m = nZ g m := nZ_cg (fun i hi => upd_n _ _ (by omega))
      rw [upd_s, e1]
      omega
    · rw [upd_n _ _ (show n ≠ m by omega), ih (by omega)]
      omega
theorem net_sum {M L : Nat} {B : Nat → Int32} {D : Nat → Bool} (g : GO M L B) (gm : GM L B) (hM : M ≤ 6) (hL : L ≤ 12) : ∀ n, n ≤ L → nZ (netF D B n) M = 0 := by
  intro n
  induction n with
  | zero =>
    intro _
    have : ∀ k, nZ (netF D B 0) k = 0 := by
      intro k
      induction k with
      | zero => rfl
      | succ k ih =>
        rw [nZ, ih]
        have e : (netF D B 0 k).toInt = 0 := by show (0 : Int32).toInt = 0; decide +kernel
        rw [e]; rfl
    exact this M
  | succ n ih =>
    intro hn
    have h0 := ih (by omega)
    rw [netF]
    by_cases q : D n = true
    · obtain ⟨a, b, ha, hb, hab, ea, eb⟩ := g n (by omega)
      obtain ⟨v, hv, ev⟩ := gm n (by omega)
      obtain ⟨r1, r2⟩ := net_rng (D := D) g gm hM hL a n (by omega)
      obtain ⟨r3, r4⟩ := net_rng (D := D) g gm hM hL b n (by omega)
      have hvi := nI_toInt2 (show v < 2147483648 by omega)
      have t1 : (netF D B n a - nI v).toInt = (netF D B n a).toInt - v := by rw [Int32.toInt_sub, hvi, Int.bmod_eq_of_le (by omega) (by omega)]
      have t2 : (netF D B n b + nI v).toInt = (netF D B n b).toInt + v := by rw [Int32.toInt_add, hvi, Int.bmod_eq_of_le (by omega) (by omega)]
      rw [if_pos q, ea, eb, cN_nI (by omega), cN_nI (by omega), ev, nZ_upd hb, nZ_upd ha, upd_n _ _ (fun z => hab z.symm), h0, t1, t2]
      omega
    · rw [if_neg q]; exact h0
theorem mn_toInt (x : Int32) : (mn x).toInt ≤ x.toInt := by
  unfold mn
  by_cases q : x ≤ 999999
  · rw [if_pos q]; exact Int.le_refl _
  · rw [if_neg q]
    rw [Int32.le_iff_toInt_le] at q
    exact Int.le_of_lt (Int.not_le.mp q)
theorem sZ_add {M : Nat} {B C g : Nat → Int32} (gc : GC M B) (hg : ∀ m, m < M → -11988 ≤ (g m).toInt ∧ (g m).toInt ≤ 11988) (hC : ∀ m, m < M → C (26 + m) = mn (B (26 + m) + g m)) : ∀ n, n ≤ M → sZ C n ≤ sZ B n + nZ g n := by
  intro n
  induction n with
  | zero => intro _; exact Int.le_refl _
  | succ n ih =>
    intro hn
    have h0 := ih (by omega)
    obtain ⟨k, hk, ek⟩ := gc n (by omega)
    obtain ⟨a, b⟩ := hg n (by omega)
    have e := mn_toInt (B (26 + n) + g n)
    have e1 : (B (26 + n)).toInt = (k : Int) := by rw [ek]; exact nI_toInt2 (by omega)
    rw [Int32.toInt_add, Int.bmod_eq_of_le (by omega) (by omega)] at e
    rw [sZ, sZ, nZ, hC n (by omega)]
    omega
theorem sZ_faB {M L : Nat} (hM : M ≤ 6) (hL : L ≤ 12) {B : Nat → Int32} (D : Nat → Bool) (h : GA M L B) : sZ (faB M L B D) M ≤ sZ B M := by
  obtain ⟨⟨hl, go, gm, gc⟩, nb, bm⟩ := h
  have es : eqS B (tuF M L 13 (B, D)).1 := eqS_tuF (M := M) hL 13 (B, D)
  have go2 := go.cg hL es
  have gm2 := gm.cg hL es
  have gc2 := gc.cg hM es
  have ec : ∀ m, m < M → faB M L B D (26 + m) = mn ((tuF M L 13 (B, D)).1 (26 + m) + netF (tuF M L 13 (B, D)).2 (tuF M L 13 (B, D)).1 L m) := fun m hm => by
    unfold faB
    rw [upd_n _ _ (by omega), enB_cash hM hL hm]
  have e0 : sZ (tuF M L 13 (B, D)).1 M = sZ B M := sZ_cg (fun i hi => es _ (by omega) (by omega))
  generalize tuF M L 13 (B, D) = T at *
  have nz := net_sum (D := T.2) go2 gm2 hM hL L (Nat.le_refl L)
  have h1 := sZ_add gc2 (fun m hm => by have := net_rng (D := T.2) go2 gm2 hM hL m L (Nat.le_refl L); omega) ec M (Nat.le_refl M)
  omega
theorem sZ_hoB {M L : Nat} (hM : M ≤ 6) (hL : L ≤ 12) {B : Nat → Int32} (h : GA M L B) (mu : Bool) : sZ (hoB M L B mu) M ≤ sZ B M := by
  unfold hoB
  split
  · have h1 := sZ_faB hM hL (dB (muB L B) (muB L B 22)) (muB_GA hM hL h)
    have e : sZ (muB L B) M = sZ B M := sZ_cg (fun i hi => muB_out (by omega) (by omega))
    omega
  · exact sZ_faB hM hL _ h
theorem SC.ho {M L : Nat} (hM : M ≤ 6) (hL : L ≤ 12) {B : Nat → Int32} (s : SC M B) (h : GA M L B) (mu : Bool) : SC M (hoB M L B mu) := by
  have h1 := sZ_hoB hM hL h mu
  unfold SC at s ⊢
  omega
theorem sZ_goB {M L : Nat} (hM : M ≤ 6) (hL : L ≤ 12) {B : Nat → Int32} (h : GA M L B) : ∀ n, sZ (goB M L B n) M ≤ sZ B M := by
  intro n
  induction n with
  | zero => exact Int.le_refl _
  | succ n ih =>
    have h1 := sZ_hoB hM hL (goB_GA hM hL h n) false
    exact Int.le_trans h1 ih
