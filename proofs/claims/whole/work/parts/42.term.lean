/-! a fair comes to its end -/
def cnD (D : Nat → Bool) : Nat → Nat
  | 0 => 0
  | n + 1 => cnD D n + (if D n = true then 1 else 0)
theorem cnD_le {D E : Nat → Bool} : ∀ {n : Nat}, (∀ l, l < n → E l = true → D l = true) → cnD E n ≤ cnD D n := by
  intro n
  induction n with
  | zero => intro _; exact Nat.le_refl _
  | succ n ih =>
    intro h
    have h1 := ih (fun l hl => h l (by omega))
    rw [cnD, cnD]
    by_cases q : E n = true
    · rw [if_pos q, if_pos (h n (by omega) q)]; omega
    · rw [if_neg q]; omega
theorem cnD_lt {D E : Nat → Bool} {l : Nat} : ∀ {n : Nat}, (∀ k, k < n → E k = true → D k = true) → l < n → D l = true → E l = false → cnD E n < cnD D n := by
  intro n
  induction n with
  | zero => intro _ h; omega
  | succ n ih =>
    intro h hl hd he
    rw [cnD, cnD]
    by_cases q : l = n
    · subst q
      have := cnD_le (D := D) (E := E) (n := l) (fun k hk => h k (by omega))
      rw [hd, he]; simp; omega
    · have h1 := ih (fun k hk => h k (by omega)) (by omega) hd he
      by_cases q1 : E n = true
      · rw [if_pos q1, if_pos (h n (by omega) q1)]; omega
      · rw [if_neg q1]; omega
theorem cnD_n (D : Nat → Bool) : ∀ n, cnD D n ≤ n := by
  intro n
  induction n with
  | zero => exact Nat.le_refl _
  | succ n ih => rw [cnD]; split <;> omega
theorem neg_nI {x : Nat} (h : x < 2147483648) : ¬ 0 < -(nI x) := by
  rw [Int32.lt_iff_toInt_lt, Int32.toInt_neg, nI_toInt2 h]
  have e : (0 : Int32).toInt = 0 := by decide +kernel
  rw [e, Int.bmod_eq_of_le (by omega) (by omega)]
  omega
theorem net_pos {M L : Nat} {B : Nat → Int32} {D : Nat → Bool} (g : GO M L B) (gm : GM L B) (hM : M ≤ 6) {m : Nat} (hm : m < M) : ∀ n, n ≤ L → (∀ l, l < n → D l = true → ¬ B (32 + l) = nI m) → ∃ k, k ≤ 999 * n ∧ netF D B n m = nI k := by
  intro n
  induction n with
  | zero => intro _ _; exact ⟨0, by omega, rfl⟩
  | succ n ih =>
    intro hn h
    obtain ⟨k, hk, ek⟩ := ih (by omega) (fun l hl => h l (by omega))
    rw [netF]
    by_cases q : D n = true
    · obtain ⟨a, b, ha, hb, hab, ea, eb⟩ := g n (by omega)
      obtain ⟨v, hv, ev⟩ := gm n (by omega)
      have hne : m ≠ a := by intro z; exact h n (by omega) q (by rw [ea, z])
      rw [if_pos q, ea, eb, cN_nI (by omega), cN_nI (by omega), ev]
      by_cases q1 : m = b
      · subst q1
        rw [upd_s, upd_n _ _ hne, ek, nI_add]
        exact ⟨k + v, by omega, rfl⟩
      · rw [upd_n _ _ q1, upd_n _ _ hne]
        exact ⟨k, by omega, ek⟩
    · rw [if_neg q]
      exact ⟨k, by omega, ek⟩
theorem short_owes {M L : Nat} {B : Nat → Int32} {D : Nat → Bool} (g : GO M L B) (gm : GM L B) (gc : GC M B) (hM : M ≤ 6) (hL : L ≤ 12) {m : Nat} (hm : m < M) (h : 0 < shF B (netF D B L) m) : ∃ l, l < L ∧ D l = true ∧ B (32 + l) = nI m := by
  by_cases q : ∃ l, l < L ∧ D l = true ∧ B (32 + l) = nI m
  · exact q
  · exfalso
    obtain ⟨k, hk, ek⟩ := net_pos (D := D) g gm hM hm L (Nat.le_refl L) (fun l hl h1 h2 => q ⟨l, hl, h1, h2⟩)
    obtain ⟨c, hc, ec⟩ := gc m hm
    unfold shF at h
    split at h
    · exact absurd h (by decide)
    · rw [ek, ec, nI_add] at h
      exact neg_nI (by omega) h
theorem seF_mono {L : Nat} (B g : Nat → Int32) (s : fS) (l m : Nat) : ∀ k, (seF L B g s (m + k)).2 l = true → (seF L B g s m).2 l = true := by
  intro k
  induction k with
  | zero => exact id
  | succ k ih => intro h; exact ih (seS_le B g _ (m + k) l h)
theorem seF_same {L : Nat} (B g : Nat → Int32) (s : fS) : ∀ m, (∀ k, k < m → ¬ 0 < shF B g k) → seF L B g s m = s := by
  intro m
  induction m with
  | zero => intro _; rfl
  | succ m ih => intro h; rw [seF, ih (fun k hk => h k (by omega)), seS, if_neg (h m (by omega))]
theorem anS_ex {B g : Nat → Int32} : ∀ {M : Nat}, anS B g M = true → ∃ m, m < M ∧ 0 < shF B g m ∧ ∀ k, k < m → ¬ 0 < shF B g k := by
  intro M
  induction M with
  | zero => intro h; cases h
  | succ M ih =>
    intro h
    by_cases q : anS B g M = true
    · obtain ⟨m, h1, h2, h3⟩ := ih q
      exact ⟨m, by omega, h2, h3⟩
    · have q1 : ∀ M, ¬ anS B g M = true → ∀ k, k < M → ¬ 0 < shF B g k := by
        intro M
        induction M with
        | zero => intro _ k hk; omega
        | succ M ih2 =>
          intro h4 k hk
          simp only [anS, Bool.or_eq_true, decide_eq_true_eq, not_or] at h4
          by_cases e : k = M
          · subst e; exact h4.2
          · exact ih2 h4.1 k (by omega)
      simp only [anS, Bool.or_eq_true, decide_eq_true_eq] at h
      rcases h with h | h
      · exact absurd h q
      · exact ⟨M, by omega, h, q1 M q⟩
theorem anS_no {B g : Nat → Int32} : ∀ {M : Nat}, anS B g M = false → ∀ k, k < M → ¬ 0 < shF B g k := by
  intro M
  induction M with
  | zero => intro _ k hk; omega
  | succ M ih =>
    intro h k hk
    simp only [anS, Bool.or_eq_false_iff, decide_eq_false_iff_not] at h
    by_cases e : k = M
    · subst e; exact h.2
    · exact ih h.1 k (by omega)
theorem tuS_lt {M L : Nat} {s : fS} (hM : M ≤ 6) (hL : L ≤ 12) (hd : duO L s) (g : GO M L s.1) (gm : GM L s.1) (gc : GC M s.1) (h : anF M L s = true) : cnD (tuS M L s).2 L < cnD s.2 L := by
  obtain ⟨m, hm, h1, h2⟩ := anS_ex h
  obtain ⟨l, hl, hD, ho⟩ := short_owes g gm gc hM hL hm h1
  refine cnD_lt (l := l) (fun k _ hk => seF_le _ _ s k M hk) hl hD ?_
  cases e : (tuS M L s).2 l with
  | false => rfl
  | true =>
    exfalso
    unfold tuS at e
    rw [show M = (m + 1) + (M - (m + 1)) by omega] at e
    have e1 := seF_mono _ _ _ l (m + 1) _ e
    rw [seF, seF_same _ _ s m h2] at e1
    unfold seS at e1
    rw [if_pos h1] at e1
    split at e1
    · simp [ptD, ho] at e1
    · have how := hd l hl hD
      simp [brD, tou, ho, how] at e1
/-- the bounds that a settling keeps -/
theorem GO.cg {M L : Nat} {B C : Nat → Int32} (hL : L ≤ 12) (g : GO M L B) (h : eqS B C) : GO M L C := by
  intro l hl
  obtain ⟨a, b, ha, hb, hab, ea, eb⟩ := g l hl
  exact ⟨a, b, ha, hb, hab, by rw [h _ (by omega) (by omega)]; exact ea, by rw [h _ (by omega) (by omega)]; exact eb⟩
theorem GM.cg {L : Nat} {B C : Nat → Int32} (hL : L ≤ 12) (g : GM L B) (h : eqS B C) : GM L C := by
  intro l hl
  obtain ⟨k, hk, ek⟩ := g l hl
  exact ⟨k, hk, by rw [h _ (by omega) (by omega)]; exact ek⟩
theorem GC.cg {M : Nat} {B C : Nat → Int32} (hM : M ≤ 6) (g : GC M B) (h : eqS B C) : GC M C := by
  intro l hl
  obtain ⟨k, hk, ek⟩ := g l hl
  exact ⟨k, hk, by rw [h _ (by omega) (by omega)]; exact ek⟩
/-- more turns than letters change nothing -/
theorem tuF_more {M L : Nat} (hM : M ≤ 6) (hL : L ≤ 12) : ∀ (n : Nat) (s : fS), duO L s → GO M L s.1 → GM L s.1 → GC M s.1 → cnD s.2 L < n → anF M L (tuF M L n s) = false ∧ ∀ k, n ≤ k → tuF M L k s = tuF M L n s := by
  intro n
  induction n with
  | zero => intro s _ _ _ _ h; omega
  | succ n ih =>
    intro s hd g gm gc h
    cases q : anF M L s with
    | false =>
      have e : ∀ k, tuF M L k s = s := by intro k; cases k with | zero => rfl | succ k => rw [tuF, q]; rfl
      rw [e]
      exact ⟨q, fun k _ => e k⟩
    | true =>
      have hs := eqS_seF hL s.1 (netF s.2 s.1 L) s M
      obtain ⟨h1, h2⟩ := ih (tuS M L s) (duO_seF hL _ _ hd M) (g.cg hL hs) (gm.cg hL hs) (gc.cg hM hs) (by have := tuS_lt hM hL hd g gm gc q; omega)
      rw [tuF, if_pos q]
      refine ⟨h1, ?_⟩
      intro k hk
      obtain ⟨j, rfl⟩ : ∃ j, k = j + 1 := ⟨k - 1, by omega⟩
      rw [tuF, if_pos q]
      exact h2 j (by omega)
