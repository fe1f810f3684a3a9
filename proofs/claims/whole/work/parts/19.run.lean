/-! runs of the flat machine, without a measure of steps -/
theorem bm_ex_sim {S : am_S} : ∀ {n d m pc : Nat} {L : am_Lo} {st : List Value} {σ σ1 : bm_S} {v : Option Value}, bm_ex S n d m pc L st σ = some (v, σ1) → am_ex (am_mem S) am_isO n d m pc L st (bm_mk σ) = some (v, bm_mk σ1) := by
  intro n
  induction n with
  | zero => intro d m pc L st σ σ1 v h; cases h
  | succ n ih =>
    intro d m pc L st σ σ1 v h
    rw [bm_ex] at h
    rw [am_ex]
    split at h
    · cases h
    · next r hr =>
      rw [bm_k_nat] at h
      obtain ⟨q, hq, h2⟩ := Option.bind_eq_some_iff.mp h
      rw [hr]
      simp only [bm_st_sim hq]
      obtain ⟨pc1, L1, st1, σ2⟩ | v2 | ⟨m1, As, rest⟩ := q
      · exact ih h2
      · simp only [bm_dis] at h2
        cases h2
        rfl
      · simp only [bm_dis] at h2
        simp only [bm_lift]
        cases d with
        | zero => cases h2
        | succ d1 =>
          simp only at h2 ⊢
          split at h2
          · next hl =>
            rw [if_pos hl]
            split at h2
            · cases h2
            · next v3 σ3 h3 =>
              rw [ih h3]
              exact ih h2
          · cases h2
theorem bm_ex_mono {S : am_S} : ∀ {n d m pc : Nat} {L : am_Lo} {st : List Value} {σ : bm_S} {q : Option Value × bm_S}, bm_ex S n d m pc L st σ = some q → bm_ex S (n + 1) d m pc L st σ = some q := by
  intro n
  induction n with
  | zero => intro d m pc L st σ q h; cases h
  | succ n ih =>
    intro d m pc L st σ q h
    rw [bm_ex] at h ⊢
    split at h
    · cases h
    · next r hr =>
      rw [bm_k_nat] at h ⊢
      obtain ⟨q1, hq, h2⟩ := Option.bind_eq_some_iff.mp h
      rw [hq]
      simp only [Option.bind_some]
      obtain ⟨pc1, L1, st1, σ2⟩ | v2 | ⟨m1, As, rest⟩ := q1
      · exact ih h2
      · exact h2
      · simp only [bm_dis] at h2 ⊢
        cases d with
        | zero => cases h2
        | succ d1 =>
          simp only at h2 ⊢
          split at h2
          · next hl =>
            rw [if_pos hl]
            split at h2
            · cases h2
            · next v3 σ3 h3 =>
              rw [ih h3]
              exact ih h2
          · cases h2
theorem bm_ex_le {S : am_S} {n k d m pc : Nat} {L : am_Lo} {st : List Value} {σ : bm_S} {q : Option Value × bm_S} (h : bm_ex S n d m pc L st σ = some q) (hk : n ≤ k) : bm_ex S k d m pc L st σ = some q := by
  induction hk with
  | refl => exact h
  | step _ ih => exact bm_ex_mono ih
noncomputable section BMR
def bm_run (S : am_S) (d m pc : Nat) (L : am_Lo) (st : List Value) (σ : bm_S) : bm_R :=
  Classical.epsilon (fun x : bm_R => (∃ n q, x = some q ∧ bm_ex S n d m pc L st σ = some q) ∨ (x = none ∧ ∀ n, bm_ex S n d m pc L st σ = none))
end BMR
theorem bm_run_spec (S : am_S) (d m pc : Nat) (L : am_Lo) (st : List Value) (σ : bm_S) : (∃ n q, bm_run S d m pc L st σ = some q ∧ bm_ex S n d m pc L st σ = some q) ∨ (bm_run S d m pc L st σ = none ∧ ∀ n, bm_ex S n d m pc L st σ = none) := by
  refine Classical.epsilon_spec (p := fun x : bm_R => (∃ n q, x = some q ∧ bm_ex S n d m pc L st σ = some q) ∨ (x = none ∧ ∀ n, bm_ex S n d m pc L st σ = none)) ?_
  by_cases h : ∃ n, ∃ q, bm_ex S n d m pc L st σ = some q
  · obtain ⟨n, q, h⟩ := h
    exact ⟨some q, Or.inl ⟨n, q, rfl, h⟩⟩
  · refine ⟨none, Or.inr ⟨rfl, fun n => ?_⟩⟩
    cases hq : bm_ex S n d m pc L st σ with
    | none => rfl
    | some q => exact absurd ⟨n, q, hq⟩ h
theorem bm_run_of {S : am_S} {n d m pc : Nat} {L : am_Lo} {st : List Value} {σ : bm_S} {q : Option Value × bm_S} (h : bm_ex S n d m pc L st σ = some q) : bm_run S d m pc L st σ = some q := by
  rcases bm_run_spec S d m pc L st σ with ⟨k, q1, h1, h2⟩ | ⟨h1, h2⟩
  · have e1 := bm_ex_le h (Nat.le_max_left n k)
    have e2 := bm_ex_le h2 (Nat.le_max_right n k)
    rw [e1] at e2
    rw [h1, e2]
  · rw [h2 n] at h; cases h
theorem bm_run_some {S : am_S} {d m pc : Nat} {L : am_Lo} {st : List Value} {σ : bm_S} {q : Option Value × bm_S} (h : bm_run S d m pc L st σ = some q) : ∃ n, bm_ex S n d m pc L st σ = some q := by
  rcases bm_run_spec S d m pc L st σ with ⟨k, q1, h1, h2⟩ | ⟨h1, h2⟩
  · rw [h] at h1; cases h1; exact ⟨k, h2⟩
  · rw [h] at h1; cases h1
theorem bm_run_iff {S : am_S} {d m pc : Nat} {L : am_Lo} {st : List Value} {σ : bm_S} {q : Option Value × bm_S} : bm_run S d m pc L st σ = some q ↔ ∃ n, bm_ex S n d m pc L st σ = some q := ⟨bm_run_some, fun ⟨_, h⟩ => bm_run_of h⟩
noncomputable section BMR2
def bm_call (S : am_S) (d m : Nat) (As : List Value) (σ : bm_S) : bm_R := if (am_sl As).length ≤ am_ml m then bm_run S d m 0 (am_in m As) [] σ else none
def bm_C (S : am_S) (d m pc : Nat) (L : am_Lo) (σ : bm_S) (m1 : Nat) (As rest : List Value) : bm_R := match d with
  | 0 => none
  | d1 + 1 => (bm_call S d1 m1 As σ).bind (fun q => bm_run S (d1 + 1) m (pc + 3) L (q.1.toList ++ rest) q.2)
/-- some rows, one behind the other -/
def bm_seg (S : am_S) (d m : Nat) (rt : Option FieldType) : List am_Row → Nat → am_Lo → List Value → bm_S → bm_R
  | [], pc, L, st, σ => bm_run S d m pc L st σ
  | r :: rs, pc, L, st, σ => if r.1 = pc then bm_k S rt r L st σ (fun pc1 L1 st1 σ1 => bm_seg S d m rt rs pc1 L1 st1 σ1) (fun v => some (v, σ)) (fun m1 As rest => bm_C S d m pc L σ m1 As rest) else bm_run S d m pc L st σ
end BMR2
theorem bm_run_eq {S : am_S} {d m pc : Nat} {L : am_Lo} {st : List Value} {σ : bm_S} {r : am_Row} (hr : am_fetch m pc = some r) : bm_run S d m pc L st σ = bm_k S (am_rt m) r L st σ (fun pc1 L1 st1 σ1 => bm_run S d m pc1 L1 st1 σ1) (fun v => some (v, σ)) (fun m1 As rest => bm_C S d m pc L σ m1 As rest) := by
  rw [bm_k_nat]
  cases hq : bm_st S (am_rt m) r L st σ with
  | none =>
    simp only [Option.bind_none]
    rcases bm_run_spec S d m pc L st σ with ⟨k, q1, h1, h2⟩ | ⟨h1, h2⟩
    · cases k with
      | zero => cases h2
      | succ k =>
        rw [bm_ex, hr] at h2
        simp only [bm_k_nat, hq, Option.bind_none] at h2
        cases h2
    · exact h1
  | some q =>
    simp only [Option.bind_some]
    apply Option.ext
    intro z
    rw [bm_run_iff]
    have step : ∀ n, bm_ex S (n + 1) d m pc L st σ = bm_dis (fun pc1 L1 st1 σ1 => bm_ex S n d m pc1 L1 st1 σ1) (fun v => some (v, σ)) (fun m1 As rest => match d with
      | 0 => none
      | d1 + 1 => if (am_sl As).length ≤ am_ml m1 then (match bm_ex S n d1 m1 0 (am_in m1 As) [] σ with
        | none => none
        | some (v, σ1) => bm_ex S n (d1 + 1) m (pc + 3) L (v.toList ++ rest) σ1) else none) q := by
      intro n
      rw [bm_ex, hr]
      simp only [bm_k_nat, hq, Option.bind_some]
      rfl
    have ex : (∃ n, bm_ex S n d m pc L st σ = some z) ↔ ∃ n, bm_ex S (n + 1) d m pc L st σ = some z := ⟨fun ⟨n, h⟩ => ⟨n, bm_ex_mono h⟩, fun ⟨n, h⟩ => ⟨n + 1, h⟩⟩
    rw [ex]
    simp only [step]
    obtain ⟨pc1, L1, st1, σ2⟩ | v2 | ⟨m1, As, rest⟩ := q
    · simp only [bm_dis]
      exact bm_run_iff.symm
    · simp only [bm_dis]
      exact ⟨fun ⟨_, h⟩ => h, fun h => ⟨0, h⟩⟩
    · simp only [bm_dis, bm_C]
      cases d with
      | zero => simp
      | succ d1 =>
        simp only [bm_call]
        by_cases hl : (am_sl As).length ≤ am_ml m1
        · simp only [if_pos hl]
          constructor
          · rintro ⟨n, h⟩
            split at h
            · cases h
            · next v3 σ3 h3 =>
              rw [bm_run_of h3]
              exact bm_run_of h
          · intro h
            obtain ⟨⟨v3, σ3⟩, h3, h4⟩ := Option.bind_eq_some_iff.mp h
            obtain ⟨n1, h5⟩ := bm_run_some h3
            obtain ⟨n2, h6⟩ := bm_run_some h4
            refine ⟨max n1 n2, ?_⟩
            rw [bm_ex_le h5 (Nat.le_max_left n1 n2)]
            exact bm_ex_le h6 (Nat.le_max_right n1 n2)
        · simp [if_neg hl]
theorem bm_seg_eq {S : am_S} {d m : Nat} {rt : Option FieldType} (rows : List am_Row) (hrt : am_rt m = rt) (h : rows.all (fun r => decide (am_fetch m r.1 = some r)) = true) : ∀ (pc : Nat) (L : am_Lo) (st : List Value) (σ : bm_S), bm_run S d m pc L st σ = bm_seg S d m rt rows pc L st σ := by
  induction rows with
  | nil => intro pc L st σ; rfl
  | cons r rs ih =>
    intro pc L st σ
    simp only [List.all_cons, Bool.and_eq_true, decide_eq_true_eq] at h
    rw [bm_seg]
    by_cases e : r.1 = pc
    · rw [if_pos e]
      subst e
      rw [bm_run_eq h.1, hrt]
      congr 1
      funext pc1 L1 st1 σ1
      exact ih h.2 pc1 L1 st1 σ1
    · rw [if_neg e]
theorem bm_run_ite {S : am_S} {d m : Nat} {p : Prop} [Decidable p] {a b : Nat} {L : am_Lo} {st : List Value} {σ : bm_S} : bm_run S d m (if p then a else b) L st σ = if p then bm_run S d m a L st σ else bm_run S d m b L st σ := by
  split <;> rfl
