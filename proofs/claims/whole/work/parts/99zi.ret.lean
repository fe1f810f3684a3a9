/-! what a method answers, by its kind -/
set_option maxHeartbeats 8000000 in
theorem bm_st_int {S : am_S} {r : am_Row} {L : am_Lo} {st : List Value} {σ : bm_S} {v : Option Value} (h : bm_st S (some .int) r L st σ = some (.inr (.inl v))) : ∃ x, v = some (.int x) := by
  obtain ⟨pc, len, i, a, b, cv⟩ := r
  unfold bm_st bm_k at h
  cases i <;> simp only [] at h <;> (repeat' split at h) <;> first | (cases h; done) | (cases h; exact ⟨_, rfl⟩) | simp_all
set_option maxHeartbeats 8000000 in
theorem bm_st_long {S : am_S} {r : am_Row} {L : am_Lo} {st : List Value} {σ : bm_S} {v : Option Value} (hi : r.2.2.1 ≠ .ireturn) (h : bm_st S (some .long) r L st σ = some (.inr (.inl v))) : ∃ x, v = some (.long x) := by
  obtain ⟨pc, len, i, a, b, cv⟩ := r
  unfold bm_st bm_k at h
  cases i
  case ireturn => exact absurd rfl hi
  all_goals simp only [] at h <;> (repeat' split at h) <;> first | (cases h; done) | (cases h; exact ⟨_, rfl⟩) | simp_all [narrow]
theorem bm_ex_kind {S : am_S} {P : Option Value → Prop} {m : Nat} (hP : ∀ (r : am_Row) (L : am_Lo) (st : List Value) (σ : bm_S) (v : Option Value), r ∈ am_tb m → bm_st S (am_rt m) r L st σ = some (.inr (.inl v)) → P v) : ∀ {n d pc : Nat} {L : am_Lo} {st : List Value} {σ σ1 : bm_S} {v : Option Value}, bm_ex S n d m pc L st σ = some (v, σ1) → P v := by
  intro n
  induction n with
  | zero => intro d pc L st σ σ1 v h; cases h
  | succ n ih =>
    intro d pc L st σ σ1 v h
    rw [bm_ex] at h
    split at h
    · cases h
    · next r hr =>
      rw [bm_k_nat] at h
      obtain ⟨q, hq, h2⟩ := Option.bind_eq_some_iff.mp h
      obtain ⟨pc1, L1, st1, σ2⟩ | v2 | ⟨m1, As, rest⟩ := q
      · exact ih h2
      · simp only [bm_dis] at h2
        cases h2
        exact hP _ _ _ _ _ (am_fetch_in hr).1 hq
      · simp only [bm_dis] at h2
        cases d with
        | zero => cases h2
        | succ d1 =>
          simp only at h2
          split at h2
          · split at h2
            · cases h2
            · exact ih h2
          · cases h2
theorem bm_ret_int {S : am_S} {d m : Nat} {As : List Value} {σ σ1 : bm_S} {v : Value} (hm : am_rt m = some .int) (h : bm_call S d m As σ = some (some v, σ1)) : ∃ x, v = .int x := by
  unfold bm_call at h
  split at h
  · obtain ⟨n, hn⟩ := bm_run_some h
    obtain ⟨x, hx⟩ := bm_ex_kind (P := fun v => ∃ x, v = some (.int x)) (fun _ _ _ _ _ _ z => bm_st_int (by rw [hm] at z; exact z)) hn
    exact ⟨x, Option.some.inj hx⟩
  · cases h
theorem bm_ret_long {S : am_S} {d m : Nat} {As : List Value} {σ σ1 : bm_S} {v : Value} (hm : am_rt m = some .long ∧ (am_tb m).all (fun r => decide (r.2.2.1 ≠ .ireturn)) = true) (h : bm_call S d m As σ = some (some v, σ1)) : ∃ x, v = .long x := by
  unfold bm_call at h
  split at h
  · obtain ⟨n, hn⟩ := bm_run_some h
    obtain ⟨x, hx⟩ := bm_ex_kind (P := fun v => ∃ x, v = some (.long x)) (fun r _ _ _ _ hr z => bm_st_long (by have := List.all_eq_true.mp hm.2 r hr; simpa using this) (by rw [hm.1] at z; exact z)) hn
    exact ⟨x, Option.some.inj hx⟩
  · cases h
