/-! THE TWO CONSTRUCTORS: a memory of the first order, that the kernel can compute -/
abbrev fm_C : Type := (Nat × Nat × List (Nat × Int32) × List (Nat × Nat)) ⊕ (Nat × List Value)
abbrev fm_M : Type := List fm_C
def fm_fi (ws : List (Nat × Int32)) : Nat → Int32 := ws.foldl (fun f q => upd f q.1 q.2) (fun _ => 0)
def fm_fr (rs : List (Nat × Nat)) : Nat → Option Nat := rs.foldl (fun f q => va_up f q.1 (some q.2)) (fun _ => none)
def fm_de : fm_C → am_C
  | .inl (t, n, ws, rs) => if t = 2 then .inl (t, (n, .inr (.inl (fun _ => 0)))) else if t < 4 then .inl (t, (n, .inl (fm_fi ws))) else .inl (t, (n, .inr (.inr (.inr (.inr (fm_fr rs))))))
  | .inr (ci, fs) => .inr (ci, fs)
def fm_isO (M : fm_M) (k ci : Nat) : Bool := match M[k]? with
  | some (.inr (cj, _)) => cj == ci
  | _ => false
def fm_mem : am_Mem fm_M := fun r L st M =>
  match r with
  | (pc, _, i, a, b, _) =>
    match i with
    | .getfield _ => match st with
      | .ref k :: rest => if a = 100 then none else (match M[k]? with
        | some (.inr (ci, fs)) => if ci = a then (match fs[b]? with
          | some v => some (pc + 3, L, v :: rest, M)
          | none => none) else none
        | _ => none)
      | _ => none
    | .putfield _ => match st with
      | v :: .ref k :: rest => if a = 100 then none else (match M[k]? with
        | some (.inr (ci, fs)) => if ci = a ∧ b < fs.length ∧ narrow ((am_cn a).2.2.2 b) v = v ∧ fits ((am_cn a).2.2.2 b) v = true then some (pc + 3, L, rest, M.set k (.inr (ci, fs.set b v))) else none
        | _ => none)
      | _ => none
    | .arraylength => match st with
      | .ref k :: rest => match M[k]? with
        | some (.inl (t, n, _, _)) => if t < 7 then some (pc + 1, L, .int (Int32.ofNat n) :: rest, M) else none
        | _ => none
      | _ => none
    | .iastore => match st with
      | .int x :: .int j :: .ref k :: rest => match M[k]? with
        | some (.inl (t, n, ws, rs)) => if t = 0 ∧ ¬ (j < 0 ∨ n ≤ j.toNatClampNeg) then some (pc + 1, L, rest, M.set k (.inl (t, n, ws ++ [(j.toNatClampNeg, x)], rs))) else none
        | _ => none
      | _ => none
    | .aastore => match st with
      | .ref v :: .int j :: .ref k :: rest => match M[k]? with
        | some (.inl (t, n, ws, rs)) => if (t = 4 ∨ t = 5 ∨ t = 6) ∧ ¬ (j < 0 ∨ n ≤ j.toNatClampNeg) ∧ fm_isO M v (am_oty t) = true then some (pc + 1, L, rest, M.set k (.inl (t, n, ws, rs ++ [(j.toNatClampNeg, v)]))) else none
        | _ => none
      | _ => none
    | .newarray _ => match st with
      | .int n :: rest => if a < 4 ∧ ¬ n < 0 ∧ n.toNatClampNeg * 8 ≤ 536870912 then some (pc + 2, L, .ref M.length :: rest, M ++ [.inl (a, n.toNatClampNeg, [], [])]) else none
      | _ => none
    | .anewarray _ => match st with
      | .int n :: rest => if (a = 4 ∨ a = 5 ∨ a = 6) ∧ ¬ n < 0 ∧ n.toNatClampNeg * 4 ≤ 536870912 then some (pc + 3, L, .ref M.length :: rest, M ++ [.inl (a, n.toNatClampNeg, [], [])]) else none
      | _ => none
    | .new _ => if a < 13 then some (pc + 3, L, .ref M.length :: st, M ++ [.inr (a, am_df a)]) else none
    | _ => none
theorem fm_get (M : fm_M) (k : Nat) : (M.map fm_de)[k]? = (M[k]?).map fm_de := List.getElem?_map
theorem fm_inl (t n : Nat) (ws : List (Nat × Int32)) (rs : List (Nat × Nat)) : ∃ y, fm_de (.inl (t, n, ws, rs)) = .inl (t, (n, y)) := by
  simp only [fm_de]
  by_cases a : t = 2
  · rw [if_pos a]; exact ⟨_, rfl⟩
  · rw [if_neg a]
    by_cases b : t < 4
    · rw [if_pos b]; exact ⟨_, rfl⟩
    · rw [if_neg b]; exact ⟨_, rfl⟩
theorem fm_iso (M : fm_M) (k ci : Nat) : am_isO (M.map fm_de) k ci = fm_isO M k ci := by
  unfold am_isO fm_isO
  rw [fm_get]
  cases M[k]? with
  | none => rfl
  | some c =>
    rcases c with ⟨t, n, ws, rs⟩ | ⟨cj, fs⟩
    · obtain ⟨y, hy⟩ := fm_inl t n ws rs
      simp only [Option.map_some, hy]
    · rfl
theorem fm_fi_app (ws : List (Nat × Int32)) (j : Nat) (x : Int32) : fm_fi (ws ++ [(j, x)]) = upd (fm_fi ws) j x := by simp [fm_fi]
theorem fm_fr_app (rs : List (Nat × Nat)) (j v : Nat) : fm_fr (rs ++ [(j, v)]) = va_up (fm_fr rs) j (some v) := by simp [fm_fr]
set_option maxHeartbeats 4000000 in
theorem fm_mem_sim {S : am_S} {r : am_Row} {L L1 : am_Lo} {st st1 : List Value} {M M1 : fm_M} {pc1 : Nat} (h : fm_mem r L st M = some (pc1, L1, st1, M1)) : am_mem S r L st (M.map fm_de) = some (pc1, L1, st1, M1.map fm_de) := by
  obtain ⟨pc, len, i, a, b, cv⟩ := r
  cases i
  case getfield q =>
    simp only [fm_mem] at h
    split at h
    · next k rest =>
      split at h
      · cases h
      · next ha =>
        split at h
        · next ci fs hm =>
          split at h
          · next hci =>
            split at h
            · next v hv =>
              cases h
              simp only [am_mem, if_neg ha, fm_get, hm, Option.map_some, fm_de]
              rw [if_pos hci, hv]
            · cases h
          · cases h
        · cases h
    · cases h
  case putfield q =>
    simp only [fm_mem] at h
    split at h
    · next v k rest =>
      split at h
      · cases h
      · next ha =>
        split at h
        · next ci fs hm =>
          split at h
          · next hci =>
            cases h
            simp only [am_mem, if_neg ha, fm_get, hm, Option.map_some, fm_de]
            rw [if_pos hci, List.map_set]
            rfl
          · cases h
        · cases h
    · cases h
  case arraylength =>
    simp only [fm_mem] at h
    split at h
    · next k rest =>
      split at h
      · next t n ws rs hm =>
        split at h
        · next ht =>
          cases h
          obtain ⟨y, hy⟩ := fm_inl t n ws rs
          simp only [am_mem, fm_get, hm, Option.map_some, hy]
          rw [if_pos ht]
        · cases h
      · cases h
    · cases h
  case iastore =>
    simp only [fm_mem] at h
    split at h
    · next x j k rest =>
      split at h
      · next t n ws rs hm =>
        split at h
        · next ht =>
          cases h
          obtain ⟨ht, hin⟩ := ht
          subst ht
          have e : ∀ ws, fm_de (.inl (0, n, ws, rs)) = .inl (0, (n, .inl (fm_fi ws))) := fun _ => rfl
          simp only [am_mem, fm_get, hm, Option.map_some, e]
          rw [if_pos ⟨trivial, hin⟩, List.map_set, e, fm_fi_app]
        · cases h
      · cases h
    · cases h
  case aastore =>
    simp only [fm_mem] at h
    split at h
    · next v j k rest =>
      split at h
      · next t n ws rs hm =>
        split at h
        · next ht =>
          cases h
          have h4 : ¬ t = 2 ∧ ¬ t < 4 := by rcases ht.1 with z | z | z <;> omega
          have e : ∀ rs, fm_de (.inl (t, n, ws, rs)) = .inl (t, (n, .inr (.inr (.inr (.inr (fm_fr rs)))))) := fun rs => by
            simp only [fm_de]
            rw [if_neg h4.1, if_neg h4.2]
          simp only [am_mem, fm_get, hm, Option.map_some, e, fm_iso]
          rw [if_pos ht, List.map_set, e, fm_fr_app]
        · cases h
      · cases h
    · cases h
  case newarray q =>
    simp only [fm_mem] at h
    split at h
    · next n rest =>
      split at h
      · next ht =>
        cases h
        have e : fm_de (.inl (a, n.toNatClampNeg, [], [])) = am_zero a n.toNatClampNeg := by
          simp only [fm_de, am_zero]
          by_cases z : a = 2
          · rw [if_pos z, if_pos z]
          · rw [if_neg z, if_neg z, if_pos ht.1]; rfl
        simp only [am_mem]
        rw [if_pos ht, List.length_map, List.map_append, List.map_cons, List.map_nil, e]
      · cases h
    · cases h
  case anewarray q =>
    simp only [fm_mem] at h
    split at h
    · next n rest =>
      split at h
      · next ht =>
        cases h
        have e : fm_de (.inl (a, n.toNatClampNeg, [], [])) = .inl (a, (n.toNatClampNeg, .inr (.inr (.inr (.inr (fun _ => none)))))) := by
          have h4 : ¬ a = 2 ∧ ¬ a < 4 := by rcases ht.1 with z | z | z <;> omega
          simp only [fm_de]
          rw [if_neg h4.1, if_neg h4.2]; rfl
        simp only [am_mem]
        rw [if_pos ht, List.length_map, List.map_append, List.map_cons, List.map_nil, e]
      · cases h
    · cases h
  case new q =>
    simp only [fm_mem] at h
    split at h
    · next ht =>
      cases h
      simp only [am_mem]
      rw [if_pos ht, List.length_map, List.map_append, List.map_cons, List.map_nil]
      rfl
    · cases h
  all_goals (cases h)
theorem am_call_iso {A B : Type} {isA : A → Nat → Nat → Bool} {isB : B → Nat → Nat → Bool} {a : A} {b : B} (h : ∀ k ci, isB b k ci = isA a k ci) (r : am_Row) (st : List Value) : am_call isB r st b = am_call isA r st a := by
  obtain ⟨pc, len, i, x, y, c⟩ := r
  cases i <;> simp only [am_call, h]
def fm_lift : (Nat × am_Lo × List Value × fm_M) ⊕ (Option Value ⊕ (Nat × List Value × List Value)) → (Nat × am_Lo × List Value × am_M) ⊕ (Option Value ⊕ (Nat × List Value × List Value))
  | .inl (a, b, c, M) => .inl (a, b, c, M.map fm_de)
  | .inr x => .inr x
theorem fm_step_sim {S : am_S} {rt : Option FieldType} {r : am_Row} {L : am_Lo} {st : List Value} {M : fm_M} {q : (Nat × am_Lo × List Value × fm_M) ⊕ (Option Value ⊕ (Nat × List Value × List Value))} (h : am_step fm_mem fm_isO rt r L st M = some q) : am_step (am_mem S) am_isO rt r L st (M.map fm_de) = some (fm_lift q) := by
  unfold am_step at h ⊢
  rw [am_call_iso (isA := fm_isO) (a := M) (fun k ci => fm_iso M k ci)]
  cases he : am_end rt r.2.2.1 st with
  | some v =>
    rw [he] at h
    simp only at h ⊢
    cases h
    rfl
  | none =>
    rw [he] at h
    simp only at h ⊢
    cases hc : am_call fm_isO r st M with
    | some v =>
      rw [hc] at h
      simp only at h ⊢
      cases h
      rfl
    | none =>
      rw [hc] at h
      simp only at h ⊢
      cases hp : am_pure r L st with
      | some v =>
        obtain ⟨pc, L1, st1⟩ := v
        rw [hp] at h
        simp only at h ⊢
        cases h
        rfl
      | none =>
        rw [hp] at h
        simp only at h ⊢
        obtain ⟨v, hv, e⟩ := Option.map_eq_some_iff.mp h
        obtain ⟨pc1, L1, st1, M1⟩ := v
        rw [fm_mem_sim hv]
        cases e
        rfl
theorem fm_ex_sim {S : am_S} : ∀ {n d m pc : Nat} {L : am_Lo} {st : List Value} {M M1 : fm_M} {v : Option Value}, am_ex fm_mem fm_isO n d m pc L st M = some (v, M1) → am_ex (am_mem S) am_isO n d m pc L st (M.map fm_de) = some (v, M1.map fm_de) := by
  intro n
  induction n with
  | zero => intro d m pc L st M M1 v h; cases h
  | succ n ih =>
    intro d m pc L st M M1 v h
    rw [am_ex] at h ⊢
    split at h
    · cases h
    · next r hr =>
      (try rw [hr])
      (try simp only)
      cases hs : am_step fm_mem fm_isO (am_rt m) r L st M with
      | none => rw [hs] at h; cases h
      | some q =>
        rw [hs] at h
        rw [fm_step_sim hs]
        obtain ⟨pc1, L1, st1, M2⟩ | v2 | ⟨m1, As, rest⟩ := q
        · exact ih h
        · simp only [fm_lift] at h ⊢
          cases h
          rfl
        · simp only [fm_lift] at h ⊢
          cases d with
          | zero => cases h
          | succ d1 =>
            simp only at h ⊢
            split at h
            · next hl =>
              rw [if_pos hl]
              split at h
              · cases h
              · next v3 M3 h3 =>
                rw [ih h3]
                exact ih h
            · cases h
/-- some steps in one body -/
def am_pr {Mem : Type} (mem : am_Mem Mem) (isO : Mem → Nat → Nat → Bool) (m : Nat) : Nat → Nat → am_Lo → List Value → Mem → Option (Nat × am_Lo × List Value × Mem)
  | 0, pc, L, st, M => some (pc, L, st, M)
  | k + 1, pc, L, st, M => match am_fetch m pc with
    | none => none
    | some r => match am_step mem isO (am_rt m) r L st M with
      | some (.inl (pc1, L1, st1, M1)) => am_pr mem isO m k pc1 L1 st1 M1
      | _ => none
theorem fm_pr_ex {S : am_S} {d m n : Nat} : ∀ {k pc pc1 : Nat} {L L1 : am_Lo} {st st1 : List Value} {M M1 : fm_M}, am_pr fm_mem fm_isO m k pc L st M = some (pc1, L1, st1, M1) → am_ex (am_mem S) am_isO (n + k) d m pc L st (M.map fm_de) = am_ex (am_mem S) am_isO n d m pc1 L1 st1 (M1.map fm_de) := by
  intro k
  induction k with
  | zero => intro pc pc1 L L1 st st1 M M1 h; cases h; rfl
  | succ k ih =>
    intro pc pc1 L L1 st st1 M M1 h
    rw [am_pr] at h
    rw [← Nat.add_assoc, am_ex]
    split at h
    · cases h
    · next r hr =>
      split at h
      · next pc2 L2 st2 M2 hs =>
        rw [hr]
        simp only [fm_step_sim hs, fm_lift]
        exact ih h
      · cases h
theorem fm_call_ex {S : am_S} {d m n m1 : Nat} {pc : Nat} {L : am_Lo} {st As rest : List Value} {M : fm_M} {r : am_Row} (hr : am_fetch m pc = some r) (hs : am_step fm_mem fm_isO (am_rt m) r L st M = some (.inr (.inr (m1, As, rest)))) (hl : (am_sl As).length ≤ am_ml m1) {v : Option Value} {M1 : am_M} (hx : am_ex (am_mem S) am_isO n d m1 0 (am_in m1 As) [] (M.map fm_de) = some (v, M1)) : am_ex (am_mem S) am_isO (n + 1) (d + 1) m pc L st (M.map fm_de) = am_ex (am_mem S) am_isO n (d + 1) m (pc + 3) L (v.toList ++ rest) M1 := by
  rw [am_ex, hr]
  simp only [fm_step_sim hs, fm_lift]
  rw [if_pos hl, hx]
theorem am_ex_mono2 {S : am_S} : ∀ {n d m pc : Nat} {L : am_Lo} {st : List Value} {M : am_M} {q : Option Value × am_M}, am_ex (am_mem S) am_isO n d m pc L st M = some q → am_ex (am_mem S) am_isO (n + 1) d m pc L st M = some q := by
  intro n
  induction n with
  | zero => intro d m pc L st M q h; cases h
  | succ n ih =>
    intro d m pc L st M q h
    rw [am_ex] at h ⊢
    split at h
    · cases h
    · next r hr =>
      (try rw [hr])
      (try simp only)
      split at h
      · cases h
      · next pc1 L1 st1 M1 hs => (try rw [hs]); exact ih h
      · next v hs => (try rw [hs]); exact h
      · next m1 As rest hs =>
        (try rw [hs])
        (try simp only)
        cases d with
        | zero => cases h
        | succ d1 =>
          simp only at h ⊢
          split at h
          · next hl =>
            rw [if_pos hl]
            split at h
            · cases h
            · next v3 M3 h3 =>
              rw [ih h3]
              exact ih h
          · cases h
theorem am_ex_le {S : am_S} {n k d m pc : Nat} {L : am_Lo} {st : List Value} {M : am_M} {q : Option Value × am_M} (h : am_ex (am_mem S) am_isO n d m pc L st M = some q) (hk : n ≤ k) : am_ex (am_mem S) am_isO k d m pc L st M = some q := by
  induction hk with
  | refl => exact h
  | step _ ih => exact am_ex_mono2 ih
def fm_F1 : fm_M := [
  .inr (11, [.ref 1, .int 0, .int 0, .int (Int32.ofInt (-1)), .ref 2, .ref 5, .ref 15, .ref 25, .ref 42, .ref 144, .ref 145, .ref 146, .ref 148, .ref 161, .ref 174, .ref 177]),
  .inl (1, 900, [], []),
  .inr (0, [.int 1, .int 1, .int 0, .ref 3, .int 0, .int 0, .int 0, .int 0, .int 0, .ref 4]),
  .inl (0, 900, [], []),
  .inl (0, 64, [], []),
  .inr (10, [.int 0, .int 0, .int 0, .int 0, .int 0, .ref 6, .ref 7, .ref 8, .ref 9, .ref 10, .ref 11, .ref 12, .ref 13, .ref 14]),
  .inl (0, 6, [], []),
  .inl (0, 12, [], []),
  .inl (0, 12, [], []),
  .inl (0, 12, [], []),
  .inl (0, 12, [], []),
  .inl (0, 12, [], []),
  .inl (0, 12, [], []),
  .inl (0, 6, [], []),
  .inl (0, 6, [], []),
  .inr (10, [.int 0, .int 0, .int 0, .int 0, .int 0, .ref 16, .ref 17, .ref 18, .ref 19, .ref 20, .ref 21, .ref 22, .ref 23, .ref 24]),
  .inl (0, 6, [], []),
  .inl (0, 12, [], []),
  .inl (0, 12, [], []),
  .inl (0, 12, [], []),
  .inl (0, 12, [], []),
  .inl (0, 12, [], []),
  .inl (0, 12, [], []),
  .inl (0, 6, [], []),
  .inl (0, 6, [], []),
  .inr (7, [.ref 26, .ref 29, .int 0, .int 0, .ref 39, .ref 40, .ref 41, .int 0, .int 0, .int 0, .int 0, .int 0]),
  .inr (0, [.int 1, .int 1, .int 0, .ref 27, .int 0, .int 0, .int 0, .int 0, .int 0, .ref 28]),
  .inl (0, 900, [], []),
  .inl (0, 64, [], []),
  .inr (10, [.int 0, .int 0, .int 0, .int 0, .int 0, .ref 30, .ref 31, .ref 32, .ref 33, .ref 34, .ref 35, .ref 36, .ref 37, .ref 38]),
  .inl (0, 6, [], []),
  .inl (0, 12, [], []),
  .inl (0, 12, [], []),
  .inl (0, 12, [], []),
  .inl (0, 12, [], []),
  .inl (0, 12, [], []),
  .inl (0, 12, [], []),
  .inl (0, 6, [], []),
  .inl (0, 6, [], []),
  .inl (0, 901, [], []),
  .inl (0, 901, [], []),
  .inl (0, 901, [], []),
  .inr (6, [.ref 43, .int 0, .int 0]),
  .inl (4, 10, [], [(0, 44), (1, 54), (2, 64), (3, 74), (4, 84), (5, 94), (6, 104), (7, 114), (8, 124), (9, 134)]),
  .inr (10, [.int 0, .int 0, .int 0, .int 0, .int 0, .ref 45, .ref 46, .ref 47, .ref 48, .ref 49, .ref 50, .ref 51, .ref 52, .ref 53]),
  .inl (0, 6, [], []),
  .inl (0, 12, [], []),
  .inl (0, 12, [], []),
  .inl (0, 12, [], []),
  .inl (0, 12, [], []),
  .inl (0, 12, [], []),
  .inl (0, 12, [], []),
  .inl (0, 6, [], []),
  .inl (0, 6, [], []),
  .inr (10, [.int 0, .int 0, .int 0, .int 0, .int 0, .ref 55, .ref 56, .ref 57, .ref 58, .ref 59, .ref 60, .ref 61, .ref 62, .ref 63]),
  .inl (0, 6, [], []),
  .inl (0, 12, [], []),
  .inl (0, 12, [], []),
  .inl (0, 12, [], []),
  .inl (0, 12, [], []),
  .inl (0, 12, [], []),
  .inl (0, 12, [], []),
  .inl (0, 6, [], []),
  .inl (0, 6, [], []),
  .inr (10, [.int 0, .int 0, .int 0, .int 0, .int 0, .ref 65, .ref 66, .ref 67, .ref 68, .ref 69, .ref 70, .ref 71, .ref 72, .ref 73]),
  .inl (0, 6, [], []),
  .inl (0, 12, [], []),
  .inl (0, 12, [], []),
  .inl (0, 12, [], []),
  .inl (0, 12, [], []),
  .inl (0, 12, [], []),
  .inl (0, 12, [], []),
  .inl (0, 6, [], []),
  .inl (0, 6, [], []),
  .inr (10, [.int 0, .int 0, .int 0, .int 0, .int 0, .ref 75, .ref 76, .ref 77, .ref 78, .ref 79, .ref 80, .ref 81, .ref 82, .ref 83]),
  .inl (0, 6, [], []),
  .inl (0, 12, [], []),
  .inl (0, 12, [], []),
  .inl (0, 12, [], []),
  .inl (0, 12, [], []),
  .inl (0, 12, [], []),
  .inl (0, 12, [], []),
  .inl (0, 6, [], []),
  .inl (0, 6, [], []),
  .inr (10, [.int 0, .int 0, .int 0, .int 0, .int 0, .ref 85, .ref 86, .ref 87, .ref 88, .ref 89, .ref 90, .ref 91, .ref 92, .ref 93]),
  .inl (0, 6, [], []),
  .inl (0, 12, [], []),
  .inl (0, 12, [], []),
  .inl (0, 12, [], []),
  .inl (0, 12, [], []),
  .inl (0, 12, [], []),
  .inl (0, 12, [], []),
  .inl (0, 6, [], []),
  .inl (0, 6, [], []),
  .inr (10, [.int 0, .int 0, .int 0, .int 0, .int 0, .ref 95, .ref 96, .ref 97, .ref 98, .ref 99, .ref 100, .ref 101, .ref 102, .ref 103]),
  .inl (0, 6, [], []),
  .inl (0, 12, [], []),
  .inl (0, 12, [], []),
  .inl (0, 12, [], []),
  .inl (0, 12, [], []),
  .inl (0, 12, [], []),
  .inl (0, 12, [], []),
  .inl (0, 6, [], []),
  .inl (0, 6, [], []),
  .inr (10, [.int 0, .int 0, .int 0, .int 0, .int 0, .ref 105, .ref 106, .ref 107, .ref 108, .ref 109, .ref 110, .ref 111, .ref 112, .ref 113]),
  .inl (0, 6, [], []),
  .inl (0, 12, [], []),
  .inl (0, 12, [], []),
  .inl (0, 12, [], []),
  .inl (0, 12, [], []),
  .inl (0, 12, [], []),
  .inl (0, 12, [], []),
  .inl (0, 6, [], []),
  .inl (0, 6, [], []),
  .inr (10, [.int 0, .int 0, .int 0, .int 0, .int 0, .ref 115, .ref 116, .ref 117, .ref 118, .ref 119, .ref 120, .ref 121, .ref 122, .ref 123]),
  .inl (0, 6, [], []),
  .inl (0, 12, [], []),
  .inl (0, 12, [], []),
  .inl (0, 12, [], []),
  .inl (0, 12, [], []),
  .inl (0, 12, [], []),
  .inl (0, 12, [], []),
  .inl (0, 6, [], []),
  .inl (0, 6, [], []),
  .inr (10, [.int 0, .int 0, .int 0, .int 0, .int 0, .ref 125, .ref 126, .ref 127, .ref 128, .ref 129, .ref 130, .ref 131, .ref 132, .ref 133]),
  .inl (0, 6, [], []),
  .inl (0, 12, [], []),
  .inl (0, 12, [], []),
  .inl (0, 12, [], []),
  .inl (0, 12, [], []),
  .inl (0, 12, [], []),
  .inl (0, 12, [], []),
  .inl (0, 6, [], []),
  .inl (0, 6, [], []),
  .inr (10, [.int 0, .int 0, .int 0, .int 0, .int 0, .ref 135, .ref 136, .ref 137, .ref 138, .ref 139, .ref 140, .ref 141, .ref 142, .ref 143]),
  .inl (0, 6, [], []),
  .inl (0, 12, [], []),
  .inl (0, 12, [], []),
  .inl (0, 12, [], []),
  .inl (0, 12, [], []),
  .inl (0, 12, [], []),
  .inl (0, 12, [], []),
  .inl (0, 6, [], []),
  .inl (0, 6, [], []),
  .inl (5, 2, [], [(0, 182), (1, 196)]),
  .inl (6, 4, [], [(0, 210), (1, 212), (2, 214), (3, 216)]),
  .inr (1, [.ref 147, .int 0]),
  .inl (0, 6, [], []),
  .inr (5, [.ref 149, .ref 159, .ref 160, .int 0]),
  .inr (10, [.int 0, .int 0, .int 0, .int 0, .int 0, .ref 150, .ref 151, .ref 152, .ref 153, .ref 154, .ref 155, .ref 156, .ref 157, .ref 158]),
  .inl (0, 6, [], []),
  .inl (0, 12, [], []),
  .inl (0, 12, [], []),
  .inl (0, 12, [], []),
  .inl (0, 12, [], []),
  .inl (0, 12, [], []),
  .inl (0, 12, [], []),
  .inl (0, 6, [], []),
  .inl (0, 6, [], []),
  .inl (0, 30, [], []),
  .inl (0, 30, [], []),
  .inr (3, [.ref 162, .ref 172, .ref 173]),
  .inr (10, [.int 0, .int 0, .int 0, .int 0, .int 0, .ref 163, .ref 164, .ref 165, .ref 166, .ref 167, .ref 168, .ref 169, .ref 170, .ref 171]),
  .inl (0, 6, [], []),
  .inl (0, 12, [], []),
  .inl (0, 12, [], []),
  .inl (0, 12, [], []),
  .inl (0, 12, [], []),
  .inl (0, 12, [], []),
  .inl (0, 12, [], []),
  .inl (0, 6, [], []),
  .inl (0, 6, [], []),
  .inl (0, 12, [], []),
  .inl (0, 72, [], []),
  .inr (8, [.int 0, .int 0, .int 0, .ref 175, .ref 176]),
  .inl (0, 6, [], []),
  .inl (0, 6, [], []),
  .inr (2, [.long 0, .ref 178, .ref 179, .ref 180, .ref 181, .int 0, .int 0]),
  .inl (0, 10, [], []),
  .inl (0, 40, [], []),
  .inl (0, 4, [], []),
  .inl (0, 4, [], []),
  .inr (4, [.ref 183, .ref 186, .int 0]),
  .inr (0, [.int 1, .int 1, .int 0, .ref 184, .int 0, .int 0, .int 0, .int 0, .int 0, .ref 185]),
  .inl (0, 900, [], []),
  .inl (0, 64, [], []),
  .inr (10, [.int 0, .int 0, .int 0, .int 0, .int 0, .ref 187, .ref 188, .ref 189, .ref 190, .ref 191, .ref 192, .ref 193, .ref 194, .ref 195]),
  .inl (0, 6, [], []),
  .inl (0, 12, [], []),
  .inl (0, 12, [], []),
  .inl (0, 12, [], []),
  .inl (0, 12, [], []),
  .inl (0, 12, [], []),
  .inl (0, 12, [], []),
  .inl (0, 6, [], []),
  .inl (0, 6, [], []),
  .inr (4, [.ref 197, .ref 200, .int 0]),
  .inr (0, [.int 1, .int 1, .int 0, .ref 198, .int 0, .int 0, .int 0, .int 0, .int 0, .ref 199]),
  .inl (0, 900, [], []),
  .inl (0, 64, [], []),
  .inr (10, [.int 0, .int 0, .int 0, .int 0, .int 0, .ref 201, .ref 202, .ref 203, .ref 204, .ref 205, .ref 206, .ref 207, .ref 208, .ref 209]),
  .inl (0, 6, [], []),
  .inl (0, 12, [], []),
  .inl (0, 12, [], []),
  .inl (0, 12, [], []),
  .inl (0, 12, [], []),
  .inl (0, 12, [], []),
  .inl (0, 12, [], []),
  .inl (0, 6, [], []),
  .inl (0, 6, [], []),
  .inr (9, [.ref 211, .int (Int32.ofInt (-1)), .int 0]),
  .inl (2, 40, [], []),
  .inr (9, [.ref 213, .int (Int32.ofInt (-1)), .int 0]),
  .inl (2, 40, [], []),
  .inr (9, [.ref 215, .int (Int32.ofInt (-1)), .int 0]),
  .inl (2, 40, [], []),
  .inr (9, [.ref 217, .int (Int32.ofInt (-1)), .int 0]),
  .inl (2, 40, [], [])]
def fm_G : fm_M := [
  .inr (12, [.int 0, .ref 219, .ref 220, .ref 221, .ref 222, .int 0, .int 0, .int 0, .int 0, .int 0, .int 0, .int 0, .int 0, .int 0, .int (Int32.ofInt (-1)), .int 0, .ref 223, .ref 224, .ref 225, .ref 226, .ref 227, .int 0, .ref 228, .ref 229, .int 0, .int 0, .ref 230, .int 0, .int 0, .int 0, .ref 231, .ref 232, .ref 233, .long 0, .ref 234, .ref 235, .ref 236, .ref 237]),
  .inl (0, 5082, [], []),
  .inl (3, 2, [], []),
  .inl (0, 900, [], []),
  .inl (0, 1694, [], []),
  .inl (0, 900, [], []),
  .inl (0, 6, [], []),
  .inl (0, 6, [], []),
  .inl (0, 6, [], []),
  .inl (0, 6, [], []),
  .inl (0, 70, [], []),
  .inl (0, 6, [], []),
  .inl (0, 6, [], []),
  .inl (2, 40, [], []),
  .inl (0, 10, [], []),
  .inl (0, 10, [], []),
  .inl (0, 72, [], []),
  .inl (0, 4, [(0, Int32.ofInt (-1)), (1, Int32.ofInt (-1)), (2, Int32.ofInt (-1)), (3, Int32.ofInt (-1))], []),
  .inl (0, 4, [], []),
  .inl (2, 160, [], [])]
def fm_F2 : fm_M := fm_F1 ++ fm_G
def fm_dA : DecidableEq (List (Nat × Int32) × List (Nat × Nat)) := inferInstance
def fm_dB : DecidableEq (Nat × Nat × List (Nat × Int32) × List (Nat × Nat)) := by haveI := fm_dA; infer_instance
def fm_dO : DecidableEq (Nat × List Value) := inferInstance
def fm_dC : DecidableEq fm_C := by haveI := fm_dB; haveI := fm_dO; infer_instance
def fm_dM : DecidableEq fm_M := by haveI := fm_dC; infer_instance
def fm_dV : DecidableEq (Option Value) := inferInstance
def fm_dL : DecidableEq am_Lo := by haveI := fm_dV; infer_instance
def fm_dW : DecidableEq (List Value) := inferInstance
def fm_dR1 : DecidableEq (Option Value × fm_M) := by haveI := fm_dV; haveI := fm_dM; infer_instance
def fm_dR : DecidableEq (Option (Option Value × fm_M)) := by haveI := fm_dR1; infer_instance
def fm_dP1 : DecidableEq (List Value × fm_M) := by haveI := fm_dW; haveI := fm_dM; infer_instance
def fm_dP2 : DecidableEq (am_Lo × List Value × fm_M) := by haveI := fm_dL; haveI := fm_dP1; infer_instance
def fm_dP3 : DecidableEq (Nat × am_Lo × List Value × fm_M) := by haveI := fm_dP2; infer_instance
def fm_dP : DecidableEq (Option (Nat × am_Lo × List Value × fm_M)) := by haveI := fm_dP3; infer_instance
def fm_dQ1 : DecidableEq (List Value × List Value) := by haveI := fm_dW; infer_instance
def fm_dQ2 : DecidableEq (Nat × List Value × List Value) := by haveI := fm_dQ1; infer_instance
def fm_dQ3 : DecidableEq (Option Value ⊕ (Nat × List Value × List Value)) := by haveI := fm_dV; haveI := fm_dQ2; infer_instance
def fm_dQ4 : DecidableEq ((Nat × am_Lo × List Value × fm_M) ⊕ (Option Value ⊕ (Nat × List Value × List Value))) := by haveI := fm_dP3; haveI := fm_dQ3; infer_instance
def fm_dS : DecidableEq (Option ((Nat × am_Lo × List Value × fm_M) ⊕ (Option Value ⊕ (Nat × List Value × List Value)))) := by haveI := fm_dQ4; infer_instance
set_option maxRecDepth 1000000 in
theorem fm_e1 : am_ex fm_mem fm_isO 6000 110 108 0 (am_in 108 [.ref 0]) [] [.inr (11, am_df 11)] = some (none, fm_F1) := @of_decide_eq_true _ (fm_dR _ _) (by decide +kernel)
set_option maxRecDepth 1000000 in
theorem fm_e2 : am_pr fm_mem fm_isO 164 97 0 (am_in 164 [.ref 218]) [] (fm_F1 ++ [.inr (12, am_df 12)]) = some (179, [some (.ref 218)], [], fm_F2) := @of_decide_eq_true _ (fm_dP _ _) (by decide +kernel)
theorem fm_l1 : am_pr fm_mem fm_isO 308 2 0 (am_in 308 [.retAddr 1000]) [] [] = some (4, [some (.retAddr 1000), none, none, none], [.ref 0, .ref 0], [.inr (11, am_df 11)]) := @of_decide_eq_true _ (fm_dP _ _) (by decide +kernel)
theorem fm_l2 : am_fetch 308 4 = some (4, 3, .invokespecial 9, 108, 2, 11000) ∧ am_step fm_mem fm_isO (am_rt 308) (4, 3, .invokespecial 9, 108, 2, 11000) [some (.retAddr 1000), none, none, none] [.ref 0, .ref 0] [.inr (11, am_df 11)] = some (.inr (.inr (108, [.ref 0], [.ref 0]))) := ⟨by decide +kernel, @of_decide_eq_true _ (fm_dS _ _) (by decide +kernel)⟩
set_option maxRecDepth 1000000 in
theorem fm_l3 : am_pr fm_mem fm_isO 308 3 7 [some (.retAddr 1000), none, none, none] [.ref 0] fm_F1 = some (12, [some (.retAddr 1000), some (.ref 0), none, none], [.ref 218, .ref 218], fm_F1 ++ [.inr (12, am_df 12)]) := @of_decide_eq_true _ (fm_dP _ _) (by decide +kernel)
set_option maxRecDepth 1000000 in
theorem fm_l4 : am_fetch 308 12 = some (12, 3, .invokespecial 12, 164, 2, 12000) ∧ am_step fm_mem fm_isO (am_rt 308) (12, 3, .invokespecial 12, 164, 2, 12000) [some (.retAddr 1000), some (.ref 0), none, none] [.ref 218, .ref 218] (fm_F1 ++ [.inr (12, am_df 12)]) = some (.inr (.inr (164, [.ref 218], [.ref 218]))) := ⟨by decide +kernel, @of_decide_eq_true _ (fm_dS _ _) (by decide +kernel)⟩
/-- the memory as two functions -/
def fm_row : Option fm_C → Nat → Int32
  | some (.inl (_, _, ws, _)) => fm_fi ws
  | some (.inr (_, fs)) => fun j => match fs[j]? with
    | some (.int x) => x
    | _ => 0
  | none => fun _ => 0
def fm_s0 : bm_S := (fun k => fm_row fm_F2[k]?, fun _ _ => 0)
def fm_fk (v w : Value) : Bool := match v, w with
  | .int _, .int _ => true
  | .long _, .long x => decide (x = 0)
  | .int _, _ => false
  | .long _, _ => false
  | v, w => decide (v = w)
def fm_chk (c : fm_C) (y : am_C) : Bool := match c, y with
  | .inl (t, n, _, _), .inl (t1, (n1, .inl _)) => decide (t = t1 ∧ n = n1 ∧ t < 4 ∧ ¬ t = 2)
  | .inl (t, n, _, _), .inl (t1, (n1, .inr (.inl _))) => decide (t = t1 ∧ n = n1 ∧ t = 2)
  | .inl (t, n, _, _), .inl (t1, (n1, .inr (.inr (.inr (.inr _))))) => decide (t = t1 ∧ n = n1 ∧ ¬ t < 4)
  | .inr (ci, fs), .inr (cj, gs) => decide (ci = cj ∧ fs.length = gs.length) && (List.range gs.length).all (fun b => match gs[b]?, fs[b]? with
    | some v, some w => fm_fk v w
    | _, _ => false)
  | _, _ => false
set_option maxRecDepth 1000000 in
theorem fm_chks : (List.range 238).all (fun k => match fm_F2[k]?, bm_ly[k]? with
  | some c, some y => fm_chk c y && (match y with
    | .inl (_, (_, .inr (.inr (.inr (.inr _))))) => k == 43 || k == 144 || k == 145
    | _ => true)
  | _, _ => false) = true := by decide +kernel
set_option maxRecDepth 1000000 in
theorem fm_len : fm_F2.length = 238 := by decide +kernel
set_option maxRecDepth 1000000 in
theorem fm_ref {k t n t1 n1 : Nat} {ws : List (Nat × Int32)} {rs : List (Nat × Nat)} {f : Nat → Option Nat} (hk : k = 43 ∨ k = 144 ∨ k = 145) (hc : fm_F2[k]? = some (.inl (t, n, ws, rs))) (hy : bm_ly[k]? = some (.inl (t1, (n1, .inr (.inr (.inr (.inr f))))))) : fm_fr rs = f := by
  rcases hk with e43 | e144 | e145
  · subst e43; cases hc; cases hy; rfl
  · subst e144; cases hc; cases hy; rfl
  · subst e145; cases hc; cases hy; rfl
theorem fm_mk : fm_F2.map fm_de = bm_mk fm_s0 := by
  apply List.ext_getElem?
  intro k
  rw [fm_get, bm_mk_get]
  by_cases hk : k < 238
  · have h1 := List.all_eq_true.mp fm_chks k (List.mem_range.mpr hk)
    have es : fm_s0.1 k = fm_row fm_F2[k]? := rfl
    cases hc : fm_F2[k]? with
    | none => rw [hc] at h1; cases h1
    | some c =>
      cases hy : bm_ly[k]? with
      | none => rw [hc, hy] at h1; cases h1
      | some y =>
        rw [hc, hy] at h1
        rw [hc] at es
        simp only [Bool.and_eq_true] at h1
        obtain ⟨h2, h3⟩ := h1
        simp only [Option.map_some]
        congr 1
        rcases c with ⟨t, n, ws, rs⟩ | ⟨ci, fs⟩
        · rcases y with ⟨t1, n1, f | f | f | f | f⟩ | ⟨cj, gs⟩
          · simp only [fm_chk, decide_eq_true_eq] at h2
            obtain ⟨e1, e2, h4, h5⟩ := h2
            subst e1 e2
            replace es : fm_s0.1 k = fm_fi ws := es
            simp only [fm_de, bm_fill]
            rw [if_neg h5, if_pos h4, es]
          · simp only [fm_chk, decide_eq_true_eq] at h2
            obtain ⟨e1, e2, h4⟩ := h2
            subst e1 e2
            simp only [fm_de, bm_fill]
            rw [if_pos h4]
            rfl
          · simp [fm_chk] at h2
          · simp [fm_chk] at h2
          · simp only [fm_chk, decide_eq_true_eq] at h2
            obtain ⟨e1, e2, h4⟩ := h2
            subst e1 e2
            have hk3 : k = 43 ∨ k = 144 ∨ k = 145 := by simpa [or_assoc] using h3
            simp only [fm_de, bm_fill]
            rw [if_neg (by omega), if_neg h4, fm_ref hk3 hc hy]
          · simp [fm_chk] at h2
        · rcases y with ⟨t1, n1, f | f | f | f | f⟩ | ⟨cj, gs⟩
          · simp [fm_chk] at h2
          · simp [fm_chk] at h2
          · simp [fm_chk] at h2
          · simp [fm_chk] at h2
          · simp [fm_chk] at h2
          · simp only [fm_chk, Bool.and_eq_true, decide_eq_true_eq] at h2
            obtain ⟨⟨e1, e2⟩, h4⟩ := h2
            subst e1
            simp only [fm_de, bm_fill]
            congr 2
            apply List.ext_getElem?
            intro j
            rw [List.getElem?_mapIdx]
            have es2 : ∀ x, fs[j]? = some (.int x) → fm_s0.1 k j = x := fun x hx => by
              rw [es]
              simp only [fm_row, hx]
            by_cases hj : j < gs.length
            · have h5 := List.all_eq_true.mp h4 j (List.mem_range.mpr hj)
              cases hg : gs[j]? with
              | none => rw [hg] at h5; cases h5
              | some v =>
                cases hf : fs[j]? with
                | none => rw [hg, hf] at h5; cases h5
                | some w =>
                  rw [hg, hf] at h5
                  replace h5 : fm_fk v w = true := h5
                  simp only [Option.map_some]
                  congr 1
                  cases v with
                  | int x =>
                    cases w with
                    | int y => rw [es2 y hf]
                    | _ => cases h5
                  | long x =>
                    cases w with
                    | long y =>
                      have : y = 0 := by simpa [fm_fk] using h5
                      rw [this]
                      rfl
                    | _ => cases h5
                  | _ =>
                    first
                      | (have := of_decide_eq_true h5; exact this.symm)
                      | (cases w <;> simp [fm_fk] at h5 ⊢ <;> exact h5.symm)
            · rw [List.getElem?_eq_none (show gs.length ≤ j by omega), List.getElem?_eq_none (show fs.length ≤ j by omega)]
              rfl
  · rw [List.getElem?_eq_none (by rw [fm_len]; omega), List.getElem?_eq_none (by rw [bm_ly_len]; omega)]
    rfl
