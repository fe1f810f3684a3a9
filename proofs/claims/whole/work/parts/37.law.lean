def cdB (B : Nat → Int32) (p j : Nat) : Int32 := B (794 + p + j)
def tyS (c : Int32) (t : List Bool) : Option (List Bool) :=
  if c < 3000 then some (false :: t)
  else if c = 3006 then (match t with | true :: r => some (true :: r) | _ => none)
  else if c = 3000 ∨ c = 3001 ∨ c = 3002 then (match t with | false :: false :: r => some (false :: r) | _ => none)
  else if c = 3003 ∨ c = 3004 ∨ c = 3005 then (match t with | false :: false :: r => some (true :: r) | _ => none)
  else if c = 3007 ∨ c = 3008 then (match t with | true :: true :: r => some (true :: r) | _ => none)
  else none
def tyF (B : Nat → Int32) (p : Nat) : Nat → Option (List Bool)
  | 0 => some []
  | j + 1 => (tyF B p j).bind (tyS (cdB B p j))
def okC (time : Bool) (c : Int32) : Prop := (∃ k, k < 1000 ∧ c = nI k) ∨ c = 1000 ∨ c = 1001 ∨ (time = false ∧ c = 1002) ∨ (time = true ∧ (c = 1003 ∨ c = 1004 ∨ c = 1005)) ∨ c = 3006 ∨ isJ c
/-- a law's code as it must be -/
def wfL (time : Bool) (B : Nat → Int32) (p n : Nat) : Prop := p + n ≤ 900 ∧ tyF B p n = some [time] ∧ ∀ j, j < n → okC time (cdB B p j) ∧ ∀ t, tyF B p j = some t → t.length ≤ 60
def evV (W : Nat → Int32) (c : Int32) : Int32 := if c < 1000 then c else W (cN (c - 1000))
def evS (W : Nat → Int32) (c : Int32) (s : Nat × (Nat → Int32)) : Nat × (Nat → Int32) :=
  if c < 3000 then (s.1 + 1, upd s.2 s.1 (evV W c))
  else if c = 3006 then (s.1, upd s.2 (s.1 - 1) (1 - s.2 (s.1 - 1)))
  else (s.1 - 1, upd s.2 (s.1 - 2) (btw c (s.2 (s.1 - 2)) (s.2 (s.1 - 1))))
def evF (W B : Nat → Int32) (p : Nat) : Nat → Nat × (Nat → Int32)
  | 0 => (0, fun _ => 0)
  | j + 1 => evS W (cdB B p j) (evF W B p j)
/-- what is typed as a truth is 0 or 1 -/
def tyV (t : List Bool) (g : Nat → Int32) : Prop := ∀ i, i < t.length → t.getD (t.length - 1 - i) false = true → (g i = 0 ∨ g i = 1)
theorem tyV_cons {b : Bool} {t : List Bool} {g : Nat → Int32} : tyV (b :: t) g ↔ (b = true → (g t.length = 0 ∨ g t.length = 1)) ∧ tyV t g := by
  constructor
  · intro h
    refine ⟨fun hb => h t.length (by simp) (by simp [hb]), fun i hi hq => h i (by simp; omega) ?_⟩
    have e : (b :: t).length - 1 - i = (t.length - 1 - i) + 1 := by simp; omega
    rw [e, List.getD_cons_succ]; exact hq
  · intro h i hi hq
    by_cases e : i = t.length
    · subst e
      simp at hq
      exact h.1 hq
    · have hi2 : i < t.length := by simp at hi; omega
      have e : (b :: t).length - 1 - i = (t.length - 1 - i) + 1 := by simp; omega
      rw [e, List.getD_cons_succ] at hq
      exact h.2 i hi2 hq
theorem tyV_upd {t : List Bool} {g : Nat → Int32} {k : Nat} {x : Int32} (h : tyV t g) (hk : t.length ≤ k) : tyV t (upd g k x) := by
  intro i hi hq
  rw [upd_n g x (by omega)]
  exact h i hi hq
theorem isJ_ge {c : Int32} (h : isJ c) : ¬ c < 3000 ∧ ¬ c = 3006 := by
  rcases h with rfl | rfl | rfl | rfl | rfl | rfl | rfl | rfl <;> exact ⟨by decide, by decide⟩
/-- a joining code takes two -/
theorem tyS_J {c : Int32} (h : isJ c) {t t1 : List Bool} (e : tyS c t = some t1) : ∃ a b1 b r, t = a :: b1 :: r ∧ t1 = b :: r ∧ (b = true → (∀ x y : Int32, (a = true → (x = 0 ∨ x = 1)) → (b1 = true → (y = 0 ∨ y = 1)) → (btw c y x = 0 ∨ btw c y x = 1))) := by
  have q : ∀ (p : Prop) [Decidable p], (if p then (1 : Int32) else 0) = 0 ∨ (if p then (1 : Int32) else 0) = 1 := by
    intro p hp; by_cases hq : p <;> simp [hq]
  have d1 : ∀ x y : Int32, (x = 0 ∨ x = 1) → (y = 0 ∨ y = 1) → (y &&& x = 0 ∨ y &&& x = 1) ∧ (y ||| x = 0 ∨ y ||| x = 1) := by
    intro x y hx hy
    rcases hx with rfl | rfl <;> rcases hy with rfl | rfl <;> decide
  unfold tyS at e
  rcases h with rfl | rfl | rfl | rfl | rfl | rfl | rfl | rfl
  all_goals simp (decide := true) only [if_false, if_true, true_or, or_true, or_false, false_or] at e
  all_goals split at e
  all_goals first | (cases e; done) | skip
  all_goals (injection e with e; subst e)
  all_goals refine ⟨_, _, _, _, rfl, rfl, ?_⟩
  all_goals intro hb x y hx hy
  all_goals first | (cases hb; done) | skip
  · simp (decide := true) only [btw, if_true, if_false]; exact q _
  · simp (decide := true) only [btw, if_true, if_false]; exact q _
  · simp (decide := true) only [btw, if_true, if_false]; exact q _
  · simp (decide := true) only [btw, if_true, if_false]; exact (d1 x y (hx rfl) (hy rfl)).1
  · simp (decide := true) only [btw, if_true, if_false]; exact (d1 x y (hx rfl) (hy rfl)).2
/-- how high the stack stands, and that truths are 0 or 1 -/
theorem evF_ty (W : Nat → Int32) {time : Bool} {B : Nat → Int32} {p n : Nat} (h : wfL time B p n) : ∀ j, j ≤ n → ∃ t, tyF B p j = some t ∧ (evF W B p j).1 = t.length ∧ tyV t (evF W B p j).2 := by
  have hq : ∀ j, j ≤ n → ∃ t, tyF B p j = some t := by
    intro j hj
    cases e : tyF B p j with
    | some t => exact ⟨t, rfl⟩
    | none =>
      have : ∀ k, tyF B p (j + k) = none := by
        intro k
        induction k with
        | zero => exact e
        | succ k ih => show tyF B p ((j + k) + 1) = none; rw [tyF, ih]; rfl
      have h1 := this (n - j)
      rw [show j + (n - j) = n by omega, h.2.1] at h1
      cases h1
  intro j
  induction j with
  | zero => intro _; exact ⟨[], rfl, rfl, fun i hi => absurd hi (by simp)⟩
  | succ j ih =>
    intro hj
    obtain ⟨t, e1, e2, e3⟩ := ih (by omega)
    obtain ⟨t1, e4⟩ := hq (j + 1) hj
    refine ⟨t1, e4, ?_⟩
    rw [tyF, e1] at e4
    replace e4 : tyS (cdB B p j) t = some t1 := e4
    obtain ⟨hok, hlen⟩ := h.2.2 j (by omega)
    rw [evF]
    unfold evS
    by_cases c3 : cdB B p j < 3000
    · unfold tyS at e4
      rw [if_pos c3] at e4 ⊢
      injection e4 with e4
      subst e4
      refine ⟨by simp [e2], ?_⟩
      rw [tyV_cons]
      refine ⟨fun hb => (by cases hb), ?_⟩
      exact tyV_upd e3 (by omega)
    · by_cases c6 : cdB B p j = 3006
      · unfold tyS at e4
        rw [if_neg c3, if_pos c6] at e4
        rw [if_neg c3, if_pos c6]
        split at e4
        · next r =>
          injection e4 with e4
          subst e4
          rw [tyV_cons] at e3 ⊢
          refine ⟨e2, ?_, ?_⟩
          · intro _
            have e5 : (evF W B p j).1 - 1 = r.length := by rw [e2]; simp
            simp only [e5, upd_s]
            rcases e3.1 rfl with q | q <;> rw [q] <;> decide
          · have e5 : (evF W B p j).1 - 1 = r.length := by rw [e2]; simp
            exact tyV_upd e3.2 (by omega)
        · cases e4
      · have hJ : isJ (cdB B p j) := by
          rcases hok with ⟨k, hk, e⟩ | e | e | ⟨_, e⟩ | ⟨_, e⟩ | e | e
          · exfalso; apply c3; rw [e]; exact nI_lt (b := 3000) (by omega) (by decide)
          · exfalso; apply c3; rw [e]; decide
          · exfalso; apply c3; rw [e]; decide
          · exfalso; apply c3; rw [e]; decide
          · exfalso; apply c3; rcases e with e | e | e <;> rw [e] <;> decide
          · exact absurd e c6
          · exact e
        obtain ⟨a, b1, b, r, et, et1, hb⟩ := tyS_J hJ e4
        subst et et1
        rw [if_neg c3, if_neg c6]
        rw [tyV_cons, tyV_cons] at e3
        have e5 : (evF W B p j).1 - 1 = r.length + 1 := by rw [e2]; simp
        have e6 : (evF W B p j).1 - 2 = r.length := by rw [e2]; simp
        rw [e5, e6, tyV_cons]
        refine ⟨by simp, ?_, tyV_upd e3.2.2 (by omega)⟩
        intro hb0
        simp only [upd_s]
        exact hb hb0 _ _ e3.1 e3.2.1
