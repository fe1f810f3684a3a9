/-! what is read is well typed -/
def TYP (N : Nat) : List Int32 → List Bool → List Bool → Prop
  | [], t, t2 => t.length ≤ N ∧ t = t2
  | c :: E, t, t2 => t.length ≤ N ∧ ∃ t1, tyS c t = some t1 ∧ TYP N E t1 t2
theorem TYP.app {N : Nat} {E2 : List Int32} {t1 t2 : List Bool} (h2 : TYP N E2 t1 t2) : ∀ {E1 : List Int32} {t : List Bool}, TYP N E1 t t1 → TYP N (E1 ++ E2) t t2 := by
  intro E1
  induction E1 with
  | nil =>
    intro t h
    obtain ⟨_, rfl⟩ := h
    exact h2
  | cons c E1 ih =>
    intro t h
    obtain ⟨a, t3, b, e⟩ := h
    exact ⟨a, t3, b, ih e⟩
theorem TYP.mono {N M : Nat} (h : N ≤ M) : ∀ {E : List Int32} {t t2 : List Bool}, TYP N E t t2 → TYP M E t t2 := by
  intro E
  induction E with
  | nil => intro t t2 x; exact ⟨Nat.le_trans x.1 h, x.2⟩
  | cons c E ih =>
    intro t t2 x
    obtain ⟨a, t3, b, e⟩ := x
    exact ⟨Nat.le_trans a h, t3, b, ih e⟩
theorem TYP.end {N : Nat} : ∀ {E : List Int32} {t t2 : List Bool}, TYP N E t t2 → t2.length ≤ N := by
  intro E
  induction E with
  | nil => intro t t2 x; obtain ⟨a, rfl⟩ := x; exact a
  | cons c E ih => intro t t2 x; obtain ⟨_, t3, _, e⟩ := x; exact ih e
theorem TYP.snoc {N : Nat} {E : List Int32} {c : Int32} {t t1 t2 : List Bool} (h : TYP N E t t1) (e : tyS c t1 = some t2) (hl : t2.length ≤ N) : TYP N (E ++ [c]) t t2 := TYP.app (E2 := [c]) ⟨h.end, t2, e, hl, rfl⟩ h
def GE (time : Bool) (E : List Int32) (b : Bool) (h : Nat) : Prop := (∀ c, c ∈ E → okC time c) ∧ ∀ t, TYP (t.length + h) E t (b :: t)
theorem GE.bin {time : Bool} {E1 E2 : List Int32} {b1 b2 b3 : Bool} {h1 h2 H : Nat} {c : Int32} (x : GE time E1 b1 h1) (y : GE time E2 b2 h2) (l1 : h1 ≤ H) (l2 : h2 + 1 ≤ H) (ok : okC time c) (e : ∀ t, tyS c (b2 :: b1 :: t) = some (b3 :: t)) : GE time (E1 ++ E2 ++ [c]) b3 H := by
  refine ⟨fun z hz => ?_, fun t => ?_⟩
  · simp only [List.mem_append, List.mem_singleton] at hz
    rcases hz with (hz | hz) | hz
    · exact x.1 z hz
    · exact y.1 z hz
    · rw [hz]; exact ok
  · have a := (x.2 t).mono (show t.length + h1 ≤ t.length + H by omega)
    have b := (y.2 (b1 :: t)).mono (show (b1 :: t).length + h2 ≤ t.length + H by simp; omega)
    have ab := TYP.app b a
    exact ab.snoc (e t) (by simp; omega)
theorem GE.one {time : Bool} {x : Int32} {H : Nat} (hH : 1 ≤ H) (ok : okC time x) (hx : x < 3000) : GE time [x] false H := by
  refine ⟨fun c hc => by rw [List.mem_singleton.mp hc]; exact ok, fun t => ⟨by omega, false :: t, ?_, by simp; omega, rfl⟩⟩
  unfold tyS
  rw [if_pos hx]
theorem GE.not {time : Bool} {E : List Int32} {h H : Nat} (x : GE time E true h) (l : h ≤ H) : GE time (E ++ [3006]) true H := by
  refine ⟨fun z hz => ?_, fun t => ?_⟩
  · simp only [List.mem_append, List.mem_singleton] at hz
    rcases hz with hz | hz
    · exact x.1 z hz
    · rw [hz]; exact Or.inr (Or.inr (Or.inr (Or.inr (Or.inr (Or.inl rfl)))))
  · have a := (x.2 t).mono (show t.length + h ≤ t.length + H by omega)
    exact a.snoc (t2 := true :: t) (by unfold tyS; simp (decide := true)) a.end
theorem GE.up {time : Bool} {E : List Int32} {b : Bool} {h H : Nat} (x : GE time E b h) (l : h ≤ H) : GE time E b H := ⟨x.1, fun t => (x.2 t).mono (by omega)⟩
theorem okJ {time : Bool} {c : Int32} (h : isJ c) : okC time c := Or.inr (Or.inr (Or.inr (Or.inr (Or.inr (Or.inr h)))))
theorem opz_t {lvl q : Nat} (h : ¬ opz lvl q = 0) : isJ (opz lvl q) ∧ ∀ t, tyS (opz lvl q) (decide (lvl ≤ 2) :: decide (lvl ≤ 2) :: t) = some (decide (lvl ≤ 2) :: t) := by
  unfold opz at h ⊢
  by_cases l0 : lvl = 0
  · subst l0
    by_cases a : q = 17
    · subst a; exact ⟨by unfold isJ; decide, fun t => by unfold tyS; simp (decide := true)⟩
    · simp [a] at h
  by_cases l1 : lvl = 1
  · subst l1
    by_cases a : q = 16
    · subst a; exact ⟨by unfold isJ; decide, fun t => by unfold tyS; simp (decide := true)⟩
    · simp [a] at h
  by_cases l3 : lvl = 3
  · subst l3
    by_cases a : q = 25
    · subst a; exact ⟨by unfold isJ; decide, fun t => by unfold tyS; simp (decide := true)⟩
    · by_cases a2 : q = 26
      · subst a2; exact ⟨by unfold isJ; decide, fun t => by unfold tyS; simp (decide := true)⟩
      · simp [a, a2] at h
  by_cases l4 : lvl = 4
  · subst l4
    by_cases a : q = 27
    · subst a; exact ⟨by unfold isJ; decide, fun t => by unfold tyS; simp (decide := true)⟩
    · simp [a] at h
  · simp [l0, l1, l3, l4] at h
theorem cpz_t {q : Nat} (h : ¬ cpz q = 0) : isJ (cpz q) ∧ ∀ t, tyS (cpz q) (false :: false :: t) = some (true :: t) := by
  unfold cpz at h ⊢
  by_cases a : q = 32
  · subst a; exact ⟨by unfold isJ; decide, fun t => by unfold tyS; simp (decide := true)⟩
  by_cases a2 : q = 33
  · subst a2; exact ⟨by unfold isJ; decide, fun t => by unfold tyS; simp (decide := true)⟩
  by_cases a3 : q = 34
  · subst a3; exact ⟨by unfold isJ; decide, fun t => by unfold tyS; simp (decide := true)⟩
  simp [a, a2, a3] at h
theorem awz_ok {time : Bool} {q : Nat} (h : ¬ awz time q = 0) : okC time (awz time q) ∧ awz time q < 3000 := by
  by_cases a : q = 10
  · subst a; exact ⟨Or.inr (Or.inl rfl), by show (1000 : Int32) < 3000; decide⟩
  by_cases a1 : q = 11
  · subst a1; exact ⟨Or.inr (Or.inr (Or.inl rfl)), by show (1001 : Int32) < 3000; decide⟩
  cases time
  · by_cases a2 : q = 12
    · subst a2; exact ⟨Or.inr (Or.inr (Or.inr (Or.inl ⟨rfl, rfl⟩))), by show (1002 : Int32) < 3000; decide⟩
    · exfalso; apply h; unfold awz; simp [a, a1, a2]
  · by_cases a3 : q = 13
    · subst a3; exact ⟨Or.inr (Or.inr (Or.inr (Or.inr (Or.inl ⟨rfl, Or.inl rfl⟩)))), by show (1003 : Int32) < 3000; decide⟩
    by_cases a4 : q = 14
    · subst a4; exact ⟨Or.inr (Or.inr (Or.inr (Or.inr (Or.inl ⟨rfl, Or.inr (Or.inl rfl)⟩)))), by show (1004 : Int32) < 3000; decide⟩
    by_cases a5 : q = 15
    · subst a5; exact ⟨Or.inr (Or.inr (Or.inr (Or.inr (Or.inl ⟨rfl, Or.inr (Or.inr rfl)⟩)))), by show (1005 : Int32) < 3000; decide⟩
    · exfalso; apply h; unfold awz; simp [a, a1, a3, a4, a5]
theorem pz_ty {time : Bool} {q : Nat → Nat} {v : Nat → Int32} {R : Nat} (hv : ∀ i, q i = 20 → ∃ k, k < 1000 ∧ v i = nI k) : ∀ f lvl op i C j C1, lvl ≤ 5 → pz time q v R f lvl op i C = Sum.inl (j, C1) → ∃ E, C1 = C ++ E ∧ GE time E (decide (lvl ≤ 2)) f := by
  intro f
  induction f with
  | zero => intro lvl op i C j C1 _ h; cases h
  | succ f ih =>
    intro lvl op i C j C1 hl h
    rw [pz] at h
    have fin : ∀ {a b : Nat × List Int32}, (Sum.inl a : pzR) = Sum.inl b → a = b := fun z => Sum.inl.inj z
    by_cases l5 : lvl = 5
    · subst l5
      rw [if_pos rfl] at h
      by_cases a1 : q i = 20
      · rw [if_pos a1] at h
        obtain ⟨k, hk, ek⟩ := hv i a1
        have e := (congrArg Prod.snd (fin h)).symm
        exact ⟨[v i], e, GE.one (by omega) (Or.inl ⟨k, hk, ek⟩) (by rw [ek]; exact nI_lt (b := 3000) (by omega) (by decide))⟩
      rw [if_neg a1] at h
      by_cases a2 : ¬ awz time (q i) = 0
      · rw [if_pos a2] at h
        obtain ⟨o1, o2⟩ := awz_ok a2
        exact ⟨[awz time (q i)], (congrArg Prod.snd (fin h)).symm, GE.one (by omega) o1 o2⟩
      rw [if_neg a2] at h
      by_cases a3 : q i = 28
      · rw [if_pos a3] at h
        split at h
        · cases h
        · obtain ⟨j2, C2, h2, h3⟩ := bdz_l h
          obtain ⟨E, e1, g1⟩ := ih 3 (op + 1) (i + 1) C j2 C2 (by omega) h2
          unfold tkz at h3
          split at h3
          · have : C2 = C1 := congrArg Prod.snd (fin h3)
            exact ⟨E, by rw [← this, e1], g1.up (by omega)⟩
          · exact absurd h3 rfz_l
      · rw [if_neg a3] at h
        exact absurd h rfz_l
    · rw [if_neg l5] at h
      by_cases l2 : lvl = 2
      · subst l2
        rw [if_pos rfl] at h
        by_cases a1 : q i = 18
        · rw [if_pos a1] at h
          split at h
          · cases h
          · obtain ⟨j2, C2, h2, h3⟩ := bdz_l h
            obtain ⟨E, e1, g1⟩ := ih 2 (op + 1) (i + 1) C j2 C2 (by omega) h2
            have : C2 ++ [3006] = C1 := congrArg Prod.snd (fin h3)
            exact ⟨E ++ [3006], by rw [← this, e1, List.append_assoc], g1.not (by omega)⟩
        rw [if_neg a1] at h
        by_cases a2 : q i = 30
        · rw [if_pos a2] at h
          split at h
          · cases h
          · obtain ⟨j2, C2, h2, h3⟩ := bdz_l h
            obtain ⟨E, e1, g1⟩ := ih 0 (op + 1) (i + 1) C j2 C2 (by omega) h2
            unfold tkz at h3
            split at h3
            · have : C2 = C1 := congrArg Prod.snd (fin h3)
              exact ⟨E, by rw [← this, e1], g1.up (by omega)⟩
            · exact absurd h3 rfz_l
        rw [if_neg a2] at h
        obtain ⟨j2, C2, h2, h3⟩ := bdz_l h
        obtain ⟨E, e1, g1⟩ := ih 3 op i C j2 C2 (by omega) h2
        by_cases a3 : cpz (q j2) = 0
        · rw [if_pos a3] at h3
          exact absurd h3 rfz_l
        · rw [if_neg a3] at h3
          obtain ⟨j3, C3, h4, h5⟩ := bdz_l h3
          obtain ⟨E2, e2, g2⟩ := ih 3 op (j2 + 1) C2 j3 C3 (by omega) h4
          obtain ⟨x1, x2⟩ := cpz_t a3
          have : C3 ++ [cpz (q j2)] = C1 := congrArg Prod.snd (fin h5)
          exact ⟨E ++ E2 ++ [cpz (q j2)], by rw [← this, e2, e1]; simp, GE.bin g1 g2 (by omega) (by omega) (okJ x1) x2⟩
      · rw [if_neg l2] at h
        obtain ⟨j2, C2, h2, h3⟩ := bdz_l h
        obtain ⟨E, e1, g1⟩ := ih (lvl + 1) op i C j2 C2 (by omega) h2
        have el : decide (lvl + 1 ≤ 2) = decide (lvl ≤ 2) := decide_eq_decide.mpr (by omega)
        rw [el] at g1
        have lp : ∀ R2 j2 C2 E j C1, C2 = C ++ E → GE time E (decide (lvl ≤ 2)) (f + 1) → lpz q lvl (fun j C1 => pz time q v R f (lvl + 1) op j C1) R2 j2 C2 = Sum.inl (j, C1) → ∃ E2, C1 = C ++ E2 ∧ GE time E2 (decide (lvl ≤ 2)) (f + 1) := by
          intro R2
          induction R2 with
          | zero =>
            intro j2 C2 E j C1 e1 g1 h
            have : C2 = C1 := congrArg Prod.snd (fin h)
            exact ⟨E, by rw [← this, e1], g1⟩
          | succ R2 ih2 =>
            intro j2 C2 E j C1 e1 g1 h
            rw [lpz] at h
            by_cases a : opz lvl (q j2) = 0
            · rw [if_pos a] at h
              have : C2 = C1 := congrArg Prod.snd (fin h)
              exact ⟨E, by rw [← this, e1], g1⟩
            · rw [if_neg a] at h
              obtain ⟨j3, C3, h4, h5⟩ := bdz_l h
              obtain ⟨E2, e2, g2⟩ := ih (lvl + 1) op (j2 + 1) C2 j3 C3 (by omega) h4
              rw [el] at g2
              obtain ⟨x1, x2⟩ := opz_t a
              exact ih2 j3 _ (E ++ E2 ++ [opz lvl (q j2)]) j C1 (by rw [e2, e1]; simp) (GE.bin g1 g2 (Nat.le_refl _) (Nat.le_refl _) (okJ x1) x2) h5
        exact lp R j2 C2 E j C1 e1 (g1.up (by omega)) h3
/-- and so it is well formed where it lies -/
theorem ty_at {B : Nat → Int32} {p N : Nat} : ∀ (E : List Int32) (m : Nat) (t t2 : List Bool), tyF B p m = some t → (∀ k, k < E.length → cdB B p (m + k) = E.getD k 0) → TYP N E t t2 → tyF B p (m + E.length) = some t2 ∧ ∀ k, k ≤ E.length → ∃ t1, tyF B p (m + k) = some t1 ∧ t1.length ≤ N := by
  intro E
  induction E with
  | nil =>
    intro m t t2 h _ ty
    obtain ⟨a, rfl⟩ := ty
    refine ⟨h, fun k hk => ?_⟩
    have e : k = 0 := by simpa using hk
    subst e
    exact ⟨t, h, a⟩
  | cons c E ih =>
    intro m t t2 h hc ty
    obtain ⟨a, t1, b, e⟩ := ty
    have h1 : tyF B p (m + 1) = some t1 := by
      rw [tyF, h, show cdB B p m = c from hc 0 (by simp)]
      exact b
    obtain ⟨x, y⟩ := ih (m + 1) t1 t2 h1 (fun k hk => by
      have := hc (k + 1) (by simp; omega)
      rw [show m + (k + 1) = m + 1 + k by omega] at this
      simpa using this) e
    refine ⟨by rw [List.length_cons, show m + (E.length + 1) = m + 1 + E.length by omega]; exact x, fun k hk => ?_⟩
    cases k with
    | zero => exact ⟨t, h, a⟩
    | succ k =>
      obtain ⟨t3, z1, z2⟩ := y k (by simpa using hk)
      exact ⟨t3, by rw [show m + (k + 1) = m + 1 + k by omega]; exact z1, z2⟩
theorem wf_of {time : Bool} {B : Nat → Int32} {p : Nat} {E : List Int32} (g : GE time E time 60) (hp : p + E.length ≤ 900) (hc : ∀ k, k < E.length → cdB B p k = E.getD k 0) : wfL time B p E.length := by
  obtain ⟨x, y⟩ := ty_at (B := B) (p := p) (N := 60) E 0 [] [time] rfl (fun k hk => by rw [Nat.zero_add]; exact hc k hk) (by simpa using g.2 [])
  rw [Nat.zero_add] at x
  refine ⟨hp, x, fun j hj => ⟨?_, fun t ht => ?_⟩⟩
  · rw [hc j hj]
    refine g.1 _ ?_
    rw [List.getD_eq_getElem?_getD, List.getElem?_eq_getElem hj, Option.getD_some]
    exact List.getElem_mem hj
  · obtain ⟨t1, z1, z2⟩ := y j (by omega)
    rw [Nat.zero_add, ht] at z1
    injection z1 with z1
    rw [z1]; exact z2
