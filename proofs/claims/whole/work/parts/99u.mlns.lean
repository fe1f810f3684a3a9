def lnz (q : Nat → Nat) (v : Nat → Int32) (K i : Nat) (R : Nat → Int32) (C : List Int32) : lnR :=
  if q i = 2 then mrz q v (cN (R 3)) i R C else if q i = 3 then ltz q v (cN (R 3)) (cN (R 25)) i R C else if q i = 8 then lwz false q v K i R C else if q i = 9 then lwz true q v K i R C else if q i = 10 then frz q v i R C else Sum.inr (if q i = 22 then 1 else 2, i)
def edz (q : Nat → Nat) (x : lnR) : lnR :=
  match x with
  | Sum.inl (j, R, C) => if q j = 23 then Sum.inl (j + 1, upd R 0 (R 0 + 1), C) else Sum.inr (if q j = 22 then 1 else 2, j)
  | Sum.inr e => Sum.inr e
def lsz (q : Nat → Nat) (v : Nat → Int32) (K : Nat) : Nat → Nat → (Nat → Int32) → List Int32 → lnR
  | 0, i, R, C => Sum.inl (i, R, C)
  | f + 1, i, R, C =>
    if q i = 21 then Sum.inl (i, R, C) else
    match edz q (lnz q v K i R C) with
    | Sum.inl (j, R2, C2) => lsz q v K f j R2 C2
    | Sum.inr e => Sum.inr e
/-- what every line keeps -/
def RK (K i : Nat) (R : Nat → Int32) (C : List Int32) : Prop := (∃ M, M ≤ 6 ∧ R 3 = nI M) ∧ (∃ L, L ≤ 12 ∧ R 25 = nI L) ∧ C.length ≤ i ∧ i ≤ K
theorem nmx_K {q : Nat → Nat} {v : Nat → Int32} {K : Nat} (hK : tkK q K) {lo up : Int32} {i j : Nat} (hi : i ≤ K) (h : nmx q v lo up (Sum.inl i) = Sum.inl j) : j = i + 1 ∧ j ≤ K := by
  obtain ⟨a, ea, ej, qa, _⟩ := nmx_l h
  have : i = a := Sum.inl.inj ea
  subst this
  have := lt_K hK hi (by rw [qa]; decide)
  exact ⟨ej, by omega⟩
theorem tkx_K {q : Nat → Nat} {K w : Nat} (hK : tkK q K) (hw : w ≠ 21) {i j : Nat} (hi : i ≤ K) (h : tkx q w (Sum.inl i) = Sum.inl j) : j = i + 1 ∧ j ≤ K := by
  obtain ⟨a, ea, ej, qa⟩ := tkx_l h
  have : i = a := Sum.inl.inj ea
  subst this
  have := lt_K hK hi (by rw [qa]; exact hw)
  exact ⟨ej, by omega⟩
theorem lnz_keep {q : Nat → Nat} {v : Nat → Int32} {K i j : Nat} {R R2 : Nat → Int32} {C C2 : List Int32} (hK : tkK q K) (k : RK K i R C) (hq : ¬ q i = 21) (h : lnz q v K i R C = Sum.inl (j, R2, C2)) : i < j ∧ RK K j R2 C2 := by
  obtain ⟨⟨M, hM, eM⟩, ⟨L, hL, eL⟩, hC, hi⟩ := k
  have iK := lt_K hK hi hq
  have cM : cN (R 3) = M := by rw [eM]; exact cN_nI (by omega)
  have cL : cN (R 25) = L := by rw [eL]; exact cN_nI (by omega)
  unfold lnz at h
  rw [cM, cL] at h
  by_cases a2 : q i = 2
  · rw [if_pos a2] at h
    unfold mrz at h
    by_cases b : M = 6
    · rw [if_pos b] at h; cases h
    rw [if_neg b] at h
    cases hx : nmx q v 0 999 (Sum.inl (i + 1)) with
    | inr e => rw [hx] at h; cases h
    | inl j1 =>
      rw [hx] at h
      obtain ⟨c1, c2⟩ := nmx_K hK (by omega) hx
      have e := Sum.inl.inj h
      have e1 : j1 = j := congrArg Prod.fst e
      have e2 : upd (upd R (26 + M) (v (i + 1))) 3 (nI (M + 1)) = R2 := congrArg (fun z => z.2.1) e
      have e3 : C = C2 := congrArg (fun z => z.2.2) e
      subst e1 e2 e3
      exact ⟨by omega, ⟨M + 1, by omega, upd_s _ _ _⟩, ⟨L, hL, by rw [upd_n _ _ (by decide), upd_n _ _ (by omega)]; exact eL⟩, by omega, c2⟩
  rw [if_neg a2] at h
  by_cases a3 : q i = 3
  · rw [if_pos a3] at h
    unfold ltz at h
    by_cases b : L = 12
    · rw [if_pos b] at h; cases h
    rw [if_neg b] at h
    cases hx : lt5 q v M i with
    | inr e => rw [hx] at h; cases h
    | inl j1 =>
      rw [hx] at h
      have e := Sum.inl.inj h
      have e1 : j1 = j := congrArg Prod.fst e
      have e2 : lwR R L (v (i + 1)) (v (i + 3)) (v (i + 5)) (v (i + 7)) (if q (i + 8) = 7 then v (i + 9) else 0) = R2 := congrArg (fun z => z.2.1) e
      have e3 : C = C2 := congrArg (fun z => z.2.2) e
      have jj : i + 8 ≤ j1 ∧ j1 ≤ K := by
        cases hy : lt4 q v M i with
        | inr e => unfold lt5 at hx; rw [hy] at hx; cases hx
        | inl j8 =>
          obtain ⟨y8, y7, _⟩ := lt4_l hy
          have q7 := hy
          unfold lt4 at q7
          rw [y7] at q7
          have i7 : i + 7 ≤ K := by
            unfold lt3 at y7
            obtain ⟨a, ea, ej, qa⟩ := tkx_l y7
            rcases Nat.lt_or_ge K (i + 7) with z | z
            · have : q K = 21 := hK.1
              -- every place before i + 7 was read, so none of them is the last
              obtain ⟨b1, eb1, ej1, qb1, _⟩ := nmx_l ea
              obtain ⟨b2, eb2, ej2, qb2⟩ := tkx_l eb1
              obtain ⟨b3, eb3, ej3, qb3, _⟩ := nmx_l eb2
              obtain ⟨_, _, x2, x1, _, _, _, x0⟩ := lt4_l hy
              have x1b := x1
              unfold lt1 at x1b
              obtain ⟨b5, eb5, ej5, qb5⟩ := tkx_l x1b
              obtain ⟨b6, eb6, ej6, qb6, _⟩ := nmx_l eb5
              have hb6 : i + 1 = b6 := Sum.inl.inj eb6
              have hb3 : i + 3 = b3 := by rw [x2] at eb3; exact Sum.inl.inj eb3
              subst hb6 hb3
              have w1 := lt_K hK (show i + 1 ≤ K by omega) (by rw [qb6]; decide)
              have w2 := lt_K hK (show b5 ≤ K by omega) (by rw [qb5]; decide)
              have w3 := lt_K hK (show i + 3 ≤ K by omega) (by rw [qb3]; decide)
              have w4 := lt_K hK (show b2 ≤ K by omega) (by rw [qb2]; decide)
              have w5 := lt_K hK (show b1 ≤ K by omega) (by rw [qb1]; decide)
              have w6 := lt_K hK (show a ≤ K by omega) (by rw [qa]; decide)
              omega
            · exact z
          obtain ⟨z1, z2⟩ := nmx_K hK i7 q7
          unfold lt5 at hx
          rw [hy] at hx
          change (if q j8 = 7 then nmx q v 0 9 (Sum.inl (j8 + 1)) else Sum.inl j8) = Sum.inl j1 at hx
          by_cases b7 : q j8 = 7
          · rw [if_pos b7] at hx
            have w7 := lt_K hK z2 (by rw [b7]; decide)
            obtain ⟨u1, u2⟩ := nmx_K hK (by omega) hx
            omega
          · rw [if_neg b7] at hx
            have : j8 = j1 := Sum.inl.inj hx
            omega
      subst e1 e2 e3
      refine ⟨by omega, ⟨M, hM, ?_⟩, ⟨L + 1, by omega, upd_s _ _ _⟩, by omega, jj.2⟩
      unfold lwR
      rw [upd_n _ _ (by decide), upd_n _ _ (by omega), upd_n _ _ (by omega), upd_n _ _ (by omega), upd_n _ _ (by omega), upd_n _ _ (by omega)]
      exact eM
  rw [if_neg a3] at h
  have law : ∀ time, lwz time q v K i R C = Sum.inl (j, R2, C2) → i < j ∧ RK K j R2 C2 := by
    intro time h
    unfold lwz at h
    cases hx : tkx q 24 (Sum.inl (i + 1)) with
    | inr e => rw [hx] at h; cases h
    | inl j1 =>
      rw [hx] at h
      obtain ⟨c1, c2⟩ := tkx_K hK (by decide) (by omega) hx
      simp only at h
      have gr := pz_gr (time := time) (v := v) (R := K + 1) hK 31 (if time = true then 0 else 3) 0 j1 C c2
      cases hy : pz time q v (K + 1) 31 (if time = true then 0 else 3) 0 j1 C with
      | inr e => rw [hy] at h; cases h
      | inl p =>
        obtain ⟨j2, C3⟩ := p
        rw [hy] at h
        obtain ⟨z1, z2, E, z3, z4⟩ := gr j2 C3 hy
        have e := Sum.inl.inj h
        have e1 : j2 = j := congrArg Prod.fst e
        have e2 := congrArg (fun z => z.2.1) e
        have e3 : C3 = C2 := congrArg (fun z => z.2.2) e
        simp only at e2
        subst e1 e2 e3
        have t2 : (if time = true then 1 else 0 : Nat) ≤ 1 := by split <;> omega
        refine ⟨by omega, ⟨M, hM, ?_⟩, ⟨L, hL, ?_⟩, by rw [z3, List.length_append]; omega, z2⟩
        · rw [upd_n _ _ (by omega), upd_n _ _ (by omega), upd_n _ _ (by omega)]; exact eM
        · rw [upd_n _ _ (by omega), upd_n _ _ (by omega), upd_n _ _ (by omega)]; exact eL
  by_cases a8 : q i = 8
  · rw [if_pos a8] at h; exact law false h
  rw [if_neg a8] at h
  by_cases a9 : q i = 9
  · rw [if_pos a9] at h; exact law true h
  rw [if_neg a9] at h
  by_cases a10 : q i = 10
  · rw [if_pos a10] at h
    unfold frz at h
    cases hx : nmx q v 0 999 (Sum.inl (i + 1)) with
    | inr e => rw [hx] at h; cases h
    | inl j1 =>
      rw [hx] at h
      obtain ⟨c1, c2⟩ := nmx_K hK (by omega) hx
      have e := Sum.inl.inj h
      have e1 : j1 = j := congrArg Prod.fst e
      have e2 : upd R 22 (v (i + 1)) = R2 := congrArg (fun z => z.2.1) e
      have e3 : C = C2 := congrArg (fun z => z.2.2) e
      subst e1 e2 e3
      exact ⟨by omega, ⟨M, hM, by rw [upd_n _ _ (by decide)]; exact eM⟩, ⟨L, hL, by rw [upd_n _ _ (by decide)]; exact eL⟩, by omega, c2⟩
  · rw [if_neg a10] at h
    cases h
