/-! what both read: kinds q, numbers v, by the token's place in the row of tokens -/
abbrev pzR : Type := Sum (Nat × List Int32) (Int32 × Nat)
def rfz (q : Nat → Nat) (i : Nat) (why : Int32) : pzR := Sum.inr (if q i = 22 then 1 else why, i)
/-- what joins the parts of one kind (0: none) -/
def opz (lvl qi : Nat) : Int32 := if lvl = 0 then (if qi = 17 then 3008 else 0) else if lvl = 1 then (if qi = 16 then 3007 else 0) else if lvl = 3 then (if qi = 25 then 3000 else if qi = 26 then 3001 else 0) else if lvl = 4 then (if qi = 27 then 3002 else 0) else 0
/-- a word that stands for a number (0: none) -/
def awz (time : Bool) (qi : Nat) : Int32 := if qi = 10 then 1000 else if qi = 11 then 1001 else if qi = 12 then (if time = true then 0 else 1002) else if qi = 13 then (if time = true then 1003 else 0) else if qi = 14 then (if time = true then 1004 else 0) else if qi = 15 then (if time = true then 1005 else 0) else 0
def cpz (qi : Nat) : Int32 := if qi = 32 then 3003 else if qi = 33 then 3004 else if qi = 34 then 3005 else 0
def bdz (r : pzR) (g : Nat → List Int32 → pzR) : pzR :=
  match r with
  | Sum.inl (j, C) => g j C
  | Sum.inr e => Sum.inr e
def tkz (q : Nat → Nat) (w : Nat) (j : Nat) (C : List Int32) : pzR := if q j = w then Sum.inl (j + 1, C) else rfz q j 2
def lpz (q : Nat → Nat) (lvl : Nat) (g : Nat → List Int32 → pzR) : Nat → Nat → List Int32 → pzR
  | 0, j, C => Sum.inl (j, C)
  | r + 1, j, C => if opz lvl (q j) = 0 then Sum.inl (j, C) else bdz (g (j + 1) C) (fun j2 C2 => lpz q lvl g r j2 (C2 ++ [opz lvl (q j)]))
def pz (time : Bool) (q : Nat → Nat) (v : Nat → Int32) (R : Nat) : Nat → Nat → Nat → Nat → List Int32 → pzR
  | 0, _, _, i, _ => Sum.inr (0, i)
  | f + 1, lvl, op, i, C =>
    if lvl = 5 then
      (if q i = 20 then Sum.inl (i + 1, C ++ [v i])
      else if ¬ awz time (q i) = 0 then Sum.inl (i + 1, C ++ [awz time (q i)])
      else if q i = 28 then (if 6 ≤ op then Sum.inr (4, i) else bdz (pz time q v R f 3 (op + 1) (i + 1) C) (tkz q 29))
      else rfz q i 2)
    else if lvl = 2 then
      (if q i = 18 then (if 6 ≤ op then Sum.inr (4, i) else bdz (pz time q v R f 2 (op + 1) (i + 1) C) (fun j C1 => Sum.inl (j, C1 ++ [3006])))
      else if q i = 30 then (if 6 ≤ op then Sum.inr (4, i) else bdz (pz time q v R f 0 (op + 1) (i + 1) C) (tkz q 31))
      else bdz (pz time q v R f 3 op i C) (fun j C1 => if cpz (q j) = 0 then rfz q j 2 else bdz (pz time q v R f 3 op (j + 1) C1) (fun j2 C2 => Sum.inl (j2, C2 ++ [cpz (q j)]))))
    else bdz (pz time q v R f (lvl + 1) op i C) (lpz q lvl (fun j C1 => pz time q v R f (lvl + 1) op j C1) R)
/-- how much fuel a reading needs -/
def muz (lvl op : Nat) : Nat := 4 * (6 - op) + (6 - lvl)
/-- the tokens: none follows the last, K -/
def tkK (q : Nat → Nat) (K : Nat) : Prop := q K = 21 ∧ ∀ i, i < K → ¬ q i = 21
/-- a reading goes on, and its code is no longer than its tokens -/
def grz (i : Nat) (C : List Int32) (K : Nat) (r : pzR) : Prop := ∀ j C1, r = Sum.inl (j, C1) → i < j ∧ j ≤ K ∧ ∃ E, C1 = C ++ E ∧ E.length + i ≤ j
theorem bdz_l {r : pzR} {g : Nat → List Int32 → pzR} {j : Nat} {C : List Int32} (h : bdz r g = Sum.inl (j, C)) : ∃ j1 C1, r = Sum.inl (j1, C1) ∧ g j1 C1 = Sum.inl (j, C) := by
  unfold bdz at h
  split at h
  · exact ⟨_, _, rfl, h⟩
  · cases h
theorem rfz_l {q : Nat → Nat} {i : Nat} {w : Int32} {x : Nat × List Int32} : ¬ rfz q i w = Sum.inl x := fun h => by unfold rfz at h; cases h
theorem grz_tk {q : Nat → Nat} {K i w j : Nat} {C C1 : List Int32} (hK : tkK q K) (hw : w ≠ 21) (hi : i ≤ K) (h : tkz q w i C = Sum.inl (j, C1)) : q i = w ∧ j = i + 1 ∧ C1 = C ∧ i + 1 ≤ K := by
  unfold tkz at h
  by_cases e : q i = w
  · rw [if_pos e] at h
    have h1 := Sum.inl.inj h
    have a : i + 1 = j := congrArg Prod.fst h1
    have b : C = C1 := congrArg Prod.snd h1
    refine ⟨e, a.symm, b.symm, ?_⟩
    rcases Nat.lt_or_ge i K with z | z
    · omega
    · have : i = K := by omega
      rw [this, hK.1] at e
      exact absurd e.symm hw
  · rw [if_neg e] at h
    exact absurd h rfz_l
theorem lt_K {q : Nat → Nat} {K i : Nat} (hK : tkK q K) (hi : i ≤ K) (h : ¬ q i = 21) : i < K := by
  rcases Nat.lt_or_ge i K with z | z
  · exact z
  · have : i = K := by omega
    rw [this] at h
    exact absurd hK.1 h
theorem opz_21 (lvl : Nat) : opz lvl 21 = 0 := by unfold opz; simp
theorem lpz_gr {q : Nat → Nat} {K lvl : Nat} (hK : tkK q K) {g : Nat → List Int32 → pzR} (hg : ∀ i C, i ≤ K → grz i C K (g i C)) : ∀ R i C j C1, i ≤ K → lpz q lvl g R i C = Sum.inl (j, C1) → i ≤ j ∧ j ≤ K ∧ ∃ E, C1 = C ++ E ∧ E.length + i ≤ j := by
  intro R
  induction R with
  | zero =>
    intro i C j C1 hi h
    have h1 := Sum.inl.inj h
    have a : i = j := congrArg Prod.fst h1
    have b : C = C1 := congrArg Prod.snd h1
    exact ⟨by omega, by omega, [], by rw [List.append_nil]; exact b.symm, by show 0 + i ≤ j; omega⟩
  | succ R ih =>
    intro i C j C1 hi h
    rw [lpz] at h
    by_cases e : opz lvl (q i) = 0
    · rw [if_pos e] at h
      have h1 := Sum.inl.inj h
      have a : i = j := congrArg Prod.fst h1
      have b : C = C1 := congrArg Prod.snd h1
      exact ⟨by omega, by omega, [], by rw [List.append_nil]; exact b.symm, by show 0 + i ≤ j; omega⟩
    · rw [if_neg e] at h
      have iK := lt_K hK hi (fun z => e (by rw [z]; exact opz_21 lvl))
      obtain ⟨j2, C2, h2, h3⟩ := bdz_l h
      obtain ⟨x1, x2, E, x3, x4⟩ := hg (i + 1) C (by omega) j2 C2 h2
      obtain ⟨y1, y2, E2, y3, y4⟩ := ih j2 _ j C1 x2 h3
      refine ⟨by omega, y2, E ++ [opz lvl (q i)] ++ E2, by rw [y3, x3]; simp, by simp; omega⟩
theorem pz_gr {time : Bool} {q : Nat → Nat} {v : Nat → Int32} {R K : Nat} (hK : tkK q K) : ∀ f lvl op i C, i ≤ K → grz i C K (pz time q v R f lvl op i C) := by
  intro f
  induction f with
  | zero => intro lvl op i C _ j C1 h; cases h
  | succ f ih =>
    intro lvl op i C hi j C1 h
    rw [pz] at h
    have one : ∀ x : Int32, i < K → Sum.inl (i + 1, C ++ [x]) = (Sum.inl (j, C1) : pzR) → i < j ∧ j ≤ K ∧ ∃ E, C1 = C ++ E ∧ E.length + i ≤ j := fun x hK2 hx => by
      have h1 := Sum.inl.inj hx
      have a : i + 1 = j := congrArg Prod.fst h1
      have b : C ++ [x] = C1 := congrArg Prod.snd h1
      exact ⟨by omega, by omega, [x], b.symm, by show 1 + i ≤ j; omega⟩
    by_cases l5 : lvl = 5
    · rw [if_pos l5] at h
      by_cases a1 : q i = 20
      · rw [if_pos a1] at h
        exact one _ (lt_K hK hi (by omega)) h
      rw [if_neg a1] at h
      by_cases a2 : ¬ awz time (q i) = 0
      · rw [if_pos a2] at h
        exact one _ (lt_K hK hi (fun z => a2 (by rw [z]; rfl))) h
      rw [if_neg a2] at h
      by_cases a3 : q i = 28
      · rw [if_pos a3] at h
        split at h
        · cases h
        · obtain ⟨j2, C2, h2, h3⟩ := bdz_l h
          obtain ⟨x1, x2, E, x3, x4⟩ := ih 3 (op + 1) (i + 1) C (lt_K hK hi (by omega)) j2 C2 h2
          obtain ⟨y0, y1, y2, y3⟩ := grz_tk hK (by decide) x2 h3
          exact ⟨by omega, by omega, E, by rw [y2, x3], by omega⟩
      · rw [if_neg a3] at h
        exact absurd h rfz_l
    · rw [if_neg l5] at h
      by_cases l2 : lvl = 2
      · rw [if_pos l2] at h
        by_cases a1 : q i = 18
        · rw [if_pos a1] at h
          split at h
          · cases h
          · obtain ⟨j2, C2, h2, h3⟩ := bdz_l h
            obtain ⟨x1, x2, E, x3, x4⟩ := ih 2 (op + 1) (i + 1) C (lt_K hK hi (by omega)) j2 C2 h2
            have h1 := Sum.inl.inj h3
            have a : j2 = j := congrArg Prod.fst h1
            have b : C2 ++ [3006] = C1 := congrArg Prod.snd h1
            exact ⟨by omega, by omega, E ++ [3006], by rw [← b, x3]; simp, by simp; omega⟩
        · rw [if_neg a1] at h
          by_cases a2 : q i = 30
          · rw [if_pos a2] at h
            split at h
            · cases h
            · obtain ⟨j2, C2, h2, h3⟩ := bdz_l h
              obtain ⟨x1, x2, E, x3, x4⟩ := ih 0 (op + 1) (i + 1) C (lt_K hK hi (by omega)) j2 C2 h2
              obtain ⟨y0, y1, y2, y3⟩ := grz_tk hK (by decide) x2 h3
              exact ⟨by omega, by omega, E, by rw [y2, x3], by omega⟩
          · rw [if_neg a2] at h
            obtain ⟨j2, C2, h2, h3⟩ := bdz_l h
            obtain ⟨x1, x2, E, x3, x4⟩ := ih 3 op i C hi j2 C2 h2
            by_cases a3 : cpz (q j2) = 0
            · rw [if_pos a3] at h3
              exact absurd h3 rfz_l
            · rw [if_neg a3] at h3
              have jK := lt_K hK x2 (fun z => a3 (by rw [z]; rfl))
              obtain ⟨j4, C4, h4, h5⟩ := bdz_l h3
              obtain ⟨y1, y2, E2, y3, y4⟩ := ih 3 op (j2 + 1) C2 (by omega) j4 C4 h4
              have h1 := Sum.inl.inj h5
              have a : j4 = j := congrArg Prod.fst h1
              have b : C4 ++ [cpz (q j2)] = C1 := congrArg Prod.snd h1
              exact ⟨by omega, by omega, E ++ E2 ++ [cpz (q j2)], by rw [← b, y3, x3]; simp, by simp; omega⟩
      · rw [if_neg l2] at h
        obtain ⟨j2, C2, h2, h3⟩ := bdz_l h
        obtain ⟨x1, x2, E, x3, x4⟩ := ih (lvl + 1) op i C hi j2 C2 h2
        obtain ⟨y1, y2, E2, y3, y4⟩ := lpz_gr hK (fun i C hi => ih (lvl + 1) op i C hi) R j2 C2 j C1 x2 h3
        exact ⟨by omega, y2, E ++ E2, by rw [y3, x3]; simp, by simp; omega⟩
