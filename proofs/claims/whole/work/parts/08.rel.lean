/-! the small machine's state and the machine's -/
abbrev am_X : Type := Nat × (Nat → ClassId) × (Nat → Nat) × (Nat → Nat) × Nat × Value × va_G × am_S
def xh (X : am_X) : Nat := X.1
def xC (X : am_X) : Nat → ClassId := X.2.1
def xK (X : am_X) : Nat → Nat := X.2.2.1
def xV (X : am_X) : Nat → Nat := X.2.2.2.1
def xb (X : am_X) : Nat := X.2.2.2.2.1
def xF (X : am_X) : Value := X.2.2.2.2.2.1
def xD (X : am_X) : va_G := X.2.2.2.2.2.2.1
def xS (X : am_X) : am_S := X.2.2.2.2.2.2.2
def am_tv (X : am_X) : Value → Value
  | .ref k => .ref (xh X + k)
  | .retAddr n => if n = 1000 then .ref (xb X) else if n = 1001 then xF X else if n % 2 = 0 then .ref (xK X (n / 2)) else .ref (xV X (n / 2))
  | v => v
theorem am_tvI (X : am_X) (x : Int32) : am_tv X (.int x) = .int x := rfl
theorem am_tvL (X : am_X) (x : Int64) : am_tv X (.long x) = .long x := rfl
theorem am_tvR (X : am_X) (k : Nat) : am_tv X (.ref k) = .ref (xh X + k) := rfl
theorem am_tvN (X : am_X) : am_tv X .null = .null := rfl
def am_hF (X : am_X) : Prop := xF X = .null ∨ ∃ t, xF X = .ref t
theorem am_tvA {X : am_X} (hF : am_hF X) (n : Nat) : am_tv X (.retAddr n) = .null ∨ ∃ t, am_tv X (.retAddr n) = .ref t := by
  have e : am_tv X (.retAddr n) = if n = 1000 then .ref (xb X) else if n = 1001 then xF X else if n % 2 = 0 then .ref (xK X (n / 2)) else .ref (xV X (n / 2)) := rfl
  rw [e]
  by_cases h0 : n = 1000
  · rw [if_pos h0]; exact Or.inr ⟨_, rfl⟩
  · rw [if_neg h0]
    by_cases h1 : n = 1001
    · rw [if_pos h1]; exact hF
    · rw [if_neg h1]
      by_cases h2 : n % 2 = 0
      · rw [if_pos h2]; exact Or.inr ⟨_, rfl⟩
      · rw [if_neg h2]; exact Or.inr ⟨_, rfl⟩
theorem am_tv_cat {X : am_X} (hF : am_hF X) (v : Value) : (am_tv X v).category = v.category := by
  cases v with
  | retAddr n =>
    rcases am_tvA hF n with h | ⟨t, h⟩ <;> rw [h] <;> rfl
  | _ => rfl
theorem am_cat_map {X : am_X} (hF : am_hF X) (st : List Value) : ((st.map (am_tv X)).map fun v => v.category).sum = am_cat st := by
  unfold am_cat
  rw [List.map_map]
  congr 1
  exact List.map_congr_left (fun v _ => am_tv_cat hF v)
def am_cc (X : am_X) : am_C → va_E
  | .inl (t, (n, .inl f)) => .inl (xC X t, (n, .inl f))
  | .inl (t, (n, .inr (.inl f))) => .inl (xC X t, (n, .inr (.inl f)))
  | .inl (t, (n, .inr (.inr (.inl f)))) => .inl (xC X t, (n, .inr (.inr (.inl f))))
  | .inl (t, (n, .inr (.inr (.inr (.inl f))))) => .inl (xC X t, (n, .inr (.inr (.inr (.inl f)))))
  | .inl (t, (n, .inr (.inr (.inr (.inr f))))) => .inl (xC X t, (n, .inr (.inr (.inr (.inr (fun i => (f i).map (fun k => xh X + k)))))))
  | .inr (ci, fs) => .inr (ci, fs.map (am_tv X))
def am_ws (X : am_X) (M : am_M) : va_W := M.mapIdx (fun k c => (xh X + k, am_cc X c))
def am_A (X : am_X) : Nat → Prop := fun q => xh X ≤ q
theorem am_ws_get {X : am_X} {M : am_M} {k : Nat} {c : am_C} (h : M[k]? = some c) : (am_ws X M)[k]? = some (xh X + k, am_cc X c) := by
  simp [am_ws, h]
theorem am_ws_set (X : am_X) (M : am_M) (k : Nat) (c : am_C) : am_ws X (M.set k c) = (am_ws X M).set k (xh X + k, am_cc X c) := by
  apply List.ext_getElem?
  intro i
  simp only [am_ws, List.getElem?_mapIdx, List.getElem?_set, List.length_mapIdx]
  by_cases h : k = i
  · subst h
    by_cases h2 : k < M.length <;> simp [h2]
  · simp [h]
theorem am_ws_app (X : am_X) (M : am_M) (c : am_C) : am_ws X (M ++ [c]) = am_ws X M ++ [(xh X + M.length, am_cc X c)] := by
  simp [am_ws, List.mapIdx_append]
theorem am_ws_len (X : am_X) (M : am_M) : (am_ws X M).length = M.length := by simp [am_ws]
theorem am_ws_at {X : am_X} {M : am_M} {i : Nat} {q : Nat × va_E} (h : (am_ws X M)[i]? = some q) : q.1 = xh X + i := by
  simp only [am_ws, List.getElem?_mapIdx] at h
  cases hm : M[i]? with
  | none => rw [hm] at h; cases h
  | some c => rw [hm] at h; cases h; rfl
theorem am_ws_D (X : am_X) (M : am_M) : va_D (am_A X) (am_ws X M) := by
  refine ⟨fun i j p q hp hq e => ?_, fun k q hq => ?_⟩
  · rw [am_ws_at hp, am_ws_at hq] at e
    omega
  · show xh X ≤ q.1
    rw [am_ws_at hq]
    omega
def am_vcl : List vw_C := am_cl.map (fun q => (q.1, q.2.1, q.2.2.1))
theorem am_vcl_get {ci : Nat} (h : ci < 13) : am_vcl[ci]? = some ((am_cn ci).1, (am_cn ci).2.1, (am_cn ci).2.2.1) := by
  have hl : ci < am_cl.length := h
  simp [am_vcl, am_cn, List.getElem?_eq_getElem hl, List.getD_eq_getElem?_getD]
def am_tys (X : am_X) : List (ClassId × FieldType) := [(xC X 0, .int), (xC X 1, .byte), (xC X 2, .long), (xC X 3, .boolean), (xC X 4, .object RX10), (xC X 5, .object RX4), (xC X 6, .object RX9)]
/-! locals -/
theorem am_st1_get (L : am_Lo) (i : Nat) (v : Value) (j : Nat) : (am_st1 L i v)[j]? = if j = i then (if i < L.length then some (some v) else none) else if j + 1 = i then L[j]?.map am_clr else L[j]? := by
  induction L generalizing i j with
  | nil => simp [am_st1]
  | cons o t ih =>
    match i, j with
    | 0, 0 => simp [am_st1]
    | 0, j + 1 => simp [am_st1]
    | 1, 0 => simp [am_st1]
    | 1, j + 1 =>
      simp only [am_st1, List.getElem?_cons_succ, ih]
      by_cases h : j = 0
      · subst h; simp
      · simp [h]
    | i + 2, 0 => simp [am_st1]
    | i + 2, j + 1 =>
      simp only [am_st1, List.getElem?_cons_succ, ih]
      by_cases h : j = i + 1
      · subst h
        simp only [if_true, List.length_cons]
        split <;> split <;> first | rfl | omega
      · simp [h]
theorem am_st1_len (L : am_Lo) (i : Nat) (v : Value) : (am_st1 L i v).length = L.length := by
  induction L generalizing i with
  | nil => rfl
  | cons o t ih =>
    match i with
    | 0 => rfl
    | 1 => simp [am_st1, ih]
    | i + 2 => simp [am_st1, ih]
theorem am_st2_get (L : am_Lo) (i : Nat) (v : Value) (j : Nat) (w : Value) (h : (am_st2 L i v)[j]? = some (some w)) : (j = i ∧ w = v) ∨ (j ≠ i ∧ j ≠ i + 1 ∧ L[j]? = some (some w) ∧ (j + 1 = i → am_clr (some w) = some w)) := by
  induction L generalizing i j with
  | nil => simp [am_st2] at h
  | cons o t ih =>
    match i, j with
    | 0, 0 => left; simp [am_st2] at h; exact ⟨rfl, h.symm⟩
    | 0, 1 =>
      cases t with
      | nil => simp [am_st2] at h
      | cons a u => simp [am_st2] at h
    | 0, j + 2 =>
      right
      cases t with
      | nil => simp [am_st2] at h
      | cons a u => simp [am_st2] at h; simp [h]
    | 1, 0 =>
      right
      simp [am_st2] at h
      refine ⟨by omega, by omega, ?_, fun _ => ?_⟩
      · simp only [List.getElem?_cons_zero]
        cases o with
        | none => simp [am_clr] at h
        | some x => cases x <;> simp [am_clr] at h ⊢ <;> exact h
      · cases o with
        | none => simp [am_clr] at h
        | some x => cases x <;> simp [am_clr] at h <;> subst h <;> rfl
    | 1, j + 1 =>
      simp only [am_st2, List.getElem?_cons_succ] at h
      rcases ih _ _ h with ⟨h1, h2⟩ | ⟨h1, h2, h3, h4⟩
      · left; exact ⟨by omega, h2⟩
      · right; exact ⟨by omega, by omega, by simpa using h3, fun e => by omega⟩
    | i + 2, 0 =>
      right
      simp [am_st2] at h
      exact ⟨by omega, by omega, by simpa using h, fun e => by omega⟩
    | i + 2, j + 1 =>
      simp only [am_st2, List.getElem?_cons_succ] at h
      rcases ih _ _ h with ⟨h1, h2⟩ | ⟨h1, h2, h3, h4⟩
      · left; exact ⟨by omega, h2⟩
      · right; exact ⟨by omega, by omega, by simpa using h3, fun e => h4 (by omega)⟩
theorem am_st2_len (L : am_Lo) (i : Nat) (v : Value) : (am_st2 L i v).length = L.length := by
  induction L generalizing i with
  | nil => rfl
  | cons o t ih =>
    match i with
    | 0 => cases t <;> simp [am_st2]
    | 1 => simp [am_st2, ih]
    | i + 2 => simp [am_st2, ih]
theorem am_clr_cat {w : Value} (h : am_clr (some w) = some w) : w.category ≠ 2 := by
  cases w <;> simp [am_clr] at h <;> simp [Value.category]
def am_LR (X : am_X) (L : am_Lo) (ls : Array Slot) (nL : Nat) : Prop := ls.size = nL ∧ L.length = nL ∧ lv_wf ls ∧ ∀ (i : Nat) (v : Value), L[i]? = some (some v) → ls[i]? = some (Slot.val (am_tv X v))
def am_lv (X : am_X) (L : am_Lo) : List (Nat × Value) := (L.mapIdx (fun i o => o.map (fun v => (i, am_tv X v)))).filterMap id
theorem am_lv_mem {X : am_X} {L : am_Lo} {q : Nat × Value} : q ∈ am_lv X L ↔ ∃ v, L[q.1]? = some (some v) ∧ q.2 = am_tv X v := by
  unfold am_lv
  simp only [List.mem_filterMap, id]
  constructor
  · rintro ⟨o, ho, rfl⟩
    obtain ⟨i, hi⟩ := List.getElem?_of_mem ho
    simp only [List.getElem?_mapIdx] at hi
    cases hL : L[i]? with
    | none => rw [hL] at hi; cases hi
    | some o =>
      rw [hL] at hi
      cases o with
      | none => cases hi
      | some v => cases hi; exact ⟨v, hL, rfl⟩
  · rintro ⟨v, h1, h2⟩
    refine ⟨some q, List.mem_of_getElem? (i := q.1) ?_, rfl⟩
    simp only [List.getElem?_mapIdx, h1, Option.map_some, ← h2]
theorem am_LR.has {X : am_X} {L : am_Lo} {ls : Array Slot} {nL : Nat} (h : am_LR X L ls nL) : lv_has ls nL (am_lv X L) := by
  refine ⟨h.1, h.2.2.1, fun q hq => ?_⟩
  obtain ⟨v, h1, h2⟩ := am_lv_mem.mp hq
  rw [h2]
  exact h.2.2.2 _ _ h1
theorem am_LR.st1 {X : am_X} (hF : am_hF X) {L : am_Lo} {ls ls1 : Array Slot} {nL i : Nat} {v : Value} (h : am_LR X L ls nL) (h1 : lv_has ls1 nL ((i, am_tv X v) :: (am_lv X L).filter (fun q => !(q.1 == i) && !(q.1 + 1 == i && q.2.category == 2)))) : am_LR X (am_st1 L i v) ls1 nL := by
  refine ⟨h1.1, by rw [am_st1_len]; exact h.2.1, h1.2.1, fun j w hw => ?_⟩
  rw [am_st1_get] at hw
  by_cases e1 : j = i
  · subst e1
    rw [if_pos rfl] at hw
    split at hw
    · cases hw; exact h1.2.2 _ List.mem_cons_self
    · cases hw
  · rw [if_neg e1] at hw
    have key : L[j]? = some (some w) ∧ (j + 1 = i → w.category ≠ 2) := by
      by_cases e2 : j + 1 = i
      · rw [if_pos e2] at hw
        cases hL : L[j]? with
        | none => rw [hL] at hw; cases hw
        | some o =>
          rw [hL] at hw
          simp only [Option.map_some, Option.some.injEq] at hw
          cases o with
          | none => cases hw
          | some x => cases x <;> simp [am_clr] at hw <;> subst hw <;> exact ⟨rfl, fun _ => by simp [Value.category]⟩
      · rw [if_neg e2] at hw
        exact ⟨hw, fun e => absurd e e2⟩
    refine h1.2.2 (j, am_tv X w) (List.mem_cons_of_mem _ (List.mem_filter.mpr ⟨am_lv_mem.mpr ⟨w, key.1, rfl⟩, ?_⟩))
    simp only [am_tv_cat hF]
    by_cases e2 : j + 1 = i
    · simp [e1, key.2 e2]
    · simp [e1, e2]
theorem am_LR.st2 {X : am_X} (hF : am_hF X) {L : am_Lo} {ls ls1 : Array Slot} {nL i : Nat} {v : Value} (h : am_LR X L ls nL) (h1 : lv_has ls1 nL ((i, am_tv X v) :: (am_lv X L).filter (fun q => !(q.1 == i) && (!(q.1 == i + 1) && !(q.1 + 1 == i && q.2.category == 2))))) : am_LR X (am_st2 L i v) ls1 nL := by
  refine ⟨h1.1, by rw [am_st2_len]; exact h.2.1, h1.2.1, fun j w hw => ?_⟩
  rcases am_st2_get _ _ _ _ _ hw with ⟨rfl, rfl⟩ | ⟨e1, e2, e3, e4⟩
  · exact h1.2.2 _ List.mem_cons_self
  · refine h1.2.2 (j, am_tv X w) (List.mem_cons_of_mem _ (List.mem_filter.mpr ⟨am_lv_mem.mpr ⟨w, e3, rfl⟩, ?_⟩))
    simp only [am_tv_cat hF]
    by_cases e5 : j + 1 = i
    · simp [e1, e2, am_clr_cat (e4 e5)]
    · simp [e1, e2, e5]
