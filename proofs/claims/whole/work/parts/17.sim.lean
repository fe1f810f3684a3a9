/-! the flat machine's steps are the small machine's -/
def bm_okc (k : Nat) : am_C → Bool
  | .inl (t, (_, .inl _)) => t == 0 || t == 1 || t == 3
  | .inl (t, (_, .inr (.inl _))) => t == 2
  | .inl (_, (_, .inr (.inr (.inl _)))) => false
  | .inl (_, (_, .inr (.inr (.inr (.inl _))))) => false
  | .inl (t, (_, .inr (.inr (.inr (.inr _))))) => t == 4 || t == 5 || t == 6
  | .inr (ci, fs) => decide (ci < 13) && fs.length == (am_cn ci).2.2.1 && (List.range fs.length).all (fun b => match fs[b]? with
    | some (.int _) => bm_fk ci b == 0
    | some (.long _) => bm_fk ci b == 1
    | some v => bm_fk ci b == 2 && decide (bm_rf ci k b = v)
    | none => false)
set_option maxRecDepth 100000 in
theorem bm_lyok : (List.range 238).all (fun k => match bm_ly[k]? with | some c => bm_okc k c | none => false) = true := by decide +kernel
set_option maxRecDepth 100000 in
theorem bm_ly_len : bm_ly.length = 238 := rfl
theorem bm_ok_at {k : Nat} {c : am_C} (h : bm_ly[k]? = some c) : bm_okc k c = true := by
  have hk : k < 238 := by rw [← bm_ly_len]; exact (List.getElem?_eq_some_iff.mp h).1
  have h1 := List.all_eq_true.mp bm_lyok k (List.mem_range.mpr hk)
  rw [h] at h1
  exact h1
theorem bm_mk_get (σ : bm_S) (k : Nat) : (bm_mk σ)[k]? = (bm_ly[k]?).map (bm_fill σ k) := by simp [bm_mk]
theorem bm_tag_obj {k ci : Nat} (h : bm_tag k = 100 + ci) : ∃ fs, bm_ly[k]? = some (.inr (ci, fs)) := by
  unfold bm_tag at h
  split at h
  · next t x hm =>
    have := bm_ok_at hm
    obtain ⟨n, y | y | y | y | y⟩ := x <;> simp [bm_okc] at this <;> omega
  · next cj fs hm => have : cj = ci := by omega
                     subst this; exact ⟨fs, hm⟩
  · omega
theorem bm_fs_len {k ci : Nat} {fs : List Value} (h : bm_ly[k]? = some (.inr (ci, fs))) : ci < 13 ∧ fs.length = (am_cn ci).2.2.1 := by
  have := bm_ok_at h
  simp [bm_okc] at this
  exact ⟨this.1.1, this.1.2⟩
theorem bm_fs_at {k ci b : Nat} {fs : List Value} {v : Value} (h : bm_ly[k]? = some (.inr (ci, fs))) (hb : fs[b]? = some v) : (match v with | .int _ => bm_fk ci b = 0 | .long _ => bm_fk ci b = 1 | w => bm_fk ci b = 2 ∧ bm_rf ci k b = w) := by
  have h1 := bm_ok_at h
  simp only [bm_okc, Bool.and_eq_true] at h1
  have h2 := List.all_eq_true.mp h1.2 b (List.mem_range.mpr (List.getElem?_eq_some_iff.mp hb).1)
  rw [hb] at h2
  cases v <;> simp at h2 <;> first | exact h2 | exact h2
theorem bm_fk_lt {a b : Nat} (h : bm_fk a b < 3) : b < (am_df a).length := by
  unfold bm_fk at h
  rcases Nat.lt_or_ge b (am_df a).length with q | q
  · exact q
  · rw [List.getElem?_eq_none q] at h
    simp at h
theorem bm_df_len (a : Nat) : (am_df a).length = (am_cn a).2.2.1 := by simp [am_df]
/-- what a field of an object of the layout is -/
theorem bm_obj {σ : bm_S} {k a b : Nat} (h : bm_tag k = 100 + a) : ∃ fs, (bm_mk σ)[k]? = some (.inr (a, fs)) ∧ fs.length = (am_cn a).2.2.1 ∧ a < 13 ∧ (bm_fk a b = 0 → fs[b]? = some (.int (σ.1 k b))) ∧ (bm_fk a b = 1 → fs[b]? = some (.long (σ.2 k b))) ∧ (bm_fk a b = 2 → fs[b]? = some (bm_rf a k b)) := by
  obtain ⟨fs, hm⟩ := bm_tag_obj h
  obtain ⟨h13, hl⟩ := bm_fs_len hm
  refine ⟨_, by rw [bm_mk_get, hm]; rfl, by simp [hl], h13, ?_⟩
  have key : bm_fk a b < 3 → ∃ v, fs[b]? = some v := fun h3 => by
    have h4 := bm_fk_lt h3
    rw [bm_df_len, ← hl] at h4
    exact ⟨_, List.getElem?_eq_getElem h4⟩
  refine ⟨fun h0 => ?_, fun h0 => ?_, fun h0 => ?_⟩ <;>
  · obtain ⟨v, hv⟩ := key (by omega)
    have h5 := bm_fs_at hm hv
    rw [List.getElem?_mapIdx, hv]
    cases v <;> simp at h5 <;> first | omega | rfl | (simp [h5.2])
theorem bm_isO_eq (σ : bm_S) (k ci : Nat) : (am_isO (bm_mk σ) k ci = true) ↔ bm_tag k = 100 + ci := by
  constructor
  · intro h
    obtain ⟨fs, hm⟩ := am_isO_inv h
    rw [bm_mk_get] at hm
    cases hl : bm_ly[k]? with
    | none => rw [hl] at hm; cases hm
    | some c =>
      rw [hl] at hm
      simp only [Option.map_some, Option.some.injEq] at hm
      obtain ⟨t, n, y⟩ | ⟨cj, gs⟩ := c
      · obtain y | y | y := y <;> simp [bm_fill] at hm
      · simp [bm_fill] at hm
        simp [bm_tag, hl, hm.1]
  · intro h
    obtain ⟨fs, hm, -⟩ := bm_obj (σ := σ) (b := 0) h
    simp [am_isO, hm]
theorem bm_arr_i {σ : bm_S} {k t : Nat} (ht : t = 0 ∨ t = 1 ∨ t = 3) (h : bm_tag k = t) : (bm_mk σ)[k]? = some (.inl (t, (bm_len k, .inl (σ.1 k)))) ∧ ∃ f, bm_ly[k]? = some (.inl (t, (bm_len k, .inl f))) := by
  unfold bm_tag at h
  split at h
  · next t' x hm =>
    have hx := bm_ok_at hm
    obtain ⟨n, y | y | y | y | y⟩ := x <;> simp [bm_okc] at hx
    · subst h
      have hl : bm_len k = n := by simp [bm_len, hm]
      rw [hl]
      exact ⟨by rw [bm_mk_get, hm]; rfl, y, hm⟩
    all_goals omega
  · omega
  · omega
theorem bm_arr_l {σ : bm_S} {k : Nat} (h : bm_tag k = 2) : (bm_mk σ)[k]? = some (.inl (2, (bm_len k, .inr (.inl (σ.2 k))))) ∧ ∃ f, bm_ly[k]? = some (.inl (2, (bm_len k, .inr (.inl f)))) := by
  unfold bm_tag at h
  split at h
  · next t' x hm =>
    have hx := bm_ok_at hm
    obtain ⟨n, y | y | y | y | y⟩ := x <;> simp [bm_okc] at hx
    · omega
    · subst h
      have hl : bm_len k = n := by simp [bm_len, hm]
      rw [hl]
      exact ⟨by rw [bm_mk_get, hm]; rfl, y, hm⟩
    · omega
  · omega
  · omega
theorem bm_arr_q {σ : bm_S} {k t : Nat} (ht : t = 4 ∨ t = 5 ∨ t = 6) (h : bm_tag k = t) : (bm_mk σ)[k]? = some (.inl (t, (bm_len k, .inr (.inr (.inr (.inr (bm_rfa k))))))) := by
  unfold bm_tag at h
  split at h
  · next t' x hm =>
    have hx := bm_ok_at hm
    obtain ⟨n, y | y | y | y | y⟩ := x <;> simp [bm_okc] at hx
    · omega
    · omega
    · subst h
      have hl : bm_len k = n := by simp [bm_len, hm]
      have hf : bm_rfa k = y := by simp [bm_rfa, hm]
      rw [hl, hf, bm_mk_get, hm]; rfl
  · omega
  · omega
theorem bm_arr_any {σ : bm_S} {k : Nat} (h : bm_tag k < 7) : ∃ x, (bm_mk σ)[k]? = some (.inl (bm_tag k, (bm_len k, x))) := by
  unfold bm_tag at h
  split at h
  · next t x hm =>
    obtain ⟨n, y⟩ := x
    have h1 : bm_tag k = t := by simp [bm_tag, hm]
    have h2 : bm_len k = n := by simp [bm_len, hm]
    rw [h1, h2, bm_mk_get, hm]
    obtain y | y | y := y <;> exact ⟨_, rfl⟩
  · omega
  · omega
theorem bm_mk_row {σ : bm_S} {k t n : Nat} {f g : Nat → Int32} (h : bm_ly[k]? = some (.inl (t, (n, .inl f)))) : bm_mk (bm_row σ k g) = (bm_mk σ).set k (.inl (t, (n, .inl g))) := by
  apply List.ext_getElem?
  intro i
  rw [List.getElem?_set, bm_mk_get, bm_mk_get]
  have hk := (List.getElem?_eq_some_iff.mp h).1
  have hk2 : k < (bm_mk σ).length := by simp [bm_mk]; exact hk
  by_cases e : k = i
  · subst e
    simp [hk2, h, bm_fill, bm_row]
  · rw [if_neg e]
    cases hl : bm_ly[i]? with
    | none => rfl
    | some c =>
      simp only [Option.map_some, Option.some.injEq]
      have e2 : ¬ i = k := fun z => e z.symm
      obtain ⟨t, n, y⟩ | ⟨cj, gs⟩ := c
      · obtain y | y | y := y <;> simp [bm_fill, bm_row, e2]
      · simp [bm_fill, bm_row, e2]
theorem bm_mk_rowL {σ : bm_S} {k t n : Nat} {f g : Nat → Int64} (h : bm_ly[k]? = some (.inl (t, (n, .inr (.inl f))))) : bm_mk (bm_rowL σ k g) = (bm_mk σ).set k (.inl (t, (n, .inr (.inl g)))) := by
  apply List.ext_getElem?
  intro i
  rw [List.getElem?_set, bm_mk_get, bm_mk_get]
  have hk := (List.getElem?_eq_some_iff.mp h).1
  have hk2 : k < (bm_mk σ).length := by simp [bm_mk]; exact hk
  by_cases e : k = i
  · subst e
    simp [hk2, h, bm_fill, bm_rowL]
  · rw [if_neg e]
    cases hl : bm_ly[i]? with
    | none => rfl
    | some c =>
      simp only [Option.map_some, Option.some.injEq]
      have e2 : ¬ i = k := fun z => e z.symm
      obtain ⟨t, n, y⟩ | ⟨cj, gs⟩ := c
      · obtain y | y | y := y <;> simp [bm_fill, bm_rowL, e2]
      · simp [bm_fill, bm_rowL, e2]
theorem bm_mk_wi {σ : bm_S} {k a b : Nat} {x : Int32} (h : bm_tag k = 100 + a) (hb : bm_fk a b = 0) {fs : List Value} (hm : (bm_mk σ)[k]? = some (.inr (a, fs))) : bm_mk (bm_wi σ k b x) = (bm_mk σ).set k (.inr (a, fs.set b (.int x))) := by
  obtain ⟨gs, hg⟩ := bm_tag_obj h
  obtain ⟨h13, hl⟩ := bm_fs_len hg
  have hfs : fs = gs.mapIdx (fun j v => match v with | .int _ => .int (σ.1 k j) | .long _ => .long (σ.2 k j) | v => v) := by
    rw [bm_mk_get, hg] at hm
    simp [bm_fill] at hm
    exact hm.symm
  apply List.ext_getElem?
  intro i
  rw [List.getElem?_set, bm_mk_get, bm_mk_get]
  have hk := (List.getElem?_eq_some_iff.mp hg).1
  have hk2 : k < (bm_mk σ).length := by simp [bm_mk]; exact hk
  by_cases e : k = i
  · subst e
    simp only [if_true, hk2, hg, Option.map_some, Option.some.injEq, bm_fill, Sum.inr.injEq, Prod.mk.injEq, true_and]
    rw [hfs]
    apply List.ext_getElem?
    intro j
    rw [List.getElem?_set, List.getElem?_mapIdx, List.getElem?_mapIdx]
    by_cases ej : b = j
    · subst ej
      cases hv : gs[b]? with
      | none =>
        have h3 := bm_fk_lt (a := a) (b := b) (by omega)
        rw [bm_df_len, ← hl] at h3
        rw [List.getElem?_eq_getElem h3] at hv
        cases hv
      | some v =>
        have h5 := bm_fs_at hg hv
        have hbl : b < gs.length := (List.getElem?_eq_some_iff.mp hv).1
        cases v <;> simp at h5 <;> first | omega | simp [hbl, bm_wi, bm_row, upd]
    · have ej2 : ¬ j = b := fun z => ej z.symm
      rw [if_neg ej]
      cases gs[j]? with
      | none => rfl
      | some v => cases v <;> simp [bm_wi, bm_row, upd, ej2]
  · rw [if_neg e]
    cases hl : bm_ly[i]? with
    | none => rfl
    | some c =>
      simp only [Option.map_some, Option.some.injEq]
      have e2 : ¬ i = k := fun z => e z.symm
      obtain ⟨t, n, y⟩ | ⟨cj, gs⟩ := c
      · obtain y | y | y := y <;> simp [bm_fill, bm_wi, bm_row, e2]
      · simp [bm_fill, bm_wi, bm_row, e2]
theorem bm_mk_wl {σ : bm_S} {k a b : Nat} {x : Int64} (h : bm_tag k = 100 + a) (hb : bm_fk a b = 1) {fs : List Value} (hm : (bm_mk σ)[k]? = some (.inr (a, fs))) : bm_mk (bm_wl σ k b x) = (bm_mk σ).set k (.inr (a, fs.set b (.long x))) := by
  obtain ⟨gs, hg⟩ := bm_tag_obj h
  obtain ⟨h13, hl⟩ := bm_fs_len hg
  have hfs : fs = gs.mapIdx (fun j v => match v with | .int _ => .int (σ.1 k j) | .long _ => .long (σ.2 k j) | v => v) := by
    rw [bm_mk_get, hg] at hm
    simp [bm_fill] at hm
    exact hm.symm
  apply List.ext_getElem?
  intro i
  rw [List.getElem?_set, bm_mk_get, bm_mk_get]
  have hk := (List.getElem?_eq_some_iff.mp hg).1
  have hk2 : k < (bm_mk σ).length := by simp [bm_mk]; exact hk
  by_cases e : k = i
  · subst e
    simp only [if_true, hk2, hg, Option.map_some, Option.some.injEq, bm_fill, Sum.inr.injEq, Prod.mk.injEq, true_and]
    rw [hfs]
    apply List.ext_getElem?
    intro j
    rw [List.getElem?_set, List.getElem?_mapIdx, List.getElem?_mapIdx]
    by_cases ej : b = j
    · subst ej
      cases hv : gs[b]? with
      | none =>
        have h3 := bm_fk_lt (a := a) (b := b) (by omega)
        rw [bm_df_len, ← hl] at h3
        rw [List.getElem?_eq_getElem h3] at hv
        cases hv
      | some v =>
        have h5 := bm_fs_at hg hv
        have hbl : b < gs.length := (List.getElem?_eq_some_iff.mp hv).1
        cases v <;> simp at h5 <;> first | omega | simp [hbl, bm_wl, bm_rowL, vp_updL]
    · have ej2 : ¬ j = b := fun z => ej z.symm
      rw [if_neg ej]
      cases gs[j]? with
      | none => rfl
      | some v => cases v <;> simp [bm_wl, bm_rowL, vp_updL, ej2]
  · rw [if_neg e]
    cases hl : bm_ly[i]? with
    | none => rfl
    | some c =>
      simp only [Option.map_some, Option.some.injEq]
      have e2 : ¬ i = k := fun z => e z.symm
      obtain ⟨t, n, y⟩ | ⟨cj, gs⟩ := c
      · obtain y | y | y := y <;> simp [bm_fill, bm_wl, bm_rowL, e2]
      · simp [bm_fill, bm_wl, bm_rowL, e2]
