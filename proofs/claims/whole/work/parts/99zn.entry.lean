/-! the law's entry: what the Statement gives of the start, as the small machine wants it -/
section ENTRY
variable {s : State} {b L : Nat} {xs : Nat → Int32} {args : Array Value}
theorem nt_arrP {ty : FieldType} (hp : ty = .int ∨ ty = .byte ∨ ty = .long ∨ ty = .boolean) (h : (Cond.arrayClass ty).before args s = true) : ∃ cA : ClassId, ArrOfT s cA ty ∧ va_RA s cA ty := by
  obtain ⟨c, k, comp, h1, h2, h3⟩ := Cond.arrayClass_spec h
  refine ⟨c, fun n z => ⟨(fun k h => by cases h), k, h2, comp, h3⟩, ?_⟩
  rcases hp with rfl | rfl | rfl | rfl <;> exact h1
theorem nt_arrO {C : String} (h : (Cond.arrayOver (.object C)).before args s = true) : ∃ cA : ClassId, ArrOfT s cA (.object C) ∧ va_RA s cA (.object C) := by
  obtain ⟨comp, c, k, h1, h2, h3, h4, h5⟩ := Cond.arrayOver_spec h
  exact ⟨c, fun n z => ⟨(fun k h => by cases h), k, h3, comp, h4⟩, k, comp, h3, h4, h1, h5⟩
theorem nt_inst : ∀ ci, ci < 13 → Cond.instantiable (am_cn ci).1 (am_cn ci).2.2.1 ∈ lw_tbl := fun ci h => match ci, h with
  | 0, _ => List.mem_of_getElem? (i := 144) (by decide +kernel)
  | 1, _ => List.mem_of_getElem? (i := 349) (by decide +kernel)
  | 2, _ => List.mem_of_getElem? (i := 430) (by decide +kernel)
  | 3, _ => List.mem_of_getElem? (i := 386) (by decide +kernel)
  | 4, _ => List.mem_of_getElem? (i := 459) (by decide +kernel)
  | 5, _ => List.mem_of_getElem? (i := 364) (by decide +kernel)
  | 6, _ => List.mem_of_getElem? (i := 325) (by decide +kernel)
  | 7, _ => List.mem_of_getElem? (i := 274) (by decide +kernel)
  | 8, _ => List.mem_of_getElem? (i := 404) (by decide +kernel)
  | 9, _ => List.mem_of_getElem? (i := 480) (by decide +kernel)
  | 10, _ => List.mem_of_getElem? (i := 191) (by decide +kernel)
  | 11, _ => List.mem_of_getElem? (i := 136) (by decide +kernel)
  | 12, _ => List.mem_of_getElem? (i := 1383) (by decide +kernel)
  | n + 13, h => absurd h (by omega)
theorem nt_known (hts : ∀ w ∈ lw_tbl, w.before args s = true) : ∃ D : va_G, ∀ (c : Nat) (q : vw_C), am_vcl[c]? = some q → u_Kn s q.1 q.2.1 q.2.2 (D.1 c) (D.2 c) := by
  have h0 : ∀ c : Nat, ∃ q : ClassId × (Nat → Nat), c < 13 → u_Kn s (am_cn c).1 (am_cn c).2.1 (am_cn c).2.2.1 q.1 q.2 := by
    intro c
    by_cases hc : c < 13
    · obtain ⟨cC, iS, h⟩ := u_known (C := (am_cn c).1) (T := (am_cn c).2.1) (N := (am_cn c).2.2.1) hts (am_uws c hc) (hts _ (nt_inst c hc))
      exact ⟨(cC, iS), fun _ => h⟩
    · exact ⟨(0, fun _ => 0), fun h => absurd h hc⟩
  obtain ⟨f, hf⟩ := Classical.axiomOfChoice h0
  refine ⟨(fun c => (f c).1, fun c => (f c).2), fun c q hq => ?_⟩
  have hc : c < 13 := (List.getElem?_eq_some_iff.mp hq).1
  cases (am_vcl_get hc).symm.trans hq
  exact hf c hc
theorem nt_arrs (hts : ∀ w ∈ lw_tbl, w.before args s = true) : ∃ tC : Nat → ClassId, ∀ (k : Nat) (q : ClassId × FieldType), ([(tC 0, .int), (tC 1, .byte), (tC 2, .long), (tC 3, .boolean), (tC 4, .object RX10), (tC 5, .object RX4), (tC 6, .object RX9)] : List (ClassId × FieldType))[k]? = some q → ArrOfT s q.1 q.2 ∧ va_RA s q.1 q.2 := by
  obtain ⟨c0, h0⟩ := nt_arrP (ty := .int) (Or.inl rfl) (hts (.arrayClass .int) (List.mem_of_getElem? (i := 189) (by decide +kernel)))
  obtain ⟨c1, h1⟩ := nt_arrP (ty := .byte) (Or.inr (Or.inl rfl)) (hts (.arrayClass .byte) (List.mem_of_getElem? (i := 188) (by decide +kernel)))
  obtain ⟨c2, h2⟩ := nt_arrP (ty := .long) (Or.inr (Or.inr (Or.inl rfl))) (hts (.arrayClass .long) (List.mem_of_getElem? (i := 497) (by decide +kernel)))
  obtain ⟨c3, h3⟩ := nt_arrP (ty := .boolean) (Or.inr (Or.inr (Or.inr rfl))) (hts (.arrayClass .boolean) (List.mem_of_getElem? (i := 1506) (by decide +kernel)))
  obtain ⟨c4, h4⟩ := nt_arrO (C := RX10) (hts (.arrayOver (.object RX10)) (List.mem_of_getElem? (i := 331) (by decide +kernel)))
  obtain ⟨c5, h5⟩ := nt_arrO (C := RX4) (hts (.arrayOver (.object RX4)) (List.mem_of_getElem? (i := 345) (by decide +kernel)))
  obtain ⟨c6, h6⟩ := nt_arrO (C := RX9) (hts (.arrayOver (.object RX9)) (List.mem_of_getElem? (i := 347) (by decide +kernel)))
  refine ⟨fun k => match k with
    | 0 => c0
    | 1 => c1
    | 2 => c2
    | 3 => c3
    | 4 => c4
    | 5 => c5
    | _ => c6, fun k q hq => ?_⟩
  match k, hq with
  | 0, hq => cases hq; exact h0
  | 1, hq => cases hq; exact h1
  | 2, hq => cases hq; exact h2
  | 3, hq => cases hq; exact h3
  | 4, hq => cases hq; exact h4
  | 5, hq => cases hq; exact h5
  | 6, hq => cases hq; exact h6
  | k + 7, hq => simp at hq
/-! the four constant texts -/
def nt_all : List Cond := flatC (Jvm.Cond.and given_1 narrow_1)
def nt_tm (i : Nat) : Term := .string (am_so i) (am_si i)
def nt_vl (i : Nat) : Term := .field (nt_tm i) "java/lang/String" "value" "[B"
def nt_st (i : Nat) : List Cond := [.exactly (nt_tm i) "java/lang/String", .eq (.field (nt_tm i) "java/lang/String" "coder" "B") (.int 0), .arrayOf (nt_vl i) .byte, .eq (.length (nt_vl i)) (.int (Int32.ofNat (am_lens.getD i 0)))] ++ (List.range (am_lens.getD i 0)).map (fun j => .eq (.elem (nt_vl i) (.int (Int32.ofNat j))) (.int ((am_by.getD i []).getD j 0)))
theorem nt_cut {l : List Cond} {k n : Nat} (h : (nt_all.drop k).take n = l) : ∀ w ∈ l, w ∈ nt_all := by
  intro w hw
  rw [← h] at hw
  exact List.mem_of_mem_drop (List.mem_of_mem_take hw)
theorem nt_st_in : ∀ i, i < 4 → ∀ w ∈ nt_st i, w ∈ nt_all := fun i h => match i, h with
  | 0, _ => nt_cut (k := 48) (n := 16) (by decide +kernel)
  | 1, _ => nt_cut (k := 64) (n := 101) (by decide +kernel)
  | 2, _ => nt_cut (k := 166) (n := 101) (by decide +kernel)
  | 3, _ => nt_cut (k := 269) (n := 16) (by decide +kernel)
  | n + 4, h => absurd h (by omega)
theorem nt_sref : ∀ i, i < 4 → Cond.stringRef (am_so i) (am_si i) (am_tx i) ∈ lw_tbl := fun i h => match i, h with
  | 0, _ => List.mem_of_getElem? (i := 573) (by decide +kernel)
  | 1, _ => List.mem_of_getElem? (i := 661) (by decide +kernel)
  | 2, _ => List.mem_of_getElem? (i := 1533) (by decide +kernel)
  | 3, _ => List.mem_of_getElem? (i := 1539) (by decide +kernel)
  | n + 4, h => absurd h (by omega)
theorem nt_len : ∀ i, i < 4 → am_lens.getD i 0 < 2 ^ 31 := by decide
theorem nt_str (hts : ∀ w ∈ lw_tbl, w.before args s = true) (hs : ∀ w ∈ nt_all, w.before args s = true) {A : Nat → Prop} (hA : ∀ a : Nat, a < s.heap.size → ¬ A a) (i : Nat) (hi : i < 4) : ∃ q : Nat × Nat, vk_S 1 [am_lens.getD i 0] [am_by.getD i []] (fun _ => q.1) (fun _ => q.2) A s s.heap ∧ vk_R (am_so i) (am_si i) (am_tx i) q.1 s := by
  have hw : ∀ w ∈ nt_st i, w.before args s = true := fun w h => hs w (nt_st_in i hi w h)
  have z : ∀ j : Nat, j < 1 → j = 0 := fun j h => by omega
  obtain ⟨adK, adV, h1, h2⟩ := vk_Sof (args := args) (s := s) (N := 1) (tm := fun _ => nt_tm i) (len := [am_lens.getD i 0]) (byt := [am_by.getD i []]) (A := A)
    (fun j hj => by rw [z j hj]; exact nt_len i hi)
    (fun j _ => hw _ (List.mem_append_left _ List.mem_cons_self))
    (fun j _ => hw _ (List.mem_append_left _ (List.mem_cons_of_mem _ List.mem_cons_self)))
    (fun j _ => hw _ (List.mem_append_left _ (List.mem_cons_of_mem _ (List.mem_cons_of_mem _ List.mem_cons_self))))
    (fun j hj => by rw [z j hj]; exact hw _ (List.mem_append_left _ (List.mem_cons_of_mem _ (List.mem_cons_of_mem _ (List.mem_cons_of_mem _ List.mem_cons_self)))))
    (fun j hj k hk => by
      rw [z j hj] at hk ⊢
      exact hw _ (List.mem_append_right _ (List.mem_map.mpr ⟨k, List.mem_range.mpr hk, rfl⟩)))
    (fun j k hj hk h => absurd ((z j hj).trans (z k hk).symm) h) hA
  refine ⟨(adK 0, adV 0), ⟨fun j hj => ?_, fun j k hj hk _ => (z j hj).trans (z k hk).symm⟩, vk_R.of (hts _ (nt_sref i hi)) (h2 0 (by omega))⟩
  rw [z j hj]
  exact h1.1 0 (by omega)
theorem nt_K (hts : ∀ w ∈ lw_tbl, w.before args s = true) (hgv : (Jvm.Cond.and given_1 narrow_1).before args s = true) (hX : va_X b L xs s s.heap) (hbl : b < s.heap.size) : ∃ X : am_X, xh X = s.heap.size ∧ xb X = b ∧ xS X = (L, xs) ∧ am_K X s s.heap := by
  have hs : ∀ w ∈ nt_all, w.before args s = true := flat_of_before _ hgv
  have hA : ∀ a : Nat, a < s.heap.size → ¬ (fun q : Nat => s.heap.size ≤ q) a := fun a h => Nat.not_le.mpr h
  obtain ⟨D, hD⟩ := nt_known hts
  obtain ⟨tC, hC⟩ := nt_arrs hts
  have h0 : ∀ i : Nat, ∃ q : Nat × Nat, i < 4 → vk_S 1 [am_lens.getD i 0] [am_by.getD i []] (fun _ => q.1) (fun _ => q.2) (fun q : Nat => s.heap.size ≤ q) s s.heap ∧ vk_R (am_so i) (am_si i) (am_tx i) q.1 s := by
    intro i
    by_cases hi : i < 4
    · obtain ⟨q, h⟩ := nt_str hts hs hA i hi
      exact ⟨q, fun _ => h⟩
    · exact ⟨(0, 0), fun h => absurd h hi⟩
  obtain ⟨f, hf⟩ := Classical.axiomOfChoice h0
  have hq : va_Zq "jdk/internal/util/Preconditions" "SIOOBE_FORMATTER" "Ljava/util/function/BiFunction;" (fun q : Nat => s.heap.size ≤ q) s s.heap := va_Zqof (hts _ (List.mem_of_getElem? (i := 628) (by decide +kernel))) (hts _ (List.mem_of_getElem? (i := 131) (by decide +kernel))) (hs _ (List.mem_of_getElem? (i := 5) (by decide +kernel))) hA
  obtain ⟨v, hv, hZ⟩ : ∃ v : Value, (v = .null ∨ ∃ t, v = .ref t) ∧ va_Z "jdk/internal/util/Preconditions" "SIOOBE_FORMATTER" "Ljava/util/function/BiFunction;" v (fun q : Nat => s.heap.size ≤ q) s s.heap := by
    rcases hq with h | ⟨t, h⟩
    · exact ⟨_, Or.inl rfl, h⟩
    · exact ⟨_, Or.inr ⟨t, rfl⟩, h⟩
  have hc : va_Z "java/lang/String" "COMPACT_STRINGS" "Z" (.int 1) (fun q : Nat => s.heap.size ≤ q) s s.heap := va_Zof (hts _ (List.mem_of_getElem? (i := 587) (by decide +kernel))) (hts _ (List.mem_of_getElem? (i := 128) (by decide +kernel))) (va_eqi (hs _ (List.mem_of_getElem? (i := 4) (by decide +kernel)))) hA
  exact ⟨(s.heap.size, tC, fun i => (f i).1, fun i => (f i).2, b, v, D, (L, xs)), rfl, rfl, rfl, ⟨hD, hC⟩, hX, hbl, fun i hi => (hf i hi).1, fun i hi => (hf i hi).2, hc, hZ, hv, Nat.le_refl _, fun w hw => am_nw_of (List.mem_filter.mp hw).2 (hts w (List.mem_filter.mp hw).1)⟩
end ENTRY
/-! the room that the law takes -/
theorem nt_fill (σ : bm_S) (k : Nat) (c : am_C) : am_cs (bm_fill σ k c) = am_cs c := by
  unfold bm_fill
  split <;> simp [am_cs]
theorem nt_mklen (σ : bm_S) : (bm_mk σ).length = 238 := by simp [bm_mk, bm_ly_len]
theorem nt_mkmap (σ : bm_S) : (bm_mk σ).map am_cs = bm_ly.map am_cs := by
  apply List.ext_getElem?
  intro i
  rw [List.getElem?_map, bm_mk_get, List.getElem?_map, Option.map_map]
  cases bm_ly[i]? with
  | none => rfl
  | some c => simp [nt_fill]
theorem nt_mksz (σ : bm_S) : am_sz (bm_mk σ) = am_sz bm_ly := by
  unfold am_sz
  rw [nt_mkmap]
theorem nt_room : am_sz bm_ly ≤ 7302250 := Nat.le_of_ble_eq_true (by decide +kernel)
