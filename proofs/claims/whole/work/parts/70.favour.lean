/-- one with more cash -/
def wiB (B : Nat → Int32) (m : Nat) (x : Int32) : Nat → Int32 := upd B (26 + m) (mn (B (26 + m) + x))
theorem OKB.wi {M L : Nat} {B : Nat → Int32} (h : OKB M L B) {m k : Nat} (hm : m < M) (hk : k ≤ 9999) : GA M L (wiB B m (nI k)) ∧ wiB B m (nI k) 3 = nI M ∧ wiB B m (nI k) 25 = nI L := by
  obtain ⟨y, hy, ey⟩ := h.1.1.2.2.2 m hm
  unfold wiB
  rw [ey, nI_add, upd_n _ _ (show 3 ≠ 26 + m by omega), upd_n _ _ (show 25 ≠ 26 + m by omega)]
  obtain ⟨v, hv, ev⟩ := mn_le (y + k) (by omega)
  rw [ev]
  exact ⟨h.1.cash h.2.2.2.1.1 h.2.2.2.1.2.1 hm hv, h.2.2.2.1.2.2.1, h.2.2.2.1.2.2.2⟩
section FAVOUR
variable {S : am_S} {d : Nat} {σ : bm_S} {M L : Nat}
theorem m257 {B : Nat → Int32} (hB : σ.1 219 = B) (hok : OKB M L B) {m : Nat} (hm : m < M) {k : Nat} (hk : k ≤ 9999) (n : Nat) (hn : n < 2147483648) : ∃ σ1, bm_call S (d + 8) 257 [.ref 218, .int (nI m), .int (nI k), .int (nI n)] σ = some (some (.int (goB M L (wiB B m (nI k)) n 24)), σ1) ∧ Fu σ σ1 := by
  have hM := hok.2.2.2.1.1
  have hL := hok.2.2.2.1.2.1
  have ok2 := hok.wi hm hk
  have r7 : (bm_row σ 219 (wiB B m (nI k))).1 219 = wiB B m (nI k) := row_row1 _ _ _
  obtain ⟨σ1, e1, f1⟩ := m251 (S := S) (d := d) (σ := bm_row σ 219 (wiB B m (nI k))) ⟨⟨hM, hL⟩, by rw [r7]; exact ok2.2.1, by rw [r7]; exact ok2.2.2⟩ (by rw [r7]; exact ok2.1) n hn
  rw [r7] at e1
  have b1 : σ1.1 219 = wiB B m (nI k) := (f1.1 219 (by decide) (by decide)).trans r7
  have back : upd (wiB B m (nI k)) (26 + m) (B (26 + m)) = B := by
    funext i
    unfold wiB
    rw [upd_upd]
    by_cases e : i = 26 + m
    · subst e; rw [upd_s]
    · rw [upd_n _ _ e]
  refine ⟨bm_wi σ1 219 (26 + m) (B (26 + m)), ?_, ?_⟩
  · have e9 : bm_wi σ 219 (26 + m) (mn (B (26 + m) + nI k)) = bm_row σ 219 (wiB B m (nI k)) := by rw [bm_wi_def, hB]; rfl
    have em : ∀ x : Int32, mn x = if x ≤ 999999 then x else 999999 := fun _ => rfl
    rw [← e9, em] at e1
    by_cases q : B (26 + m) + nI k ≤ 999999
    · rw [if_pos q] at e1
      simp (disch := omega) only [bm_run_ite, Option.toList_some, Option.bind_some, Option.toList_some, Option.toList_none, List.cons_append, List.nil_append, List.append_nil, eq_self, not_true_eq_false, not_false_eq_true, ite_true, ite_false, ↓reduceIte, Nat.reduceLT, Nat.reduceEqDiff, Nat.reduceAdd, or_true, true_or, or_false, false_or, nI_clamp2, nI_lt0F, nI_leT, nI_leF, nI_ltT, nI_ltF, n_leF, n_leT, nI_1, kA6, kA8, kA10, kA22, kA26, kA32, kA44, kA56, kA68, kA80, kA93, kA163, kA794, not_or, or_self, and_self, and_true, true_and, e257, g257_0, g257_29, g257_35, g257_39, g257_45, hB, q, e1]
    · rw [if_neg q] at e1
      simp (disch := omega) only [bm_run_ite, Option.toList_some, Option.bind_some, Option.toList_some, Option.toList_none, List.cons_append, List.nil_append, List.append_nil, eq_self, not_true_eq_false, not_false_eq_true, ite_true, ite_false, ↓reduceIte, Nat.reduceLT, Nat.reduceEqDiff, Nat.reduceAdd, or_true, true_or, or_false, false_or, nI_clamp2, nI_lt0F, nI_leT, nI_leF, nI_ltT, nI_ltF, n_leF, n_leT, nI_1, kA6, kA8, kA10, kA22, kA26, kA32, kA44, kA56, kA68, kA80, kA93, kA163, kA794, not_or, or_self, and_self, and_true, true_and, e257, g257_0, g257_29, g257_35, g257_39, g257_45, hB, q, e1]
  · refine ⟨fun a h1 h2 => ?_, fun c hc => ?_, f1.2.2⟩
    · by_cases e : a = 219
      · subst e; rw [wi_s, b1, back, hB]
      · rw [wi_n _ e, f1.1 a h1 h2, bm_row_1n _ _ e]
    · rw [wi_n _ (by decide), f1.2.1 c hc, bm_row_1n _ _ (by decide)]
def faF (M L : Nat) (B : Nat → Int32) (x : Int32) (n : Nat) : Nat → Int32 × Int32
  | 0 => (Int32.ofInt (-1), bcF (goB M L B n 24))
  | m + 1 => if tb (B 24) m = true then faF M L B x n m else if bcF (goB M L (wiB B m x) n 24) < (faF M L B x n m).2 then (nI m, bcF (goB M L (wiB B m x) n 24)) else faF M L B x n m
theorem bc12 {x : Int32} (h : ∀ k, 6 ≤ k → k < 32 → tb x k = false) : bcF x ≤ 12 := by
  obtain ⟨b, hb, rfl⟩ := small_bits h
  clear h
  revert b
  decide +kernel
theorem faF_le {M L : Nat} {B : Nat → Int32} (hok : OKB M L B) {x n : Nat} (hx : x ≤ 9999) : ∀ m, m ≤ M → (faF M L B (nI x) n m).2 ≤ 12 := by
  have hM := hok.2.2.2.1.1
  have hL := hok.2.2.2.1.2.1
  intro m
  induction m with
  | zero => intro _; exact bc12 (fun k h1 h2 => (goB_GA hM hL hok.1 n).2.2 k (by omega) h2)
  | succ m ih =>
    intro hm
    rw [faF]
    split
    · exact ih (by omega)
    · split
      · exact bc12 (fun k h1 h2 => (goB_GA hM hL (hok.wi (by omega) hx).1 n).2.2 k (by omega) h2)
      · exact ih (by omega)
end FAVOUR
