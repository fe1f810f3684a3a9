section CLIN4
variable {S : am_S} {d : Nat} {σ : bm_S} {T : Nat → Int32} {n K : Nat} {R : Nat → Int32} {C : List Int32}
theorem add_sub_b (a b : Int32) : a + (b - a) = b := by rw [Int32.add_comm, Int32.sub_add_cancel]
theorem c59 (hK : tkK (qN T n) K) (hKn : K ≤ 900) (hv : ∀ i, i ≤ K → qN T n i = 20 → trI (vN T n i) = vN T n i) {i : Nat} (time : Bool) (hi : i < K) (hC : C.length ≤ i) (c : ClT T n K i σ) (cc : ClC C σ) (w : CWR R σ) : ∃ b σ1, bm_call S (d + 71) 59 [.ref 25, .int (bI time)] σ = some (some (.int b), σ1) ∧ Fln σ σ1 ∧ LCO T n K (lwz time (qN T n) (vN T n) K i R C) b σ1 := by
  obtain ⟨σ1, f1, w1, h⟩ := c59r (S := S) (d := d) hK hKn hv time hi hC c cc w
  rcases h with ⟨e, e1, k1, x1⟩ | ⟨j, C2, e1, k1, x1, x2⟩
  · rw [e1]
    exact ⟨0, σ1, k1, f1, rfl, x1⟩
  · rw [e1]
    obtain ⟨M2, L, ⟨a1, a2, a3, a4⟩, ⟨b1, b2, b3, b4, b5⟩, g1, g2, g3, g4, g5, g6, g7⟩ := w1
    have t100 := t26.1
    have c4 : σ1.1 26 4 = nI C2.length := x2.1
    -- the two places that tell the law
    have main : ∀ (p t : Nat), (p = 5 ∧ t = 0) ∨ (p = 7 ∧ t = 1) → bm_call S (d + 71) 59 [.ref 25, .int (bI time)] σ = some (some (.int 1), bm_wi (bm_wi σ1 26 p (nI C.length)) 26 (p + 1) (nI C2.length)) → (if time = true then 1 else 0 : Nat) = t → ∃ b σ1, bm_call S (d + 71) 59 [.ref 25, .int (bI time)] σ = some (some (.int b), σ1) ∧ Fln σ σ1 ∧ LCO T n K (Sum.inl (j, upd (upd (upd R (4 + (if time = true then 1 else 0)) 1) (6 + (if time = true then 1 else 0)) (nI C.length)) (8 + (if time = true then 1 else 0)) (nI C2.length - nI C.length), C2)) b σ1 := by
      intro p t hp run ht
      rw [ht]
      have sn : ∀ a, a ≠ 26 → (bm_wi (bm_wi σ1 26 p (nI C.length)) 26 (p + 1) (nI C2.length)).1 a = σ1.1 a := fun a h1 => by rw [wi_n _ h1, wi_n _ h1]
      have s6 : ∀ k, k ≠ p → k ≠ p + 1 → (bm_wi (bm_wi σ1 26 p (nI C.length)) 26 (p + 1) (nI C2.length)).1 26 k = σ1.1 26 k := fun k h1 h2 => by rw [wi_s, upd_n _ _ h2, wi_s, upd_n _ _ h1]
      have sp : (bm_wi (bm_wi σ1 26 p (nI C.length)) 26 (p + 1) (nI C2.length)).1 26 p = nI C.length := by rw [wi_s, upd_n _ _ (by omega), wi_s, upd_s]
      have sq : (bm_wi (bm_wi σ1 26 p (nI C.length)) 26 (p + 1) (nI C2.length)).1 26 (p + 1) = nI C2.length := by rw [wi_s, upd_s]
      have rn : ∀ k, k ≠ 4 + t → k ≠ 6 + t → k ≠ 8 + t → upd (upd (upd R (4 + t) 1) (6 + t) (nI C.length)) (8 + t) (nI C2.length - nI C.length) k = R k := fun k h1 h2 h3 => by rw [upd_n _ _ h3, upd_n _ _ h2, upd_n _ _ h1]
      have r4 : upd (upd (upd R (4 + t) 1) (6 + t) (nI C.length)) (8 + t) (nI C2.length - nI C.length) (4 + t) = 1 := by rw [upd_n _ _ (by omega), upd_n _ _ (by omega), upd_s]
      have r6 : upd (upd (upd R (4 + t) 1) (6 + t) (nI C.length)) (8 + t) (nI C2.length - nI C.length) (6 + t) = nI C.length := by rw [upd_n _ _ (by omega), upd_s]
      have r8 : upd (upd (upd R (4 + t) 1) (6 + t) (nI C.length)) (8 + t) (nI C2.length - nI C.length) (8 + t) = nI C2.length - nI C.length := upd_s _ _ _
      refine ⟨1, _, run, (f1.wi (by omega) _ _).wi (by omega) _ _, rfl, ⟨TAx_w x1.1 (fun b _ => by rw [sn 25 (by decide)]) (fun a ha => sn a (by omega)), by rw [sn 25 (by decide)]; exact x1.2.1, by rw [sn 25 (by decide)]; exact x1.2.2⟩, ⟨by rw [s6 4 (by omega) (by omega)]; exact c4, fun m hm => by rw [sn 27 (by decide)]; exact x2.2 m hm⟩, M2, L, ⟨a1, a2, by rw [rn 3 (by omega) (by omega) (by omega)]; exact a3, by rw [rn 25 (by omega) (by omega) (by omega)]; exact a4⟩, ⟨by rw [sn 29 (by decide)]; exact b1, by rw [sn 29 (by decide)]; exact b2, by rw [sn 29 (by decide)]; exact b3, by rw [sn 29 (by decide), rn 22 (by omega) (by omega) (by omega)]; exact b4, by rw [sn 29 (by decide)]; exact b5⟩, fun m hm => by rw [sn 30 (by decide), rn _ (by omega) (by omega) (by omega)]; exact g1 m hm, fun l hl => by rw [sn 31 (by decide), sn 32 (by decide), sn 33 (by decide), sn 34 (by decide), sn 35 (by decide), sn 36 (by decide), rn _ (by omega) (by omega) (by omega), rn _ (by omega) (by omega) (by omega), rn _ (by omega) (by omega) (by omega), rn _ (by omega) (by omega) (by omega), rn _ (by omega) (by omega) (by omega), rn _ (by omega) (by omega) (by omega)]; exact g2 l hl, ?_, ?_, ?_, ?_, ?_⟩
      · rw [s6 0 (by omega) (by omega), s6 1 (by omega) (by omega), s6 2 (by omega) (by omega), rn 1 (by omega) (by omega) (by omega), rn 2 (by omega) (by omega) (by omega), rn 0 (by omega) (by omega) (by omega)]; exact g3
      · rcases hp with ⟨rfl, rfl⟩ | ⟨rfl, rfl⟩
        · intro z; rw [show (4 : Nat) = 4 + 0 from rfl, r4] at z; exact absurd z (by decide)
        · rw [rn 4 (by omega) (by omega) (by omega), s6 5 (by omega) (by omega), s6 6 (by omega) (by omega)]; exact g4
      · rcases hp with ⟨rfl, rfl⟩ | ⟨rfl, rfl⟩
        · intro _
          refine ⟨sp.trans r6.symm, ?_⟩
          rw [show (6 : Nat) = 6 + 0 from rfl, show (8 : Nat) = 8 + 0 from rfl, r6, r8, add_sub_b]
          exact sq
        · rw [rn 4 (by omega) (by omega) (by omega), rn 6 (by omega) (by omega) (by omega), rn 8 (by omega) (by omega) (by omega), s6 5 (by omega) (by omega), s6 6 (by omega) (by omega)]; exact g5
      · rcases hp with ⟨rfl, rfl⟩ | ⟨rfl, rfl⟩
        · rw [rn 5 (by omega) (by omega) (by omega), s6 7 (by omega) (by omega), s6 8 (by omega) (by omega)]; exact g6
        · intro z; rw [show (5 : Nat) = 4 + 1 from rfl, r4] at z; exact absurd z (by decide)
      · rcases hp with ⟨rfl, rfl⟩ | ⟨rfl, rfl⟩
        · rw [rn 5 (by omega) (by omega) (by omega), rn 7 (by omega) (by omega) (by omega), rn 9 (by omega) (by omega) (by omega), s6 7 (by omega) (by omega), s6 8 (by omega) (by omega)]; exact g7
        · intro _
          refine ⟨sp.trans r6.symm, ?_⟩
          rw [show (7 : Nat) = 6 + 1 from rfl, show (9 : Nat) = 8 + 1 from rfl, r6, r8, add_sub_b]
          exact sq
    have u4 : ∀ p, p ≠ 4 → (bm_wi σ1 26 p (nI C.length)).1 26 4 = nI C2.length := fun p hp => by rw [wi_s, upd_n _ _ (by omega)]; exact c4
    cases time
    · refine main 5 0 (by omega) (k1.trans ?_) rfl
      show bm_run S (d + 71) 59 47 [some (.ref 25), some (.int 0), some (.int (nI C.length))] [] σ1 = _
      rw [g59_47]
      simp (decide := true) only [bm_run_ite, Option.toList_some, Option.bind_some, Option.toList_some, Option.toList_none, List.cons_append, List.nil_append, List.append_nil, eq_self, not_true_eq_false, not_false_eq_true, ite_true, ite_false, ↓reduceIte, Nat.reduceLT, Nat.reduceEqDiff, Nat.reduceAdd, or_true, true_or, or_false, false_or, e5, g5_0, g5_20, g5_33, t100, u4 5 (by decide), g59_56]
    · refine main 7 1 (by omega) (k1.trans ?_) rfl
      show bm_run S (d + 71) 59 47 [some (.ref 25), some (.int 1), some (.int (nI C.length))] [] σ1 = _
      rw [g59_47]
      simp (decide := true) only [bm_run_ite, Option.toList_some, Option.bind_some, Option.toList_some, Option.toList_none, List.cons_append, List.nil_append, List.append_nil, eq_self, not_true_eq_false, not_false_eq_true, ite_true, ite_false, ↓reduceIte, Nat.reduceLT, Nat.reduceEqDiff, Nat.reduceAdd, or_true, true_or, or_false, false_or, e5, g5_0, g5_4, g5_33, t100, u4 7 (by decide), g59_56]
end CLIN4
