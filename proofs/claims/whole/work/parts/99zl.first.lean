/-! the first memory, and the law's whole run -/
section FIRST
variable {S : am_S} {d : Nat} {σ : bm_S}
theorem m165g {a : Nat} (ta : bm_tag a = 0) (tb : 1694 ≤ bm_len a) : bm_call S d 165 [.ref a] σ = some (none, bm_row σ a (plR (σ.1 a))) := by
  have step := loop_eq (fun k => bm_run S d 165 2 [some (.ref a), some (.int (nI k))] [] (bm_row σ a (fun i => if i < k then 0 else σ.1 a i))) 1694 (by
    intro k hk
    have es : (fun i => if i < k + 1 then 0 else σ.1 a i) = upd (fun i => if i < k then 0 else σ.1 a i) k 0 := by
      funext i
      unfold upd
      by_cases e : i = k
      · subst e; rw [if_pos rfl, if_pos (by omega)]
      · rw [if_neg e]
        dsimp only
        by_cases q : i < k
        · rw [if_pos q, if_pos (by omega)]
        · rw [if_neg q, if_neg (by omega)]
    have nl : ¬ (1694 : Int32) ≤ nI k := nI_ge (b := 1694) hk (by decide)
    have bd : ¬ (nI k < 0 ∨ bm_len a ≤ k) := by rintro (y | y); exact nI_pos (by omega) y; omega
    have ck : (nI k).toNatClampNeg = k := nI_clamp (by omega)
    rw [es, g165_2]
    generalize (fun i => if i < k then 0 else σ.1 a i) = g at *
    simp (decide := true) only [bm_run_ite, Option.toList_some, Option.bind_some, Option.toList_some, Option.toList_none, List.cons_append, List.nil_append, List.append_nil, eq_self, not_true_eq_false, not_false_eq_true, ite_true, ite_false, ↓reduceIte, Nat.reduceLT, Nat.reduceEqDiff, Nat.reduceAdd, or_true, true_or, or_false, false_or, nl, g165_9, ta, ck, bd, row_wi, nI_1])
  have z : (fun i => if i < 0 then 0 else σ.1 a i) = σ.1 a := by funext i; rw [if_neg (by omega)]
  simp only [z, row_self] at step
  rw [e165, g165_0]
  refine (show bm_run S d 165 2 [some (.ref a), some (.int (nI 0))] [] σ = _ from step).trans ?_
  have nl : (1694 : Int32) ≤ nI 1694 := by decide
  have es : upd (upd (fun i => if i < 1694 then 0 else σ.1 a i) 1 1) 2 1 = plR (σ.1 a) := by
    funext i
    unfold upd plR
    by_cases e2 : i = 2
    · rw [if_pos e2, if_pos (Or.inr e2)]
    · rw [if_neg e2]
      by_cases e1 : i = 1
      · rw [if_pos e1, if_pos (Or.inl e1)]
      · rw [if_neg e1, if_neg (by omega)]
  have c1 : (1 : Int32).toNatClampNeg = 1 := by decide
  have c2 : (2 : Int32).toNatClampNeg = 2 := by decide
  have b1 : ¬ ((1 : Int32) < 0 ∨ bm_len a ≤ 1) := by rintro (y | y); exact absurd y (by decide); omega
  have b2 : ¬ ((2 : Int32) < 0 ∨ bm_len a ≤ 2) := by rintro (y | y); exact absurd y (by decide); omega
  rw [g165_2]
  simp only [bm_run_ite, Option.toList_some, Option.bind_some, Option.toList_some, Option.toList_none, List.cons_append, List.nil_append, List.append_nil, eq_self, not_true_eq_false, not_false_eq_true, ite_true, ite_false, ↓reduceIte, Nat.reduceLT, Nat.reduceEqDiff, Nat.reduceAdd, or_true, true_or, or_false, false_or, nl, g165_19, ta, c1, c2, b1, b2, row_wi]
  rw [es]
set_option maxRecDepth 100000 in
theorem g164_179 (S : am_S) (d : Nat) (σ : bm_S) : bm_run S (d + 1) 164 179 [some (.ref 218)] [] σ = (bm_call S d 165 [.ref 219] σ).bind (fun q => bm_run S (d + 1) 164 186 [some (.ref 218)] (q.1.toList ++ []) q.2) := (bm_seg_eq [(179, 1, .aload_n 0, 0, 0, 0), (180, 3, .getfield 13, 12, 1, 0), (183, 3, .invokestatic 76, 165, 0, 12001)] rfl (by decide +kernel) _ _ _ _).trans rfl
set_option maxRecDepth 100000 in
theorem g164_186 (S : am_S) (d : Nat) (L : am_Lo) (σ : bm_S) : bm_run S d 164 186 L [] σ = some (none, σ) := (bm_seg_eq [(186, 1, .return_, 0, 0, 0)] rfl (by decide +kernel) _ _ _ _).trans rfl
set_option maxRecDepth 100000 in
theorem g308_15 (S : am_S) (d : Nat) (σ : bm_S) : bm_run S d 308 15 [some (.retAddr 1000), some (.ref 0), none, none] [.ref 218] σ = bm_run S d 308 16 [some (.retAddr 1000), some (.ref 0), some (.ref 218), none] [] σ := (bm_seg_eq [(15, 1, .astore_n 2, 0, 0, 0)] rfl (by decide +kernel) _ _ _ _).trans rfl
theorem t217 : bm_tag 219 = 0 ∧ 1694 ≤ bm_len 219 := by decide +kernel
def fm_s1 : bm_S := bm_row fm_s0 219 (plR (fm_s0.1 219))
set_option maxRecDepth 1000000 in
theorem fm_v : (fm_s0.1 0 1 = 0 ∧ fm_s0.1 0 2 = 0 ∧ fm_s0.1 0 3 = Int32.ofInt (-1)) ∧ (fm_s0.1 2 0 = 1 ∧ fm_s0.1 2 1 = 1 ∧ fm_s0.1 2 2 = 0 ∧ fm_s0.1 2 5 = 0 ∧ fm_s0.1 2 6 = 0 ∧ fm_s0.1 2 7 = 0 ∧ fm_s0.1 2 8 = 0) ∧ (fm_s0.1 5 0 = 0 ∧ fm_s0.1 5 1 = 0 ∧ fm_s0.1 5 2 = 0 ∧ fm_s0.1 5 3 = 0 ∧ fm_s0.1 5 4 = 0) ∧ (fm_s0.1 42 1 = 0 ∧ fm_s0.1 42 2 = 0) ∧ (fm_s0.1 218 5 = 0 ∧ fm_s0.1 218 13 = 0 ∧ fm_s0.1 218 14 = Int32.ofInt (-1)) ∧ (∀ k, k < 2 → fm_s0.1 (182 + 14 * k) 2 = 0 ∧ fm_s0.1 220 k = 0) ∧ ∀ k, k < 4 → fm_s0.1 (210 + 2 * k) 1 = Int32.ofInt (-1) ∧ fm_s0.1 235 k = Int32.ofInt (-1) := by decide +kernel
theorem pl_0 {r : Nat → Int32} {k : Nat} (h : k < 1694) (h1 : k ≠ 1) (h2 : k ≠ 2) : plR r k = 0 := by
  unfold plR
  rw [if_neg (by omega), if_pos h]
theorem RS_first : RS 0 0 fm_s1 := by
  obtain ⟨⟨a1, a2, a3⟩, ⟨b0, b1, b2, b5, b6, b7, b8⟩, ⟨w0, w1, w2, w3, w4⟩, ⟨c1, c2⟩, ⟨m5, m13, m14⟩, im, tr⟩ := fm_v
  have e : ∀ a, a ≠ 219 → fm_s1.1 a = fm_s0.1 a := fun a ha => bm_row_1n _ _ ha
  have e17 : fm_s1.1 219 = plR (fm_s0.1 219) := bm_row_1s _ _ _
  have p1 : fm_s1.1 219 1 = 1 := by rw [e17]; rfl
  have p2 : fm_s1.1 219 2 = 1 := by rw [e17]; rfl
  have p0 : ∀ k, k < 1694 → k ≠ 1 → k ≠ 2 → fm_s1.1 219 k = 0 := fun k h h1 h2 => by rw [e17]; exact pl_0 h h1 h2
  have ok : OKB 0 0 (fm_s1.1 219) := by
    refine ⟨⟨⟨⟨by rw [p1]; decide, fun z => absurd (p0 4 (by omega) (by omega) (by omega)) z, fun z => absurd (p0 5 (by omega) (by omega) (by omega)) z⟩, fun l hl => absurd hl (by omega), fun l hl => absurd hl (by omega), fun l hl => absurd hl (by omega)⟩, fun l hl => absurd hl (by omega), fun m _ _ => by rw [p0 24 (by omega) (by omega) (by omega), tb_0]⟩, fun l _ hl => p0 _ (by omega) (by omega) (by omega), fun l hl => absurd hl (by omega), ⟨by omega, by omega, p0 3 (by omega) (by omega) (by omega), p0 25 (by omega) (by omega) (by omega)⟩, ⟨1, by omega, by omega, p2⟩, ⟨1, by omega, by omega, p1⟩, by unfold SC; show (0 : Int) ≤ 5994; decide⟩
  refine ⟨⟨ok, ⟨⟨isW5, by omega, by omega⟩, ⟨?_, ?_, ?_, ?_, ?_⟩, fun i hi => absurd hi (by omega), fun i hi => absurd hi (by omega), fun i hi => absurd hi (by omega), fun i hi => absurd hi (by omega), fun i hi => absurd hi (by omega), fun i hi => absurd hi (by omega), fun i hi => absurd hi (by omega)⟩, ⟨isB2.bk, ⟨?_, ?_, ?_⟩, fun _ => ?_, fun z => absurd (p0 4 (by omega) (by omega) (by omega)) z, fun _ => ?_, fun z => absurd (p0 5 (by omega) (by omega) (by omega)) z⟩⟩, ⟨0, 0, by omega, by omega, ?_, ?_, ?_, fun i hi => absurd hi (by omega)⟩, fun k hk => Or.inl ?_, fun k hk => Or.inl ?_, ⟨0, by omega, ?_, ?_, fun i hi => absurd hi (by omega)⟩, ?_, ?_⟩
  · rw [e 5 (by omega)]; exact w0
  · rw [e 5 (by omega)]; exact w1
  · rw [e 5 (by omega), p0 24 (by omega) (by omega) (by omega)]; exact w2
  · rw [e 5 (by omega), p0 22 (by omega) (by omega) (by omega)]; exact w3
  · rw [e 5 (by omega), p0 23 (by omega) (by omega) (by omega)]; exact w4
  · rw [e 2 (by omega), p1]; exact b0
  · rw [e 2 (by omega), p2]; exact b1
  · rw [e 2 (by omega), p0 0 (by omega) (by omega) (by omega)]; exact b2
  · rw [e 2 (by omega), b5, b6]
  · rw [e 2 (by omega), b7, b8]
  · exact p0 92 (by omega) (by omega) (by omega)
  · rw [e 42 (by omega)]; exact c2
  · rw [e 42 (by omega)]; exact c1
  · rw [e _ (by omega), e 220 (by omega)]; exact im k hk
  · rw [e _ (by omega), e 235 (by omega)]; exact tr k hk
  · rw [e 0 (by omega)]; exact a1
  · rw [e 218 (by omega)]; exact m5
  · rw [e 0 (by omega), e 218 (by omega), a2, m13]
  · rw [e 0 (by omega), e 218 (by omega), a3, m14]
/-- the law's run, from its first row to its end -/
theorem law_run (hS : S.1 ≤ 3072) : ∃ n σ2, am_ex (am_mem S) am_isO n 111 308 0 (am_in 308 [.retAddr 1000]) [] [] = some (some (.int 1), bm_mk σ2) := by
  obtain ⟨σ2, k2⟩ := law_loop (S := S) (d := 0) hS (S.1 + 1) 0 fm_s1 0 0 (by omega) (by omega) RS_first
  have r15 : bm_run S 111 308 15 [some (.retAddr 1000), some (.ref 0), none, none] [.ref 218] fm_s1 = some (some (.int 1), σ2) := by
    rw [g308_15, g308_16]
    exact k2
  have r179 : bm_run S 110 164 179 [some (.ref 218)] [] fm_s0 = some (none, fm_s1) := by
    rw [g164_179 S 109]
    have k165 := m165g (S := S) (d := 109) (σ := fm_s0) t217.1 t217.2
    rw [k165]
    simp only [Option.bind_some, Option.toList_none, List.nil_append]
    exact g164_186 _ _ _ _
  obtain ⟨n3, x3⟩ := bm_run_some r15
  obtain ⟨n2, x2⟩ := bm_run_some r179
  have y3 := bm_ex_sim x3
  have y2 := bm_ex_sim x2
  generalize hN : max 6000 (max n2 n3) = N
  have l1 : 6000 ≤ N := by omega
  have l2 : n2 ≤ N := by omega
  have l3 : n3 ≤ N := by omega
  have e164 : am_ex (am_mem S) am_isO (N + 97) 110 164 0 (am_in 164 [.ref 218]) [] ((fm_F1 ++ [Sum.inr (12, am_df 12)] : fm_M).map fm_de) = some (none, bm_mk fm_s1) := by
    rw [fm_pr_ex (n := N) (d := 110) fm_e2, fm_mk]
    exact am_ex_le y2 l2
  have s12 : am_ex (am_mem S) am_isO (N + 97 + 1) 111 308 12 [some (.retAddr 1000), some (.ref 0), none, none] [.ref 218, .ref 218] ((fm_F1 ++ [Sum.inr (12, am_df 12)] : fm_M).map fm_de) = some (some (.int 1), bm_mk σ2) := by
    rw [fm_call_ex (d := 110) fm_l4.1 fm_l4.2 (by decide +kernel) e164]
    exact am_ex_le y3 (by omega)
  have s7 : am_ex (am_mem S) am_isO (N + 97 + 1 + 3) 111 308 7 [some (.retAddr 1000), none, none, none] [.ref 0] (fm_F1.map fm_de) = some (some (.int 1), bm_mk σ2) := by
    rw [fm_pr_ex (n := N + 97 + 1) (d := 111) fm_l3]
    exact s12
  have e108 : am_ex (am_mem S) am_isO (N + 97 + 1 + 3) 110 108 0 (am_in 108 [.ref 0]) [] (([Sum.inr (11, am_df 11)] : fm_M).map fm_de) = some (none, fm_F1.map fm_de) := am_ex_le (fm_ex_sim fm_e1) (by omega)
  have s4 : am_ex (am_mem S) am_isO (N + 97 + 1 + 3 + 1) 111 308 4 [some (.retAddr 1000), none, none, none] [.ref 0, .ref 0] (([Sum.inr (11, am_df 11)] : fm_M).map fm_de) = some (some (.int 1), bm_mk σ2) := by
    rw [fm_call_ex (d := 110) fm_l2.1 fm_l2.2 (by decide +kernel) e108]
    exact s7
  refine ⟨N + 97 + 1 + 3 + 1 + 2, σ2, ?_⟩
  have s0 := fm_pr_ex (S := S) (n := N + 97 + 1 + 3 + 1) (d := 111) fm_l1
  exact s0.trans s4
end FIRST
