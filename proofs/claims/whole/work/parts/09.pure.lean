/-! a plain instruction of the small machine is one of the machine's -/
theorem am_ldI_inv {L : am_Lo} {k n pc : Nat} {st : List Value} {q : am_PS} (h : am_ldI L k n pc st = some q) : ∃ x, L[k]? = some (some (.int x)) ∧ q = (pc + n, L, .int x :: st) := by
  unfold am_ldI at h
  split at h
  · cases h; exact ⟨_, by assumption, rfl⟩
  · cases h
theorem am_ldL_inv {L : am_Lo} {k n pc : Nat} {st : List Value} {q : am_PS} (h : am_ldL L k n pc st = some q) : ∃ x, L[k]? = some (some (.long x)) ∧ q = (pc + n, L, .long x :: st) := by
  unfold am_ldL at h
  split at h
  · cases h; exact ⟨_, by assumption, rfl⟩
  · cases h
theorem am_ldA_inv {L : am_Lo} {k n pc : Nat} {st : List Value} {q : am_PS} (h : am_ldA L k n pc st = some q) : ∃ v, L[k]? = some (some v) ∧ q = (pc + n, L, v :: st) ∧ ((∃ x, v = .ref x) ∨ v = .null ∨ ∃ x, v = .retAddr x) := by
  unfold am_ldA at h
  split at h
  · cases h; exact ⟨_, by assumption, rfl, Or.inl ⟨_, rfl⟩⟩
  · cases h; exact ⟨_, by assumption, rfl, Or.inr (Or.inl rfl)⟩
  · cases h; exact ⟨_, by assumption, rfl, Or.inr (Or.inr ⟨_, rfl⟩)⟩
  · cases h
theorem am_sI_inv {L : am_Lo} {k n pc : Nat} {st : List Value} {q : am_PS} (h : am_sI L k n pc st = some q) : ∃ x r, st = .int x :: r ∧ k < L.length ∧ q = (pc + n, am_st1 L k (.int x), r) := by
  unfold am_sI at h
  split at h
  · split at h
    · cases h; exact ⟨_, _, rfl, by assumption, rfl⟩
    · cases h
  · cases h
theorem am_sL_inv {L : am_Lo} {k n pc : Nat} {st : List Value} {q : am_PS} (h : am_sL L k n pc st = some q) : ∃ x r, st = .long x :: r ∧ k + 1 < L.length ∧ q = (pc + n, am_st2 L k (.long x), r) := by
  unfold am_sL at h
  split at h
  · split at h
    · cases h; exact ⟨_, _, rfl, by assumption, rfl⟩
    · cases h
  · cases h
theorem am_sA_inv {L : am_Lo} {k n pc : Nat} {st : List Value} {q : am_PS} (h : am_sA L k n pc st = some q) : ∃ v r, st = v :: r ∧ k < L.length ∧ q = (pc + n, am_st1 L k v, r) ∧ ((∃ x, v = .ref x) ∨ v = .null ∨ ∃ x, v = .retAddr x) := by
  unfold am_sA at h
  split at h
  · split at h
    · cases h; exact ⟨_, _, rfl, by assumption, rfl, Or.inl ⟨_, rfl⟩⟩
    · cases h
  · split at h
    · cases h; exact ⟨_, _, rfl, by assumption, rfl, Or.inr (Or.inl rfl)⟩
    · cases h
  · split at h
    · cases h; exact ⟨_, _, rfl, by assumption, rfl, Or.inr (Or.inr ⟨_, rfl⟩)⟩
    · cases h
  · cases h
theorem am_b_inv {f : Int32 → Int32 → Int32} {L : am_Lo} {pc : Nat} {st : List Value} {q : am_PS} (h : am_b f L pc st = some q) : ∃ x y r, st = .int y :: .int x :: r ∧ q = (pc + 1, L, .int (f x y) :: r) := by
  unfold am_b at h
  split at h
  · cases h; exact ⟨_, _, _, rfl, rfl⟩
  · cases h
theorem am_bl_inv {f : Int64 → Int64 → Int64} {L : am_Lo} {pc : Nat} {st : List Value} {q : am_PS} (h : am_bl f L pc st = some q) : ∃ x y r, st = .long y :: .long x :: r ∧ q = (pc + 1, L, .long (f x y) :: r) := by
  unfold am_bl at h
  split at h
  · cases h; exact ⟨_, _, _, rfl, rfl⟩
  · cases h
theorem am_u_inv {f : Int32 → Int32} {L : am_Lo} {pc : Nat} {st : List Value} {q : am_PS} (h : am_u f L pc st = some q) : ∃ x r, st = .int x :: r ∧ q = (pc + 1, L, .int (f x) :: r) := by
  unfold am_u at h
  split at h
  · cases h; exact ⟨_, _, rfl, rfl⟩
  · cases h
theorem am_off_inv {pc t : Nat} {off : Int} (h : am_off pc off = some t) : (pc : Int) + off = (t : Int) := by
  unfold am_off at h
  split at h
  · cases h; omega
  · cases h
def am_so (i : Nat) : String := ([("NextFair$Reader"), ("NextFair$Reader"), ("NextFairModel"), ("NextFairModel")] : List String).getD i ""
def am_si (i : Nat) : Nat := ([118, 130, 86, 124] : List Nat).getD i 0
section AMP
variable {p : Program} {l : Launch} {e : Env} {R : Room} {s : State} {m : MethodId} {args : Array Value} {below : List Frame} {meth : Method} {c : Code} {H : Heap} {locs : List Loc} {cells slots : Nat} {Q : State → Prop} {X : am_X} {cc : ByteArray}
set_option maxHeartbeats 4000000 in
set_option maxRecDepth 100000 in
theorem am_pure_ok (hx : p.tables.exec = Jvm.exec) (hb : c.code = cc) (hF : am_hF X) {x : MethodName} (hown : s.vm.findClass x.cls = some m.cls) {r : am_Row} (hdec0 : decode cc r.1 = .ok (r.2.2.1, r.2.1)) (hneed : ∀ w ∈ am_need x.cls r, w.before args s = true) (hside : am_side x r = true) {L L1 : am_Lo} {st st1 : List Value} {pc1 nL : Nat} {ls : Array Slot} (hL : am_LR X L ls nL) (hml : c.maxLocals = nL) (hfr : 1 ≤ R.frames) (hlo : 20 ≤ R.locals) (hstr : ∀ i, i < 4 → vk_R (am_so i) (am_si i) (am_tx i) (xK X i) s) (h : am_pure r L st = some (pc1, L1, st1))
    (k : ∀ ls1, am_LR X L1 ls1 nL → W p l e R s m args below meth c H locs cells slots Q (F0 m pc1 ls1 (st1.map (am_tv X)))) : W p l e R s m args below meth c H locs cells slots Q (F0 m r.1 ls (st.map (am_tv X))) := by
  obtain ⟨pc, len, i, a, b, cv⟩ := r
  simp only at hdec0 ⊢
  have hlen : len = am_ln i len := by
    unfold am_side at hside
    simp only [Bool.and_eq_true, decide_eq_true_eq] at hside
    exact hside.1
  have hdec : decode cc pc = .ok (i, am_ln i len) := by rw [← hlen]; exact hdec0
  have rd : ∀ {j : Nat} {v : Value}, L[j]? = some (some v) → ls[j]? = some (Slot.val (am_tv X v)) := fun h => hL.2.2.2 _ _ h
  have hn : L.length = nL := hL.2.1
  cases i
  case aconst_null => cases h; exact lv_null hx hb hdec (k ls hL)
  case iconst n => cases h; exact lv_iconst hx hb hdec rfl (k ls hL)
  case bipush n => cases h; exact lv_bipush hx hb hdec rfl (k ls hL)
  case sipush n => cases h; exact lv_sipush hx hb hdec rfl (k ls hL)
  case lconst n => cases h; exact lv_lconst hx hb hdec rfl (k ls hL)
  case ldc q =>
    simp only [am_pure] at h
    split at h
    · next ha =>
      cases h
      exact lv_ldc hx hb hown (hneed _ (by simp [am_need, ha])) hdec (k ls hL)
    · next ha =>
      split at h
      · next ha1 =>
        cases h
        have h3 : (x.cls, q, b) ∈ [("NextFair$Reader", 118, 0), ("NextFair$Reader", 130, 1), ("NextFairModel", 86, 2), ("NextFairModel", 124, 3)] := by
          (have h9 := hside; simp [am_side, am_ln, ha1] at h9; simp; exact h9.2)
        have h4 : b < 4 ∧ x.cls = am_so b ∧ q = am_si b := by
          simp only [List.mem_cons, Prod.mk.injEq, List.not_mem_nil, or_false] at h3
          rcases h3 with ⟨h1, h2, h3⟩ | ⟨h1, h2, h3⟩ | ⟨h1, h2, h3⟩ | ⟨h1, h2, h3⟩ <;> subst h3 <;> exact ⟨by omega, h1, h2⟩
        obtain ⟨h5, h6, h7⟩ := h4
        have h8 := hstr b h5
        rw [← h6, ← h7] at h8
        have h9 : am_tv X (.retAddr (2 * b)) = .ref (xK X b) := by
          simp only [am_tv]
          rw [if_neg (by omega), if_neg (by omega), if_pos (by omega)]
          congr 2
          omega
        have k1 := k ls hL
        simp only [List.map_cons, h9] at k1
        exact va_ldcS hx hb hown h8 hdec k1
      · cases h
  case ldc_w q =>
    simp only [am_pure] at h
    split at h
    · next ha =>
      cases h
      exact lv_ldcw hx hb hown (hneed _ (by simp [am_need, ha])) hdec (k ls hL)
    · cases h
  case ldc2_w q =>
    cases h
    exact lv_ldc2 hx hb hown (hneed _ (by simp [am_need])) hdec (k ls hL)
  case iload q => obtain ⟨v, h1, h2⟩ := am_ldI_inv h; cases h2; exact lv_iload hx hb hdec (rd h1) (k ls hL)
  case iload_n q => obtain ⟨v, h1, h2⟩ := am_ldI_inv h; cases h2; exact lv_iload_n hx hb hdec rfl (rd h1) (k ls hL)
  case lload q => obtain ⟨v, h1, h2⟩ := am_ldL_inv h; cases h2; exact lv_lload hx hb hdec (rd h1) (k ls hL)
  case lload_n q => obtain ⟨v, h1, h2⟩ := am_ldL_inv h; cases h2; exact lv_lload_n hx hb hdec rfl (rd h1) (k ls hL)
  case aload q =>
    obtain ⟨v, h1, h2, h3⟩ := am_ldA_inv h
    cases h2
    have k1 := k ls hL
    have h4 : am_tv X v = .null ∨ ∃ t, am_tv X v = .ref t := by
      rcases h3 with ⟨t, rfl⟩ | rfl | ⟨t, rfl⟩
      · exact Or.inr ⟨_, rfl⟩
      · exact Or.inl rfl
      · exact am_tvA hF t
    have h5 := rd h1
    simp only [List.map_cons] at k1
    rcases h4 with h4 | ⟨t, h4⟩
    · rw [h4] at h5 k1; exact lv_aloadN hx hb hdec h5 k1
    · rw [h4] at h5 k1; exact lv_aload hx hb hdec h5 k1
  case aload_n q =>
    obtain ⟨v, h1, h2, h3⟩ := am_ldA_inv h
    cases h2
    have k1 := k ls hL
    have h4 : am_tv X v = .null ∨ ∃ t, am_tv X v = .ref t := by
      rcases h3 with ⟨t, rfl⟩ | rfl | ⟨t, rfl⟩
      · exact Or.inr ⟨_, rfl⟩
      · exact Or.inl rfl
      · exact am_tvA hF t
    have h5 := rd h1
    simp only [List.map_cons] at k1
    rcases h4 with h4 | ⟨t, h4⟩
    · rw [h4] at h5 k1; exact lv_aload_nN hx hb hdec rfl h5 k1
    · rw [h4] at h5 k1; exact lv_aload_n hx hb hdec rfl h5 k1
  case istore q => obtain ⟨v, r, rfl, h1, h2⟩ := am_sI_inv h; cases h2; exact lv_istore hx hb hdec hL.has (by omega) rfl (fun ls1 h3 => k ls1 (hL.st1 hF (v := .int v) h3))
  case istore_n q => obtain ⟨v, r, rfl, h1, h2⟩ := am_sI_inv h; cases h2; exact lv_istore_n hx hb hdec rfl hL.has (by omega) rfl (fun ls1 h3 => k ls1 (hL.st1 hF (v := .int v) h3))
  case lstore q => obtain ⟨v, r, rfl, h1, h2⟩ := am_sL_inv h; cases h2; exact lv_lstore hx hb hdec hL.has (by omega) rfl (fun ls1 h3 => k ls1 (hL.st2 hF (v := .long v) h3))
  case lstore_n q => obtain ⟨v, r, rfl, h1, h2⟩ := am_sL_inv h; cases h2; exact lv_lstore_n hx hb hdec rfl hL.has (by omega) rfl (fun ls1 h3 => k ls1 (hL.st2 hF (v := .long v) h3))
  case astore q =>
    obtain ⟨v, r, rfl, h1, h2, h3⟩ := am_sA_inv h
    cases h2
    have h4 : am_tv X v = .null ∨ ∃ t, am_tv X v = .ref t := by
      rcases h3 with ⟨t, rfl⟩ | rfl | ⟨t, rfl⟩
      · exact Or.inr ⟨_, rfl⟩
      · exact Or.inl rfl
      · exact am_tvA hF t
    simp only [List.map_cons]
    rcases h4 with h4 | ⟨t, h4⟩
    · rw [h4]; exact lv_astoreN hx hb hdec hL.has (by omega) rfl (fun ls1 h5 => k ls1 (hL.st1 hF (v := v) (by rw [h4]; exact h5)))
    · rw [h4]; exact lv_astore hx hb hdec hL.has (by omega) rfl (fun ls1 h5 => k ls1 (hL.st1 hF (v := v) (by rw [h4]; exact h5)))
  case astore_n q =>
    obtain ⟨v, r, rfl, h1, h2, h3⟩ := am_sA_inv h
    cases h2
    have h4 : am_tv X v = .null ∨ ∃ t, am_tv X v = .ref t := by
      rcases h3 with ⟨t, rfl⟩ | rfl | ⟨t, rfl⟩
      · exact Or.inr ⟨_, rfl⟩
      · exact Or.inl rfl
      · exact am_tvA hF t
    simp only [List.map_cons]
    rcases h4 with h4 | ⟨t, h4⟩
    · rw [h4]; exact lv_astore_nN hx hb hdec rfl hL.has (by omega) rfl (fun ls1 h5 => k ls1 (hL.st1 hF (v := v) (by rw [h4]; exact h5)))
    · rw [h4]; exact lv_astore_n hx hb hdec rfl hL.has (by omega) rfl (fun ls1 h5 => k ls1 (hL.st1 hF (v := v) (by rw [h4]; exact h5)))
  case iinc q n =>
    simp only [am_pure] at h
    split at h
    · next v hv =>
      cases h
      have hm : (q, Value.int v) ∈ am_lv X L := am_lv_mem.mpr ⟨_, hv, rfl⟩
      obtain ⟨j, hj⟩ := List.getElem?_of_mem hm
      have hq : q < L.length := (List.getElem?_eq_some_iff.mp hv).1
      exact lv_iinc hx hb hdec hL.has hj rfl (by omega) rfl (fun ls1 h3 => k ls1 (hL.st1 hF (v := .int (v + Int32.ofInt n)) h3))
    · cases h
  case pop =>
    simp only [am_pure] at h
    split at h
    · cases h; exact lv_pop hx hb hdec rfl (k ls hL)
    · cases h
  case pop2 =>
    simp only [am_pure] at h
    split at h
    · cases h; exact lv_pop2_2 hx hb hdec rfl (k ls hL)
    · cases h
  case dup =>
    simp only [am_pure] at h
    split at h
    · cases h; exact lv_dup hx hb hdec rfl (k ls hL)
    · cases h; exact lv_dup hx hb hdec rfl (k ls hL)
    · cases h
  case dup2 =>
    simp only [am_pure] at h
    split at h
    · cases h; exact lv_dup2_11 hx hb hdec rfl rfl (k ls hL)
    · cases h; exact lv_dup2_11 hx hb hdec rfl rfl (k ls hL)
    · cases h; exact lv_dup2_2 hx hb hdec rfl (k ls hL)
    · cases h
  case iadd => obtain ⟨v, w, r, rfl, h2⟩ := am_b_inv h; cases h2; exact lv_iadd hx hb hdec (k ls hL)
  case isub => obtain ⟨v, w, r, rfl, h2⟩ := am_b_inv h; cases h2; exact lv_isub hx hb hdec (k ls hL)
  case imul => obtain ⟨v, w, r, rfl, h2⟩ := am_b_inv h; cases h2; exact lv_imul hx hb hdec (k ls hL)
  case iand => obtain ⟨v, w, r, rfl, h2⟩ := am_b_inv h; cases h2; exact lv_iand hx hb hdec (k ls hL)
  case ior => obtain ⟨v, w, r, rfl, h2⟩ := am_b_inv h; cases h2; exact lv_ior hx hb hdec (k ls hL)
  case ixor => obtain ⟨v, w, r, rfl, h2⟩ := am_b_inv h; cases h2; exact lv_ixor hx hb hdec (k ls hL)
  case ishl => obtain ⟨v, w, r, rfl, h2⟩ := am_b_inv h; cases h2; exact lv_ishl hx hb hdec (k ls hL)
  case ishr => obtain ⟨v, w, r, rfl, h2⟩ := am_b_inv h; cases h2; exact lv_ishr hx hb hdec (k ls hL)
  case iushr => obtain ⟨v, w, r, rfl, h2⟩ := am_b_inv h; cases h2; exact lv_iushr hx hb hdec rfl (k ls hL)
  case idiv =>
    simp only [am_pure] at h
    split at h
    · split at h
      · cases h
      · next h0 => cases h; exact lv_idiv hx hb hdec h0 (k ls hL)
    · cases h
  case irem =>
    simp only [am_pure] at h
    split at h
    · split at h
      · cases h
      · next h0 => cases h; exact lv_irem hx hb hdec h0 (k ls hL)
    · cases h
  case ladd => obtain ⟨v, w, r, rfl, h2⟩ := am_bl_inv h; cases h2; exact lv_ladd hx hb hdec (k ls hL)
  case lsub => obtain ⟨v, w, r, rfl, h2⟩ := am_bl_inv h; cases h2; exact lv_lsub hx hb hdec (k ls hL)
  case lmul => obtain ⟨v, w, r, rfl, h2⟩ := am_bl_inv h; cases h2; exact lv_lmul hx hb hdec (k ls hL)
  case land => obtain ⟨v, w, r, rfl, h2⟩ := am_bl_inv h; cases h2; exact lv_land hx hb hdec (k ls hL)
  case lor => obtain ⟨v, w, r, rfl, h2⟩ := am_bl_inv h; cases h2; exact lv_lor hx hb hdec (k ls hL)
  case ldiv =>
    simp only [am_pure] at h
    split at h
    · split at h
      · cases h
      · next h0 => cases h; exact lv_ldiv hx hb hdec h0 (k ls hL)
    · cases h
  case lrem =>
    simp only [am_pure] at h
    split at h
    · split at h
      · cases h
      · next h0 => cases h; exact lv_lrem hx hb hdec h0 (k ls hL)
    · cases h
  case lshl =>
    simp only [am_pure] at h
    split at h
    · cases h; exact lv_lshl hx hb hdec rfl (k ls hL)
    · cases h
  case lshr =>
    simp only [am_pure] at h
    split at h
    · cases h; exact lv_lshr hx hb hdec rfl (k ls hL)
    · cases h
  case ineg => obtain ⟨v, r, rfl, h2⟩ := am_u_inv h; cases h2; exact lv_ineg hx hb hdec (k ls hL)
  case i2b => obtain ⟨v, r, rfl, h2⟩ := am_u_inv h; cases h2; exact lv_i2b hx hb hdec rfl (k ls hL)
  case i2s => obtain ⟨v, r, rfl, h2⟩ := am_u_inv h; cases h2; exact lv_i2s hx hb hdec rfl (k ls hL)
  case i2c => obtain ⟨v, r, rfl, h2⟩ := am_u_inv h; cases h2; exact lv_i2c hx hb hdec rfl (k ls hL)
  case i2l =>
    simp only [am_pure] at h
    split at h
    · cases h; exact lv_i2l hx hb hdec rfl (k ls hL)
    · cases h
  case l2i =>
    simp only [am_pure] at h
    split at h
    · cases h; exact lv_l2i hx hb hdec rfl (k ls hL)
    · cases h
  case lcmp =>
    simp only [am_pure] at h
    split at h
    · cases h; exact W.lcmp hx hb hdec (k ls hL)
    · cases h
  case ifCond cd off =>
    simp only [am_pure] at h
    split at h
    · next ht =>
      split at h
      · cases cd
        · cases h; refine lv_if_eq hx hb hdec ht (fun q => ?_) (fun q => ?_) <;> (have k1 := k ls hL; first | rw [if_pos q] at k1 | rw [if_neg q] at k1) <;> exact k1
        · cases h; refine lv_if_ne hx hb hdec ht (fun q => ?_) (fun q => ?_) <;> (have k1 := k ls hL; first | rw [if_pos q] at k1 | rw [if_neg q] at k1 | rw [if_neg (fun z => z q)] at k1) <;> exact k1
        · cases h; refine lv_if_lt hx hb hdec ht (fun q => ?_) (fun q => ?_) <;> (have k1 := k ls hL; first | rw [if_pos q] at k1 | rw [if_neg q] at k1) <;> exact k1
        · cases h; refine lv_if_ge hx hb hdec ht (fun q => ?_) (fun q => ?_) <;> (have k1 := k ls hL; first | rw [if_pos q] at k1 | rw [if_neg q] at k1) <;> exact k1
        · cases h; refine lv_if_gt hx hb hdec ht (fun q => ?_) (fun q => ?_) <;> (have k1 := k ls hL; first | rw [if_pos q] at k1 | rw [if_neg q] at k1) <;> exact k1
        · cases h; refine lv_if_le hx hb hdec ht (fun q => ?_) (fun q => ?_) <;> (have k1 := k ls hL; first | rw [if_pos q] at k1 | rw [if_neg q] at k1) <;> exact k1
      · cases h
    · cases h
  case if_icmp cd off =>
    simp only [am_pure] at h
    split at h
    · next ht =>
      split at h
      · cases cd
        · cases h; refine lv_icmp_eq hx hb hdec ht (fun q => ?_) (fun q => ?_) <;> (have k1 := k ls hL; first | rw [if_pos q] at k1 | rw [if_neg q] at k1) <;> exact k1
        · cases h; refine lv_icmp_ne hx hb hdec ht (fun q => ?_) (fun q => ?_) <;> (have k1 := k ls hL; first | rw [if_pos q] at k1 | rw [if_neg q] at k1 | rw [if_neg (fun z => z q)] at k1) <;> exact k1
        · cases h; refine lv_icmp_lt hx hb hdec ht (fun q => ?_) (fun q => ?_) <;> (have k1 := k ls hL; first | rw [if_pos q] at k1 | rw [if_neg q] at k1) <;> exact k1
        · cases h; refine lv_icmp_ge hx hb hdec ht (fun q => ?_) (fun q => ?_) <;> (have k1 := k ls hL; first | rw [if_pos q] at k1 | rw [if_neg q] at k1) <;> exact k1
        · cases h; refine lv_icmp_gt hx hb hdec ht (fun q => ?_) (fun q => ?_) <;> (have k1 := k ls hL; first | rw [if_pos q] at k1 | rw [if_neg q] at k1) <;> exact k1
        · cases h; refine lv_icmp_le hx hb hdec ht (fun q => ?_) (fun q => ?_) <;> (have k1 := k ls hL; first | rw [if_pos q] at k1 | rw [if_neg q] at k1) <;> exact k1
      · cases h
    · cases h
  case goto off =>
    simp only [am_pure] at h
    split at h
    · next ht => cases h; exact lv_goto hx hb hdec ht (k ls hL)
    · cases h
  case ifnull off =>
    simp only [am_pure] at h
    split at h
    · next ht =>
      split at h
      · cases h; exact lv_ifnullN hx hb hdec ht (k ls hL)
      · cases h; exact lv_ifnull hx hb hdec (k ls hL)
      · cases h
    · cases h
  case ifnonnull off =>
    simp only [am_pure] at h
    split at h
    · next ht =>
      split at h
      · cases h; exact lv_ifnonnullN hx hb hdec (k ls hL)
      · cases h; exact lv_ifnonnull hx hb hdec ht (k ls hL)
      · cases h
    · cases h
  case tableswitch df lo hi offs =>
    simp only [am_pure] at h
    split at h
    · split at h
      · next hc =>
        obtain ⟨t, ht, h2⟩ := Option.map_eq_some_iff.mp h
        cases h2
        exact lv_tableOut hx hb hdec hc (am_off_inv ht) (k ls hL)
      · next hc =>
        split at h
        · next off hoff =>
          obtain ⟨t, ht, h2⟩ := Option.map_eq_some_iff.mp h
          cases h2
          exact lv_tableIn hx hb hdec (fun z => hc (Or.inl z)) (fun z => hc (Or.inr z)) hoff (am_off_inv ht) (k ls hL)
        · cases h
    · cases h
  case lookupswitch df ps =>
    simp only [am_pure] at h
    split at h
    · split at h
      · next hc =>
        obtain ⟨t, ht, h2⟩ := Option.map_eq_some_iff.mp h
        cases h2
        exact lv_lookup hx hb hdec hc rfl (am_off_inv ht) (k ls hL)
      · cases h
    · cases h
  case invokespecial q =>
    simp only [am_pure] at h
    split at h
    · next hb9 =>
      split at h
      · split at h
        · next hc =>
          cases h
          subst hb9
          have h1 := hneed (.methodLink x.cls q objectInit) (by simp [am_need])
          have h2 := hneed (.instanceMethod objectInit) (by simp [am_need])
          have h3 := hneed (.code objectInit ⟨#[0xb1]⟩ 1 none) (by simp [am_need])
          have h4 : ((st1.map (am_tv X)).map fun v => v.category).sum ≤ 8 := by rw [am_cat_map hF]; exact hc
          have h5 := lv_room (m := m) (pc := pc) (ls := ls) (rest := (st1.map (am_tv X))) h4
          refine W.objInit hx hb hown h1 h2 h3 rfl (by rw [hml]; exact hL.1) rfl hdec hfr (Nat.le_trans (Nat.add_le_add_right h5 12) hlo) ?_
          exact k ls hL
        · cases h
      · cases h
    · cases h
  all_goals (cases h)
end AMP
