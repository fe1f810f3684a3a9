/-! each step of the flat machine is one of the small machine's -/
theorem bm_ofInt {x : Int32} {n : Int} (h1 : -2147483648 ≤ n) (h2 : n ≤ 2147483647) : x = Int32.ofInt n ↔ x.toInt = n := by
  rw [← Int32.toInt_inj, Int32.toInt_ofInt_of_le (by omega) (by omega)]
theorem bm_tab_out {pc d : Nat} {x : Int32} (offs : List Int) : ∀ (lo : Int), -2147483648 ≤ lo → lo + offs.length ≤ 2147483648 → (x.toInt < lo ∨ lo + offs.length ≤ x.toInt) → bm_ch (bm_tab pc lo offs) d x = d := by
  induction offs with
  | nil => intro lo _ _ _; rfl
  | cons o r ih =>
    intro lo h1 h2 h3
    simp only [List.length_cons] at h2 h3
    simp only [bm_tab, bm_ch]
    rw [if_neg (by rw [bm_ofInt h1 (by omega)]; omega)]
    exact ih (lo + 1) (by omega) (by omega) (by omega)
theorem bm_tab_in {pc d : Nat} {x : Int32} (offs : List Int) : ∀ (lo : Int), -2147483648 ≤ lo → lo + offs.length ≤ 2147483648 → lo ≤ x.toInt → ∀ o, offs[(x.toInt - lo).toNat]? = some o → bm_ch (bm_tab pc lo offs) d x = ((pc : Int) + o).toNat := by
  induction offs with
  | nil => intro lo _ _ _ o h; simp at h
  | cons o1 r ih =>
    intro lo h1 h2 h3 o h
    simp only [List.length_cons] at h2
    simp only [bm_tab, bm_ch]
    by_cases e : x.toInt = lo
    · rw [if_pos ((bm_ofInt h1 (by omega)).mpr e)]
      rw [show (x.toInt - lo).toNat = 0 by omega] at h
      simp at h
      rw [h]
    · rw [if_neg (by rw [bm_ofInt h1 (by omega)]; exact e)]
      refine ih (lo + 1) (by omega) (by omega) (by omega) o ?_
      rw [show (x.toInt - lo).toNat = (x.toInt - (lo + 1)).toNat + 1 by omega] at h
      simpa using h
theorem bm_lk_ok {pc : Nat} {d : Int} {x : Int32} (ps : List (Int × Int)) (h : ps.all (fun p => decide (-2147483648 ≤ p.1) && decide (p.1 ≤ 2147483647) && decide (0 ≤ (pc : Int) + p.2)) = true) (hd : 0 ≤ (pc : Int) + d) : am_off pc (Op.lookupswitch.offset ps d x.toInt) = some (bm_ch (bm_lk pc ps) ((pc : Int) + d).toNat x) := by
  have key : 0 ≤ (pc : Int) + Op.lookupswitch.offset ps d x.toInt ∧ bm_ch (bm_lk pc ps) ((pc : Int) + d).toNat x = ((pc : Int) + Op.lookupswitch.offset ps d x.toInt).toNat := by
    induction ps with
    | nil => exact ⟨hd, rfl⟩
    | cons p r ih =>
      simp only [List.all_cons, Bool.and_eq_true, decide_eq_true_eq] at h
      obtain ⟨⟨⟨h1, h2⟩, h3⟩, h4⟩ := h
      have ih' := ih h4
      by_cases e : x.toInt = p.1
      · have hx : x = Int32.ofInt p.1 := (bm_ofInt h1 h2).mpr e
        have ho : Op.lookupswitch.offset (p :: r) d x.toInt = p.2 := by simp [Op.lookupswitch.offset, e]
        rw [ho]
        refine ⟨h3, ?_⟩
        simp only [bm_lk, List.map_cons, bm_ch]
        rw [if_pos hx]
      · have hx : ¬ x = Int32.ofInt p.1 := fun z => e ((bm_ofInt h1 h2).mp z)
        have e2 : ¬ p.1 = x.toInt := fun z => e z.symm
        have ho : Op.lookupswitch.offset (p :: r) d x.toInt = Op.lookupswitch.offset r d x.toInt := by simp [Op.lookupswitch.offset, e2]
        rw [ho]
        refine ⟨ih'.1, ?_⟩
        simp only [bm_lk, List.map_cons, bm_ch]
        rw [if_neg hx]
        exact ih'.2
  unfold am_off
  rw [if_pos key.1, key.2]
theorem bm_i8 {n : Int} (h1 : -128 ≤ n) (h2 : n < 128) : (Int8.ofInt n).toInt32 = Int32.ofInt n := by
  rw [← Int32.toInt_inj, Int8.toInt_toInt32, Int8.toInt_ofInt_of_le (by omega) (by omega), Int32.toInt_ofInt_of_le (by omega) (by omega)]
theorem bm_i16 {n : Int} (h1 : -32768 ≤ n) (h2 : n < 32768) : (Int16.ofInt n).toInt32 = Int32.ofInt n := by
  rw [← Int32.toInt_inj, Int16.toInt_toInt32, Int16.toInt_ofInt_of_le (by omega) (by omega), Int32.toInt_ofInt_of_le (by omega) (by omega)]
def bm_lift : bm_Q → (Nat × am_Lo × List Value × am_M) ⊕ (Option Value ⊕ (Nat × List Value × List Value))
  | .inl (a, b, c, d) => .inl (a, b, c, bm_mk d)
  | .inr q => .inr q
theorem am_step_mem {S : am_S} {rt : Option FieldType} {r : am_Row} {L L1 : am_Lo} {st st1 : List Value} {M M1 : am_M} {pc1 : Nat} (h1 : am_end rt r.2.2.1 st = none) (h2 : am_call am_isO r st M = none) (h3 : am_pure r L st = none) (h4 : am_mem S r L st M = some (pc1, L1, st1, M1)) : am_step (am_mem S) am_isO rt r L st M = some (.inl (pc1, L1, st1, M1)) := by
  unfold am_step
  rw [h1, h2, h3, h4]
  rfl
theorem am_step_pure {S : am_S} {rt : Option FieldType} {r : am_Row} {L L1 : am_Lo} {st st1 : List Value} {M : am_M} {pc1 : Nat} (h1 : am_end rt r.2.2.1 st = none) (h2 : am_call am_isO r st M = none) (h3 : am_pure r L st = some (pc1, L1, st1)) : am_step (am_mem S) am_isO rt r L st M = some (.inl (pc1, L1, st1, M)) := by
  unfold am_step
  rw [h1, h2, h3]
theorem am_step_call {S : am_S} {rt : Option FieldType} {r : am_Row} {L : am_Lo} {st : List Value} {M : am_M} {q : Nat × List Value × List Value} (h1 : am_end rt r.2.2.1 st = none) (h2 : am_call am_isO r st M = some q) : am_step (am_mem S) am_isO rt r L st M = some (.inr (.inr q)) := by
  unfold am_step
  rw [h1, h2]
theorem am_step_end {S : am_S} {rt : Option FieldType} {r : am_Row} {L : am_Lo} {st : List Value} {M : am_M} {v : Option Value} (h1 : am_end rt r.2.2.1 st = some v) : am_step (am_mem S) am_isO rt r L st M = some (.inr (.inl v)) := by
  unfold am_step
  rw [h1]
set_option maxHeartbeats 4000000 in
theorem bm_st_sim {S : am_S} {rt : Option FieldType} {r : am_Row} {L : am_Lo} {st : List Value} {σ : bm_S} {q : bm_Q} (h : bm_st S rt r L st σ = some q) : am_step (am_mem S) am_isO rt r L st (bm_mk σ) = some (bm_lift q) := by
  obtain ⟨pc, len, i, a, b, cv⟩ := r
  cases i
  case return_ =>
    simp only [bm_st, bm_k] at h
    split at h
    · cases h; exact am_step_end rfl
    · cases h
  case ireturn =>
    simp only [bm_st, bm_k] at h
    split at h
    · cases h; exact am_step_end (by simp only [am_end]; rw [if_pos (vp_nar_int _)])
    · split at h
      · next hv => cases h; rcases hv with rfl | rfl <;> exact am_step_end rfl
      · cases h
    · split at h
      · next hv => cases h; exact am_step_end (by simp only [am_end]; rw [if_pos hv])
      · cases h
    · cases h
  case lreturn =>
    simp only [bm_st, bm_k] at h
    split at h
    · cases h; exact am_step_end rfl
    · cases h
  case areturn =>
    simp only [bm_st, bm_k] at h
    split at h
    · split at h
      · next v hv =>
        cases h
        cases v <;> first | exact am_step_end rfl | cases hv
      · cases h
    · cases h
  case invokestatic k =>
    simp only [bm_st, bm_k] at h
    split at h
    · next hb =>
      subst hb
      split at h
      · next n dp kd sp ks rest =>
        split at h
        · next hc =>
          obtain ⟨c1, c2, c3, c4, c5, c6, c7⟩ := hc
          split at h
          · next hcat =>
            cases h
            obtain ⟨m1, f1, hf1⟩ := bm_arr_i (σ := σ) (Or.inl rfl) c1
            obtain ⟨m2, f2, hf2⟩ := bm_arr_i (σ := σ) (Or.inl rfl) c2
            refine am_step_mem rfl (by simp [am_call]) rfl ?_
            simp only [am_mem, m1, m2, if_true]
            rw [if_pos ⟨trivial, trivial, c3, c4, c5, c6, c7, hcat⟩, bm_mk_row hf2]
          · cases h
        · cases h
      · cases h
    · next hb =>
      split at h
      · next hc =>
        cases h
        exact am_step_call rfl (by simp only [am_call]; rw [if_pos hc])
      · cases h
  case invokevirtual k =>
    simp only [bm_st, bm_k] at h
    split at h
    · next hc =>
      split at h
      · next kq rest hd =>
        split at h
        · next ht =>
          split at h
          · next hcat =>
            cases h
            refine am_step_call rfl ?_
            simp only [am_call]
            rw [if_pos hc]
            simp only [hd]
            rw [if_pos ⟨(bm_isO_eq σ kq _).mpr ht, hcat⟩]
          · cases h
        · cases h
      · next kq rest hd =>
        split at h
        · next ht =>
          cases h
          refine am_step_call rfl ?_
          simp only [am_call]
          rw [if_pos hc]
          simp only [hd]
          rw [if_pos ht]
        · cases h
      · cases h
    · cases h
  case idiv =>
    simp only [bm_st, bm_k] at h
    split at h
    · split at h
      · cases h
      · next h0 => cases h; exact am_step_pure rfl rfl (by simp only [am_pure]; rw [if_neg h0])
    · cases h
  case irem =>
    simp only [bm_st, bm_k] at h
    split at h
    · split at h
      · cases h
      · next h0 => cases h; exact am_step_pure rfl rfl (by simp only [am_pure]; rw [if_neg h0])
    · cases h
  case ldiv =>
    simp only [bm_st, bm_k] at h
    split at h
    · split at h
      · cases h
      · next h0 => cases h; exact am_step_pure rfl rfl (by simp only [am_pure]; rw [if_neg h0])
    · cases h
  case lrem =>
    simp only [bm_st, bm_k] at h
    split at h
    · split at h
      · cases h
      · next h0 => cases h; exact am_step_pure rfl rfl (by simp only [am_pure]; rw [if_neg h0])
    · cases h
  case tableswitch df lo hi offs =>
    simp only [bm_st, bm_k] at h
    split at h
    · next x qs =>
      split at h
      · next hc =>
        cases h
        obtain ⟨⟨c1, c2, c3, c4⟩, c5⟩ := hc
        refine am_step_pure rfl rfl ?_
        simp only [am_pure]
        by_cases ho : x.toInt < lo ∨ hi < x.toInt
        · rw [if_pos ho]
          rw [bm_tab_out _ lo c1 (by omega) (by omega)]
          simp [am_off, c4]
        · rw [if_neg ho]
          have hl : (x.toInt - lo).toNat < offs.toList.length := by omega
          obtain ⟨o, hof⟩ : ∃ o, offs.toList[(x.toInt - lo).toNat]? = some o := ⟨_, List.getElem?_eq_getElem hl⟩
          have hof2 : offs[(x.toInt - lo).toNat]? = some o := by rw [← Array.getElem?_toList]; exact hof
          have hpos : 0 ≤ (pc : Int) + o := by simpa using List.all_eq_true.mp c5 o (List.mem_of_getElem? hof)
          simp only [hof2]
          rw [bm_tab_in _ lo c1 (by omega) (by omega) o hof]
          simp [am_off, hpos]
      · cases h
    · cases h
  case lookupswitch df ps =>
    simp only [bm_st, bm_k] at h
    split at h
    · next x qs =>
      split at h
      · next hc =>
        cases h
        obtain ⟨c1, c2, c3⟩ := hc
        refine am_step_pure rfl rfl ?_
        simp only [am_pure]
        rw [if_pos c1, bm_lk_ok _ c2 c3]
        rfl
      · cases h
    · cases h
  case getfield k =>
    simp only [bm_st, bm_k] at h
    split at h
    · next kq rest =>
      split at h
      · next hc =>
        split at h
        · next hb => cases h; exact am_step_mem rfl rfl rfl (by simp only [am_mem]; rw [if_pos hc, if_pos hb])
        · next hb =>
          split at h
          · next hb1 => cases h; exact am_step_mem rfl rfl rfl (by simp only [am_mem]; rw [if_pos hc, if_neg hb, if_pos hb1])
          · cases h
      · cases h
    · next kq rest =>
      split at h
      · cases h
      · next ha =>
        split at h
        · next ht =>
          obtain ⟨fs, hm, hl, h13, f0, f1, f2⟩ := bm_obj (σ := σ) (b := b) ht
          have go : ∀ v, fs[b]? = some v → am_step (am_mem S) am_isO rt (pc, len, .getfield k, a, b, cv) L (.ref kq :: rest) (bm_mk σ) = some (.inl (pc + 3, L, v :: rest, bm_mk σ)) := fun v hv => am_step_mem rfl rfl rfl (by simp only [am_mem, if_neg ha, hm, if_true, hv])
          split at h
          · next g => cases h; exact go _ (f0 g)
          · split at h
            · next g => cases h; exact go _ (f1 g)
            · split at h
              · next g => cases h; exact go _ (f2 g)
              · cases h
        · cases h
    · cases h
  case putfield k =>
    simp only [bm_st, bm_k] at h
    split at h
    · next x kq rest =>
      split at h
      · cases h
      · next ha =>
        split at h
        · next ht =>
          split at h
          · next hfk =>
            obtain ⟨fs, hm, hl, h13, f0, f1, f2⟩ := bm_obj (σ := σ) (b := b) ht
            have hbl : b < fs.length := by rw [hl, ← bm_df_len]; exact bm_fk_lt (by omega)
            have go : narrow ((am_cn a).2.2.2 b) (.int x) = .int x ∧ fits ((am_cn a).2.2.2 b) (.int x) = true → am_step (am_mem S) am_isO rt (pc, len, .putfield k, a, b, cv) L (.int x :: .ref kq :: rest) (bm_mk σ) = some (.inl (pc + 3, L, rest, bm_mk (bm_wi σ kq b x))) := fun hnf => am_step_mem rfl rfl rfl (by simp only [am_mem, if_neg ha, hm]; rw [if_pos ⟨trivial, hbl, hnf⟩, bm_mk_wi ht hfk hm])
            split at h
            · next hty => cases h; exact go (by rw [hty]; exact ⟨rfl, rfl⟩)
            · split at h
              · next hty =>
                split at h
                · next hv => cases h; exact go (by rw [hty]; rcases hv with rfl | rfl <;> exact ⟨rfl, rfl⟩)
                · cases h
              · cases h
          · cases h
        · cases h
    · next x kq rest =>
      split at h
      · cases h
      · next ha =>
        split at h
        · next ht =>
          split at h
          · next hfk =>
            split at h
            · next hty =>
              cases h
              obtain ⟨fs, hm, hl, h13, f0, f1, f2⟩ := bm_obj (σ := σ) (b := b) ht
              have hbl : b < fs.length := by rw [hl, ← bm_df_len]; exact bm_fk_lt (by omega)
              exact am_step_mem rfl rfl rfl (by simp only [am_mem, if_neg ha, hm]; rw [if_pos ⟨trivial, hbl, by rw [hty]; exact ⟨rfl, rfl⟩⟩, bm_mk_wl ht hfk hm])
            · cases h
          · cases h
        · cases h
    · cases h
  case getstatic k =>
    simp only [bm_st, bm_k] at h
    split at h
    · next ha => cases h; exact am_step_mem rfl rfl rfl (by simp only [am_mem]; rw [if_pos ha])
    · next ha =>
      split at h
      · next ha1 => cases h; exact am_step_mem rfl rfl rfl (by simp only [am_mem]; rw [if_neg ha, if_pos ha1])
      · cases h
  case arraylength =>
    simp only [bm_st, bm_k] at h
    split at h
    · next kq rest =>
      split at h
      · next ha => cases h; exact am_step_mem rfl rfl rfl (by simp only [am_mem]; rw [if_pos ha])
      · next ha =>
        split at h
        · next ha1 => cases h; exact am_step_mem rfl rfl rfl (by simp only [am_mem]; rw [if_neg ha, if_pos ha1])
        · cases h
    · next kq rest =>
      split at h
      · next ht =>
        cases h
        obtain ⟨x, hx⟩ := bm_arr_any (σ := σ) ht
        exact am_step_mem rfl rfl rfl (by simp only [am_mem, hx]; rw [if_pos ht])
      · cases h
    · cases h
  case iaload =>
    simp only [bm_st, bm_k] at h
    split at h
    · next j kq rest =>
      split at h
      · next ha =>
        split at h
        · next hin => cases h; exact am_step_mem rfl rfl rfl (by simp only [am_mem]; rw [if_pos ⟨ha, hin⟩])
        · cases h
      · cases h
    · next j kq rest =>
      split at h
      · next ht =>
        split at h
        · next hin =>
          cases h
          have hx := (bm_arr_i (σ := σ) (Or.inl rfl) ht).1
          exact am_step_mem rfl rfl rfl (by simp only [am_mem, hx]; rw [if_pos ⟨trivial, hin⟩])
        · cases h
      · cases h
    · cases h
  case baload =>
    simp only [bm_st, bm_k] at h
    split at h
    · next j kq rest =>
      split at h
      · next ha =>
        split at h
        · next hin => cases h; exact am_step_mem rfl rfl rfl (by simp only [am_mem]; rw [if_pos ⟨ha.1, ha.2, hin⟩])
        · cases h
      · cases h
    · next j kq rest =>
      split at h
      · next ht =>
        split at h
        · next hin =>
          cases h
          rcases ht with ht | ht
          · have hx := (bm_arr_i (σ := σ) (Or.inr (Or.inl rfl)) ht).1
            exact am_step_mem rfl rfl rfl (by simp only [am_mem, hx]; rw [if_pos ⟨Or.inl trivial, hin⟩])
          · have hx := (bm_arr_i (σ := σ) (Or.inr (Or.inr rfl)) ht).1
            exact am_step_mem rfl rfl rfl (by simp only [am_mem, hx]; rw [if_pos ⟨Or.inr trivial, hin⟩])
        · cases h
      · cases h
    · cases h
  case laload =>
    simp only [bm_st, bm_k] at h
    split at h
    · next j kq rest =>
      split at h
      · next ht =>
        split at h
        · next hin =>
          cases h
          have hx := (bm_arr_l (σ := σ) ht).1
          exact am_step_mem rfl rfl rfl (by simp only [am_mem, hx]; rw [if_pos ⟨trivial, hin⟩])
        · cases h
      · cases h
    · cases h
  case aaload =>
    simp only [bm_st, bm_k] at h
    split at h
    · next j kq rest =>
      split at h
      · next ht =>
        split at h
        · next hin =>
          cases h
          have go : ∀ t, (t = 4 ∨ t = 5 ∨ t = 6) → bm_tag kq = t → am_step (am_mem S) am_isO rt (pc, len, .aaload, a, b, cv) L (.int j :: .ref kq :: rest) (bm_mk σ) = some (.inl (pc + 1, L, am_rf (bm_rfa kq j.toNatClampNeg) :: rest, bm_mk σ)) := fun t h4 ht => by
            have hx := bm_arr_q (σ := σ) h4 ht
            exact am_step_mem rfl rfl rfl (by simp only [am_mem, hx]; rw [if_pos ⟨h4, hin⟩])
          rcases ht with ht | ht | ht <;> exact go _ (by omega) ht
        · cases h
      · cases h
    · cases h
  case iastore =>
    simp only [bm_st, bm_k] at h
    split at h
    · next x j kq rest =>
      split at h
      · next ht =>
        split at h
        · next hin =>
          cases h
          obtain ⟨hx, f, hf⟩ := bm_arr_i (σ := σ) (Or.inl rfl) ht
          exact am_step_mem rfl rfl rfl (by simp only [am_mem, hx]; rw [if_pos ⟨trivial, hin⟩]; unfold bm_wi; rw [bm_mk_row hf])
        · cases h
      · cases h
    · cases h
  case bastore =>
    simp only [bm_st, bm_k] at h
    split at h
    · next x j kq rest =>
      split at h
      · next ht =>
        split at h
        · next hin =>
          cases h
          obtain ⟨hx, f, hf⟩ := bm_arr_i (σ := σ) (Or.inr (Or.inl rfl)) ht
          exact am_step_mem rfl rfl rfl (by simp only [am_mem, hx]; rw [if_pos hin, if_pos trivial]; unfold bm_wi; rw [bm_mk_row hf, vp_nar_byte])
        · cases h
      · next h1 =>
        split at h
        · next ht =>
          split at h
          · next hin =>
            cases h
            obtain ⟨hx, f, hf⟩ := bm_arr_i (σ := σ) (Or.inr (Or.inr rfl)) ht
            exact am_step_mem rfl rfl rfl (by simp only [am_mem, hx]; rw [if_pos hin, if_neg (by decide), if_pos trivial]; unfold bm_wi; rw [bm_mk_row hf])
          · cases h
        · cases h
    · cases h
  case lastore =>
    simp only [bm_st, bm_k] at h
    split at h
    · next x j kq rest =>
      split at h
      · next ht =>
        split at h
        · next hin =>
          cases h
          obtain ⟨hx, f, hf⟩ := bm_arr_l (σ := σ) ht
          exact am_step_mem rfl rfl rfl (by simp only [am_mem, hx]; rw [if_pos ⟨trivial, hin⟩]; unfold bm_wl; rw [bm_mk_rowL hf])
        · cases h
      · cases h
    · cases h
  case bipush n =>
    simp only [bm_st, bm_k] at h
    split at h
    · next hc => cases h; exact am_step_pure rfl rfl (by simp only [am_pure]; rw [bm_i8 hc.1 hc.2])
    · cases h
  case sipush n =>
    simp only [bm_st, bm_k] at h
    split at h
    · next hc => cases h; exact am_step_pure rfl rfl (by simp only [am_pure]; rw [bm_i16 hc.1 hc.2])
    · cases h
  case invokespecial k => cases h
  case new k => cases h
  case newarray k => cases h
  case anewarray k => cases h
  case aastore => cases h
  all_goals
    simp only [bm_st, bm_k] at h
    split at h
    · next hp => cases h; exact am_step_pure rfl rfl hp
    · cases h
