/-! what a text's row keeps while it is read -/
theorem inbN {v : Int32} {m : Nat} (hm : m < 2147483648) (h : inb v 0 (nI m) = true) : ∃ k, k ≤ m ∧ v = nI k := by
  unfold inb at h
  rw [Bool.and_eq_true, decide_eq_true_eq, decide_eq_true_eq] at h
  obtain ⟨h1, h2⟩ := h
  obtain ⟨j, hj, rfl⟩ := nI_of h1
  refine ⟨j, ?_, rfl⟩
  rcases Nat.lt_or_ge m j with q | q
  · exact absurd (nI_lt q hj) h2
  · exact q
theorem inb1 {v : Int32} {m : Nat} (hm : m < 2147483648) (h : inb v 1 (nI m) = true) : ∃ k, 1 ≤ k ∧ k ≤ m ∧ v = nI k := by
  have h0 := h
  unfold inb at h
  rw [Bool.and_eq_true, decide_eq_true_eq, decide_eq_true_eq] at h
  obtain ⟨h1, h2⟩ := h
  have h3 : ¬ v < 0 := fun z => h1 (Int32.lt_trans z (by decide))
  obtain ⟨k, hk, rfl⟩ := inbN hm (show inb v 0 (nI m) = true by unfold inb; rw [Bool.and_eq_true, decide_eq_true_eq, decide_eq_true_eq]; exact ⟨h3, h2⟩)
  refine ⟨k, ?_, hk, rfl⟩
  rcases Nat.lt_or_ge k 1 with q | q
  · have : k = 0 := by omega
    subst this
    exact absurd (show nI 0 < 1 by decide) h1
  · exact q
theorem inbM {v : Int32} {M : Nat} (hM : M ≤ 6) (h : inb v 0 (nI M - 1) = true) : ∃ k, k < M ∧ v = nI k := by
  cases M with
  | zero =>
    exfalso
    unfold inb at h
    rw [Bool.and_eq_true, decide_eq_true_eq, decide_eq_true_eq] at h
    obtain ⟨h1, h2⟩ := h
    have e : nI 0 - 1 < 0 := by decide
    rcases Int32.lt_or_le v 0 with q | q
    · exact h1 q
    · exact h2 (Int32.lt_of_lt_of_le e q)
  | succ M =>
    have e : nI (M + 1) - 1 = nI M := by
      have : nI (M + 1) = nI M + 1 := (nI_1 M).symm
      rw [this, Int32.add_sub_cancel]
    rw [e] at h
    obtain ⟨k, hk, ek⟩ := inbN (by omega) h
    exact ⟨k, by omega, ek⟩
theorem nv_1 {T : Nat → Int32} {s e : Nat} (h : ∀ i, s ≤ i → i < e → isD (T i) = true ∧ ∃ k, k < 256 ∧ T i = nI k) : ∀ j, s + j ≤ e → j ≤ 3 → ∃ k, k < 10 ^ j ∧ nvF T s j = nI k := by
  have dg : ∀ m, m < 256 → isD (nI m) = true → ∃ x, x < 10 ∧ m = 48 + x := by
    intro m hm hd
    unfold isD at hd
    rw [Bool.and_eq_true, decide_eq_true_eq, decide_eq_true_eq] at hd
    obtain ⟨h1, h2⟩ := hd
    have a : 48 ≤ m := by
      rcases Nat.lt_or_ge m 48 with q | q
      · exact absurd (nI_lt (b := 48) q (by decide)) h1
      · exact q
    have b : m ≤ 57 := by
      rcases Nat.lt_or_ge 57 m with q | q
      · exact absurd (nI_lt (a := 57) q (by omega)) h2
      · exact q
    exact ⟨m - 48, by omega, by omega⟩
  intro j
  induction j with
  | zero => intro _ _; exact ⟨0, by decide, rfl⟩
  | succ j ih =>
    intro h1 h2
    obtain ⟨k, hk, ek⟩ := ih (by omega) (by omega)
    obtain ⟨hd, m, hm, em⟩ := h (s + j) (by omega) (by omega)
    rw [em] at hd
    obtain ⟨x, hx, ex⟩ := dg m hm hd
    refine ⟨10 * k + x, by rw [Nat.pow_succ]; omega, ?_⟩
    have k3 : k < 1000 := Nat.lt_of_lt_of_le hk (Nat.pow_le_pow_right (n := 10) (by decide) (show j ≤ 3 by omega))
    rw [nvF, ek, em, ex]
    have z : ∀ k, k < 1000 → ∀ x, x < 10 → 10 * nI k + nI (48 + x) - 48 = nI (10 * k + x) := by
      intro k _ x _
      have e1 : 10 * nI k = nI (10 * k) := (Int32.ofNat_mul 10 k).symm
      have e2 : nI (10 * k) + nI (48 + x) = nI (10 * k + x) + 48 := by
        rw [nI_add]
        have : nI (10 * k + x) + 48 = nI (10 * k + x + 48) := nI_add (10 * k + x) 48
        rw [this]
        congr 1
        omega
      rw [e1, e2, Int32.add_sub_cancel]
    exact z k k3 x hx
theorem vN_n {T : Nat → Int32} {n : Nat} (h : ∀ i, i < n → ∃ k, k < 256 ∧ T i = nI k) {i : Nat} (hq : qN T n i = 20) : ∃ k, k < 1000 ∧ vN T n i = nI k := by
  unfold qN vN tkN tkF at *
  generalize ruF isSp T (n - poF T n i) (poF T n i) = s at *
  simp only at hq ⊢
  by_cases q : n ≤ s
  · rw [if_pos q] at hq; exact absurd (show (21 : Nat) = 20 from hq) (by decide)
  rw [if_neg q] at hq ⊢
  cases ql : isL (T s)
  · rw [ql] at hq
    simp only [Bool.false_eq_true, if_false] at hq ⊢
    cases qd : isD (T s)
    · rw [qd] at hq
      simp only [Bool.false_eq_true, if_false] at hq
      have := (gq_r (T s) 12 (Nat.le_refl _)).1
      exact absurd hq (by show ¬ gqF (T s) 12 = 20; omega)
    · simp only [if_true]
      have le := (ruF_le (P := isD) (T := T) (n - s) s)
      have al := ruF_all (P := isD) (T := T) (n - s) s
      generalize ruF isD T (n - s) s = e at *
      obtain ⟨k, hk, ek⟩ := nv_1 (T := T) (s := s) (e := e) (fun i h1 h2 => ⟨al i h1 h2, h i (by omega)⟩) (min (e - s) 3) (by omega) (by omega)
      exact ⟨k, Nat.lt_of_lt_of_le hk (Nat.pow_le_pow_right (n := 10) (by decide) (show min (e - s) 3 ≤ 3 by omega)), ek⟩
  · rw [ql] at hq
    simp only [if_true] at hq
    have := (wq_r (wo T s (ruF isL T (n - s) s))).2
    exact absurd hq (by show ¬ wqF _ = 20; omega)
theorem tr_n {k : Nat} (h : k < 1000) : trI (nI k) = nI k := by
  unfold trI
  have l : nI k < 1000 := nI_lt (b := 1000) h (by decide)
  rw [if_pos l]
/-- a law's code where it lies -/
def LG (a p n : Int32) (time : Bool) (C : List Int32) : Prop := ¬ a = 0 → ∃ k E, p = nI k ∧ n = nI E.length ∧ GE time E time 60 ∧ k + E.length ≤ C.length ∧ ∀ m, m < E.length → C.getD (k + m) 0 = E.getD m 0
theorem LG.app {a p n : Int32} {time : Bool} {C : List Int32} (h : LG a p n time C) (E2 : List Int32) : LG a p n time (C ++ E2) := by
  intro z
  obtain ⟨k, E, h1, h2, h3, h4, h5⟩ := h z
  refine ⟨k, E, h1, h2, h3, by rw [List.length_append]; omega, fun m hm => ?_⟩
  rw [← h5 m hm, List.getD_eq_getElem?_getD, List.getElem?_append_left (by omega), ← List.getD_eq_getElem?_getD]
def GRW (R : Nat → Int32) : Prop := ∃ M L, (M ≤ 6 ∧ L ≤ 12 ∧ R 3 = nI M ∧ R 25 = nI L) ∧ GO M L R ∧ GM L R ∧ (∀ m, m < M → ∃ k, k ≤ 999 ∧ R (26 + m) = nI k) ∧ (∀ l, l < L → ∃ k, k ≤ 9 ∧ R (10 + l) = nI k) ∧ (∀ l, L ≤ l → l < 12 → R (10 + l) = 0)
def GRZ (R : Nat → Int32) : Prop := (R 23 = 0 ∧ R 24 = 0 ∧ R 92 = 0) ∧ ∀ l, l < 12 → R (80 + l) = 0
def GRB (R : Nat → Int32) : Prop := (∃ f, 1 ≤ f ∧ f ≤ 6 ∧ R 1 = nI f) ∧ ∃ n, 1 ≤ n ∧ n ≤ 4 ∧ R 2 = nI n
def GRL (R : Nat → Int32) (C : List Int32) : Prop := LG (R 4) (R 6) (R 8) false C ∧ LG (R 5) (R 7) (R 9) true C
def GR (R : Nat → Int32) (C : List Int32) : Prop := GRW R ∧ GRZ R ∧ GRB R ∧ GRL R C
theorem GRW.cg {R Q : Nat → Int32} (h : GRW R) (e : ∀ k, (k = 3 ∨ (10 ≤ k ∧ k < 22) ∨ (25 ≤ k ∧ k < 68)) → Q k = R k) : GRW Q := by
  obtain ⟨M, L, ⟨h1, h2, h3, h4⟩, go, gm, gc, lt, lz⟩ := h
  refine ⟨M, L, ⟨h1, h2, by rw [e 3 (by omega)]; exact h3, by rw [e 25 (by omega)]; exact h4⟩, fun l hl => ?_, fun l hl => ?_, fun m hm => ?_, fun l hl => ?_, fun l h5 h6 => ?_⟩
  · obtain ⟨a, b, ha, hb, hab, ea, eb⟩ := go l hl
    exact ⟨a, b, ha, hb, hab, by rw [e _ (by omega)]; exact ea, by rw [e _ (by omega)]; exact eb⟩
  · obtain ⟨k, hk, ek⟩ := gm l hl
    exact ⟨k, hk, by rw [e _ (by omega)]; exact ek⟩
  · obtain ⟨k, hk, ek⟩ := gc m hm
    exact ⟨k, hk, by rw [e _ (by omega)]; exact ek⟩
  · obtain ⟨k, hk, ek⟩ := lt l hl
    exact ⟨k, hk, by rw [e _ (by omega)]; exact ek⟩
  · rw [e _ (by omega)]; exact lz l h5 h6
theorem GRZ.cg {R Q : Nat → Int32} (h : GRZ R) (e : ∀ k, (k = 23 ∨ k = 24 ∨ (80 ≤ k ∧ k < 93)) → Q k = R k) : GRZ Q := ⟨⟨by rw [e 23 (by omega)]; exact h.1.1, by rw [e 24 (by omega)]; exact h.1.2.1, by rw [e 92 (by omega)]; exact h.1.2.2⟩, fun l hl => by rw [e _ (by omega)]; exact h.2 l hl⟩
theorem GRB.cg {R Q : Nat → Int32} (h : GRB R) (e : ∀ k, (k = 1 ∨ k = 2) → Q k = R k) : GRB Q := ⟨by rw [e 1 (by omega)]; exact h.1, by rw [e 2 (by omega)]; exact h.2⟩
theorem GRL.cg {R Q : Nat → Int32} {C : List Int32} (h : GRL R C) (e : ∀ k, (4 ≤ k ∧ k < 10) → Q k = R k) : GRL Q C := ⟨by rw [e 4 (by omega), e 6 (by omega), e 8 (by omega)]; exact h.1, by rw [e 5 (by omega), e 7 (by omega), e 9 (by omega)]; exact h.2⟩
theorem GR.mr {q : Nat → Nat} {v : Nat → Int32} {M i j : Nat} {R R2 : Nat → Int32} {C C2 : List Int32} (g : GR R C) (hM : M ≤ 6) (e3 : R 3 = nI M) (h : mrz q v M i R C = Sum.inl (j, R2, C2)) : GR R2 C2 := by
  unfold mrz at h
  by_cases b : M = 6
  · rw [if_pos b] at h; cases h
  rw [if_neg b] at h
  cases hx : nmx q v 0 999 (Sum.inl (i + 1)) with
  | inr e => rw [hx] at h; cases h
  | inl j1 =>
    rw [hx] at h
    obtain ⟨p, ep, _, _, hin⟩ := nmx_l hx
    have : i + 1 = p := Sum.inl.inj ep
    subst this
    obtain ⟨k, hk, ek⟩ := inbN (m := 999) (by decide) hin
    have e := Sum.inl.inj h
    have e2 : upd (upd R (26 + M) (v (i + 1))) 3 (nI (M + 1)) = R2 := congrArg (fun z => z.2.1) e
    have e3' : C = C2 := congrArg (fun z => z.2.2) e
    subst e2 e3'
    obtain ⟨⟨M2, L, ⟨h1, h2, h3, h4⟩, go, gm, gc, lt, lz⟩, gz, gb, gl⟩ := g
    have eM : M2 = M := (nI_eq (by omega) (by omega)).mp (h3.symm.trans e3)
    subst eM
    have n : ∀ k, k ≠ 3 → k ≠ 26 + M2 → upd (upd R (26 + M2) (v (i + 1))) 3 (nI (M2 + 1)) k = R k := fun k h1 h2 => by rw [upd_n _ _ h1, upd_n _ _ h2]
    refine ⟨⟨M2 + 1, L, ⟨by omega, h2, upd_s _ _ _, by rw [n 25 (by decide) (by omega)]; exact h4⟩, fun l hl => ?_, fun l hl => ?_, fun m hm => ?_, fun l hl => ?_, fun l h5 h6 => ?_⟩, gz.cg (fun k hk => n k (by omega) (by omega)), gb.cg (fun k hk => n k (by omega) (by omega)), gl.cg (fun k hk => n k (by omega) (by omega))⟩
    · obtain ⟨a, b, ha, hb, hab, ea, eb⟩ := go l hl
      exact ⟨a, b, by omega, by omega, hab, by rw [n _ (by omega) (by omega)]; exact ea, by rw [n _ (by omega) (by omega)]; exact eb⟩
    · obtain ⟨k, hk, ek⟩ := gm l hl
      exact ⟨k, hk, by rw [n _ (by omega) (by omega)]; exact ek⟩
    · by_cases z : m = M2
      · subst z
        exact ⟨k, by omega, by rw [upd_n _ _ (by omega), upd_s]; exact ek⟩
      · obtain ⟨k, hk, ek⟩ := gc m (by omega)
        exact ⟨k, hk, by rw [n _ (by omega) (by omega)]; exact ek⟩
    · obtain ⟨k, hk, ek⟩ := lt l hl
      exact ⟨k, hk, by rw [n _ (by omega) (by omega)]; exact ek⟩
    · rw [n _ (by omega) (by omega)]; exact lz l h5 h6
theorem GR.fr {q : Nat → Nat} {v : Nat → Int32} {i j : Nat} {R R2 : Nat → Int32} {C C2 : List Int32} (g : GR R C) (h : frz q v i R C = Sum.inl (j, R2, C2)) : GR R2 C2 := by
  unfold frz at h
  cases hx : nmx q v 0 999 (Sum.inl (i + 1)) with
  | inr e => rw [hx] at h; cases h
  | inl j1 =>
    rw [hx] at h
    have e := Sum.inl.inj h
    have e2 : upd R 22 (v (i + 1)) = R2 := congrArg (fun z => z.2.1) e
    have e3 : C = C2 := congrArg (fun z => z.2.2) e
    subst e2 e3
    have n : ∀ k, k ≠ 22 → upd R 22 (v (i + 1)) k = R k := fun k h1 => by rw [upd_n _ _ h1]
    exact ⟨g.1.cg (fun k hk => n k (by omega)), g.2.1.cg (fun k hk => n k (by omega)), g.2.2.1.cg (fun k hk => n k (by omega)), g.2.2.2.cg (fun k hk => n k (by omega))⟩
theorem GR.lt {q : Nat → Nat} {v : Nat → Int32} {M L i j : Nat} {R R2 : Nat → Int32} {C C2 : List Int32} (g : GR R C) (hM : M ≤ 6) (hL : L ≤ 12) (e3 : R 3 = nI M) (e25 : R 25 = nI L) (h : ltz q v M L i R C = Sum.inl (j, R2, C2)) : GR R2 C2 := by
  unfold ltz at h
  by_cases bL : L = 12
  · rw [if_pos bL] at h; cases h
  rw [if_neg bL] at h
  cases hx : lt5 q v M i with
  | inr e => rw [hx] at h; cases h
  | inl j1 =>
    rw [hx] at h
    have eh := Sum.inl.inj h
    have e2 : lwR R L (v (i + 1)) (v (i + 3)) (v (i + 5)) (v (i + 7)) (if q (i + 8) = 7 then v (i + 9) else 0) = R2 := congrArg (fun z => z.2.1) eh
    have e3' : C = C2 := congrArg (fun z => z.2.2) eh
    cases hy : lt4 q v M i with
    | inr e => unfold lt5 at hx; rw [hy] at hx; cases hx
    | inl j8 =>
      obtain ⟨y8, y7, y2, y1, y6, y5, y4, y0⟩ := lt4_l hy
      have pl : ∀ {lo up : Int32} {p r : Nat} {x : xzR}, nmx q v lo up x = Sum.inl r → x = Sum.inl p → q p = 20 ∧ inb (v p) lo up = true := by
        intro lo up p r x hn hxp
        obtain ⟨a, ea, _, qa, ia⟩ := nmx_l hn
        rw [hxp] at ea
        have : p = a := Sum.inl.inj ea
        subst this
        exact ⟨qa, ia⟩
      obtain ⟨_, ia⟩ := pl y0 rfl
      obtain ⟨qb, ib⟩ := pl y4 y2
      obtain ⟨_, ic⟩ := pl y6 y5
      obtain ⟨a, ha, ea⟩ := inbM hM ia
      obtain ⟨b, hb, eb⟩ := inbM hM ib
      obtain ⟨c, _, hc, ec⟩ := inb1 (m := 999) (by decide) ic
      have hab : a ≠ b := by
        intro z
        unfold lt2 at y2
        rw [y1] at y2
        change (if q (i + 3) = 20 ∧ v (i + 3) = v (i + 1) then Sum.inr (3, i + 3) else Sum.inl (i + 3) : xzR) = Sum.inl (i + 3) at y2
        rw [if_pos ⟨qb, by rw [eb, ea, z]⟩] at y2
        cases y2
      have hl : ∃ k, k ≤ 9 ∧ (if q (i + 8) = 7 then v (i + 9) else 0) = nI k := by
        unfold lt5 at hx
        rw [hy, y8] at hx
        change (if q (i + 8) = 7 then nmx q v 0 9 (Sum.inl (i + 8 + 1)) else Sum.inl (i + 8)) = Sum.inl j1 at hx
        by_cases b7 : q (i + 8) = 7
        · rw [if_pos b7] at hx
          obtain ⟨_, ie⟩ := pl hx rfl
          rw [if_pos b7]
          exact inbN (m := 9) (by decide) ie
        · rw [if_neg b7]
          exact ⟨0, by decide, rfl⟩
      obtain ⟨e, he, ee⟩ := hl
      rw [ea, eb, ec, ee] at e2
      generalize v (i + 7) = ve at *
      subst e2 e3'
      obtain ⟨⟨M2, L2, ⟨h1, h2, h3, h4⟩, go, gm, gc, lt, lz⟩, gz, gb, gl⟩ := g
      have eM : M2 = M := (nI_eq (by omega) (by omega)).mp (h3.symm.trans e3)
      have eL : L2 = L := (nI_eq (by omega) (by omega)).mp (h4.symm.trans e25)
      subst eM eL
      have n : ∀ k, k ≠ 25 → k ≠ 10 + L2 → k ≠ 68 + L2 → k ≠ 56 + L2 → k ≠ 44 + L2 → k ≠ 32 + L2 → lwR R L2 (nI a) (nI b) (nI c) ve (nI e) k = R k := fun k h1 h2 h3 h4 h5 h6 => by unfold lwR; rw [upd_n _ _ h1, upd_n _ _ h2, upd_n _ _ h3, upd_n _ _ h4, upd_n _ _ h5, upd_n _ _ h6]
      have ns : ∀ k, (k < 10 ∨ (22 ≤ k ∧ k < 25) ∨ (26 ≤ k ∧ k < 32) ∨ (80 ≤ k ∧ k < 93)) → lwR R L2 (nI a) (nI b) (nI c) ve (nI e) k = R k := fun k hk => n k (by omega) (by omega) (by omega) (by omega) (by omega) (by omega)
      refine ⟨⟨M2, L2 + 1, ⟨by omega, by omega, by rw [ns 3 (by omega)]; exact h3, by unfold lwR; rw [upd_s]⟩, fun l hl => ?_, fun l hl => ?_, fun m hm => ?_, fun l hl => ?_, fun l h5 h6 => ?_⟩, gz.cg (fun k hk => ns k (by omega)), gb.cg (fun k hk => ns k (by omega)), gl.cg (fun k hk => ns k (by omega))⟩
      · by_cases z : l = L2
        · subst z
          refine ⟨a, b, ha, hb, hab, ?_, ?_⟩
          · unfold lwR
            rw [upd_n _ _ (by omega), upd_n _ _ (by omega), upd_n _ _ (by omega), upd_n _ _ (by omega), upd_n _ _ (by omega), upd_s]
          · unfold lwR
            rw [upd_n _ _ (by omega), upd_n _ _ (by omega), upd_n _ _ (by omega), upd_n _ _ (by omega), upd_s]
        · obtain ⟨a, b, ha, hb, hab, ea, eb⟩ := go l (by omega)
          exact ⟨a, b, by omega, by omega, hab, by rw [n _ (by omega) (by omega) (by omega) (by omega) (by omega) (by omega)]; exact ea, by rw [n _ (by omega) (by omega) (by omega) (by omega) (by omega) (by omega)]; exact eb⟩
      · by_cases z : l = L2
        · subst z
          refine ⟨c, hc, ?_⟩
          unfold lwR
          rw [upd_n _ _ (by omega), upd_n _ _ (by omega), upd_n _ _ (by omega), upd_s]
        · obtain ⟨k, hk, ek⟩ := gm l (by omega)
          exact ⟨k, hk, by rw [n _ (by omega) (by omega) (by omega) (by omega) (by omega) (by omega)]; exact ek⟩
      · obtain ⟨k, hk, ek⟩ := gc m hm
        exact ⟨k, hk, by rw [ns _ (by omega)]; exact ek⟩
      · by_cases z : l = L2
        · subst z
          refine ⟨e, he, ?_⟩
          unfold lwR
          rw [upd_n _ _ (by omega), upd_s]
        · obtain ⟨k, hk, ek⟩ := lt l (by omega)
          exact ⟨k, hk, by rw [n _ (by omega) (by omega) (by omega) (by omega) (by omega) (by omega)]; exact ek⟩
      · rw [n _ (by omega) (by omega) (by omega) (by omega) (by omega) (by omega)]; exact lz l (by omega) h6
theorem GR.lw {q : Nat → Nat} {v : Nat → Int32} {K i j : Nat} {time : Bool} {R R2 : Nat → Int32} {C C2 : List Int32} (hv : ∀ i, q i = 20 → ∃ k, k < 1000 ∧ v i = nI k) (g : GR R C) (h : lwz time q v K i R C = Sum.inl (j, R2, C2)) : GR R2 C2 := by
  unfold lwz at h
  cases hx : tkx q 24 (Sum.inl (i + 1)) with
  | inr e => rw [hx] at h; cases h
  | inl j1 =>
    rw [hx] at h
    simp only at h
    cases hy : pz time q v (K + 1) 31 (if time = true then 0 else 3) 0 j1 C with
    | inr e => rw [hy] at h; cases h
    | inl p =>
      obtain ⟨j2, C3⟩ := p
      obtain ⟨E, eE, ge⟩ := pz_ty hv 31 _ _ _ _ _ _ (by split <;> omega) hy
      have et : decide ((if time = true then 0 else 3) ≤ 2) = time := by cases time <;> rfl
      rw [et] at ge
      rw [hy] at h
      have e := Sum.inl.inj h
      have e2 := congrArg (fun z => z.2.1) e
      have e3 : C3 = C2 := congrArg (fun z => z.2.2) e
      simp only at e2
      subst e2 e3 eE
      have el : nI (C ++ E).length - nI C.length = nI E.length := by
        rw [List.length_append, ← nI_add, Int32.add_comm, Int32.add_sub_cancel]
      have lg : LG 1 (nI C.length) (nI (C ++ E).length - nI C.length) time (C ++ E) := fun _ => ⟨C.length, E, rfl, el, ge.up (by decide), by rw [List.length_append]; omega, fun m hm => by rw [List.getD_eq_getElem?_getD, List.getElem?_append_right (by omega), Nat.add_sub_cancel_left, ← List.getD_eq_getElem?_getD]⟩
      obtain ⟨gw, gz, gb, gl1, gl2⟩ := g
      cases time
      · have n : ∀ k, k ≠ 4 → k ≠ 6 → k ≠ 8 → upd (upd (upd R (4 + (if false = true then 1 else 0)) 1) (6 + (if false = true then 1 else 0)) (nI C.length)) (8 + (if false = true then 1 else 0)) (nI (C ++ E).length - nI C.length) k = R k := fun k h1 h2 h3 => (show upd (upd (upd R 4 1) 6 (nI C.length)) 8 (nI (C ++ E).length - nI C.length) k = R k by rw [upd_n _ _ h3, upd_n _ _ h2, upd_n _ _ h1])
        refine ⟨gw.cg (fun k hk => n k (by omega) (by omega) (by omega)), gz.cg (fun k hk => n k (by omega) (by omega) (by omega)), gb.cg (fun k hk => n k (by omega) (by omega) (by omega)), ?_, ?_⟩
        · exact lg
        · rw [n 5 (by decide) (by decide) (by decide), n 7 (by decide) (by decide) (by decide), n 9 (by decide) (by decide) (by decide)]
          exact gl2.app E
      · have n : ∀ k, k ≠ 5 → k ≠ 7 → k ≠ 9 → upd (upd (upd R (4 + (if true = true then 1 else 0)) 1) (6 + (if true = true then 1 else 0)) (nI C.length)) (8 + (if true = true then 1 else 0)) (nI (C ++ E).length - nI C.length) k = R k := fun k h1 h2 h3 => (show upd (upd (upd R 5 1) 7 (nI C.length)) 9 (nI (C ++ E).length - nI C.length) k = R k by rw [upd_n _ _ h3, upd_n _ _ h2, upd_n _ _ h1])
        refine ⟨gw.cg (fun k hk => n k (by omega) (by omega) (by omega)), gz.cg (fun k hk => n k (by omega) (by omega) (by omega)), gb.cg (fun k hk => n k (by omega) (by omega) (by omega)), ?_, ?_⟩
        · rw [n 4 (by decide) (by decide) (by decide), n 6 (by decide) (by decide) (by decide), n 8 (by decide) (by decide) (by decide)]
          exact gl1.app E
        · exact lg
/-- what every line keeps, of the row -/
theorem GR.ln {q : Nat → Nat} {v : Nat → Int32} {K i j : Nat} {R R2 : Nat → Int32} {C C2 : List Int32} (hv : ∀ i, q i = 20 → ∃ k, k < 1000 ∧ v i = nI k) (g : GR R C) (h : lnz q v K i R C = Sum.inl (j, R2, C2)) : GR R2 C2 := by
  obtain ⟨M, L, ⟨hM, hL, eM, eL⟩, _⟩ := g.1
  have cM : cN (R 3) = M := by rw [eM]; exact cN_nI (by omega)
  have cL : cN (R 25) = L := by rw [eL]; exact cN_nI (by omega)
  unfold lnz at h
  rw [cM, cL] at h
  by_cases a2 : q i = 2
  · rw [if_pos a2] at h; exact g.mr hM eM h
  rw [if_neg a2] at h
  by_cases a3 : q i = 3
  · rw [if_pos a3] at h; exact g.lt hM hL eM eL h
  rw [if_neg a3] at h
  by_cases a8 : q i = 8
  · rw [if_pos a8] at h; exact g.lw hv h
  rw [if_neg a8] at h
  by_cases a9 : q i = 9
  · rw [if_pos a9] at h; exact g.lw hv h
  rw [if_neg a9] at h
  by_cases a10 : q i = 10
  · rw [if_pos a10] at h; exact g.fr h
  · rw [if_neg a10] at h; cases h
theorem GR.up {R : Nat → Int32} {C : List Int32} (g : GR R C) (x : Int32) : GR (upd R 0 x) C := by
  have n : ∀ k, k ≠ 0 → upd R 0 x k = R k := fun k h1 => by rw [upd_n _ _ h1]
  exact ⟨g.1.cg (fun k hk => n k (by omega)), g.2.1.cg (fun k hk => n k (by omega)), g.2.2.1.cg (fun k hk => n k (by omega)), g.2.2.2.cg (fun k hk => n k (by omega))⟩
