/-! what a fair keeps -/
/-- no owed letter is of one who is broken -/
def NB (L : Nat) (B : Nat → Int32) : Prop := ∀ l, l < L → oB B l = true → ∀ m, m < 32 → tb (B 24) m = true → tou B (nI m) l = false
/-- who isn't there isn't broken -/
def BM (M : Nat) (B : Nat → Int32) : Prop := ∀ m, M ≤ m → m < 32 → tb (B 24) m = false
theorem faB_out {M L : Nat} (hM : M ≤ 6) (hL : L ≤ 12) {B : Nat → Int32} {D : Nat → Bool} {i : Nat} (h : i < 22 ∨ i = 23 ∨ i = 25 ∨ (32 ≤ i ∧ i < 68) ∨ 92 ≤ i) : faB M L B D i = B i := by
  unfold faB enB
  rw [upd_n _ _ (by omega), itR_out, itR_out]
  · exact eqS_tuF hL 13 (B, D) i (by omega) (by omega)
  · intro C l hl
    unfold caF
    exact upd_n _ _ (by omega)
  · intro C l hl
    unfold paF
    split
    · exact upd_n _ _ (by omega)
    · rfl
theorem enB_out {M L : Nat} (hM : M ≤ 6) (hL : L ≤ 12) {s : fS} {i : Nat} (h : i < 26 ∨ (26 + M ≤ i ∧ i < 80) ∨ 80 + L ≤ i) : enB M L s i = s.1 i := by
  unfold enB
  rw [itR_out, itR_out]
  · intro C l hl
    unfold caF
    exact upd_n _ _ (by omega)
  · intro C l hl
    unfold paF
    split
    · exact upd_n _ _ (by omega)
    · rfl
theorem enB_cash {M L : Nat} (hM : M ≤ 6) (hL : L ≤ 12) {s : fS} {m : Nat} (h : m < M) : enB M L s (26 + m) = mn (s.1 (26 + m) + netF s.2 s.1 L m) := by
  unfold enB
  rw [itR_out, itR_at h]
  · unfold caF
    rw [upd_s, itR_out]
    intro C l hl
    exact upd_n _ _ (by omega)
  · intro C k hk hne
    unfold caF
    exact upd_n _ _ (by omega)
  · intro C l hl
    unfold paF
    split
    · exact upd_n _ _ (by omega)
    · rfl
theorem enB_how {M L : Nat} (hM : M ≤ 6) (hL : L ≤ 12) {s : fS} {l : Nat} (h : l < L) : enB M L s (80 + l) = if s.2 l = true then 1 else s.1 (80 + l) := by
  unfold enB
  have e : ∀ n, n ≤ l → itR (paF s.2) (itR (caF (netF s.2 s.1 L)) s.1 M) n (80 + l) = s.1 (80 + l) := by
    intro n hn
    rw [itR_out, itR_out]
    · intro C k hk
      unfold caF
      exact upd_n _ _ (by omega)
    · intro C k hk
      unfold paF
      split
      · exact upd_n _ _ (by omega)
      · rfl
  rw [itR_at h]
  · have e2 := e l (Nat.le_refl l)
    generalize itR (paF s.2) (itR (caF (netF s.2 s.1 L)) s.1 M) l = C at e2
    unfold paF
    split
    · rw [upd_s]
    · exact e2
  · intro C k hk hne
    unfold paF
    split
    · exact upd_n _ _ (by omega)
    · rfl
theorem net_rng {M L : Nat} {B : Nat → Int32} {D : Nat → Bool} (g : GO M L B) (gm : GM L B) (hM : M ≤ 6) (hL : L ≤ 12) (m : Nat) : ∀ n, n ≤ L → -(999 * (n : Int)) ≤ (netF D B n m).toInt ∧ (netF D B n m).toInt ≤ 999 * (n : Int) := by
  intro n
  induction n with
  | zero => intro _; have : (netF D B 0 m).toInt = 0 := by show (0 : Int32).toInt = 0; decide +kernel
            rw [this]; omega
  | succ n ih =>
    intro hn
    obtain ⟨h1, h2⟩ := ih (by omega)
    rw [netF]
    by_cases q : D n = true
    · obtain ⟨a, b, ha, hb, hab, ea, eb⟩ := g n (by omega)
      obtain ⟨v, hv, ev⟩ := gm n (by omega)
      rw [if_pos q, ea, eb, cN_nI (by omega), cN_nI (by omega), ev]
      have hvi := nI_toInt2 (show v < 2147483648 by omega)
      by_cases q1 : m = b
      · subst q1
        rw [upd_s, upd_n _ _ (fun z => hab z.symm), Int32.toInt_add, hvi, Int.bmod_eq_of_le (by omega) (by omega)]
        omega
      · rw [upd_n _ _ q1]
        by_cases q2 : m = a
        · subst q2
          rw [upd_s, Int32.toInt_sub, hvi, Int.bmod_eq_of_le (by omega) (by omega)]
          omega
        · rw [upd_n _ _ q2]; omega
    · rw [if_neg q]; omega
theorem net_0 {M L : Nat} {B : Nat → Int32} {D : Nat → Bool} (g : GO M L B) (hM : M ≤ 6) (hL : L ≤ 12) {m : Nat} : ∀ n, n ≤ L → (∀ l, l < n → D l = true → tou B (nI m) l = false) → netF D B n m = 0 := by
  intro n
  induction n with
  | zero => intro _ _; rfl
  | succ n ih =>
    intro hn h
    have h0 := ih (by omega) (fun l hl => h l (by omega))
    rw [netF]
    by_cases q : D n = true
    · obtain ⟨a, b, ha, hb, hab, ea, eb⟩ := g n (by omega)
      have ht := h n (by omega) q
      simp only [tou, ea, eb, Bool.or_eq_false_iff, decide_eq_false_iff_not] at ht
      have na : ¬ m = a := fun z => ht.1 (by rw [z])
      have nb : ¬ m = b := fun z => ht.2 (by rw [z])
      rw [if_pos q, ea, eb, cN_nI (by omega), cN_nI (by omega), upd_n _ _ nb, upd_n _ _ na]
      exact h0
    · rw [if_neg q]; exact h0
theorem toInt_nI {x : Int32} (h : 0 ≤ x.toInt) : x = nI x.toInt.toNat := by
  apply Int32.toInt_inj.mp
  have h2 := Int32.toInt_lt x
  rw [nI_toInt2 (by omega)]
  omega
theorem tou_cg {B C : Nat → Int32} (e : eqS B C) {m : Int32} {l : Nat} (hl : l < 12) : tou C m l = tou B m l := by
  unfold tou; rw [e _ (by omega) (by omega), e _ (by omega) (by omega)]
theorem NB_seS {L : Nat} (hL : L ≤ 12) (B g : Nat → Int32) {s : fS} (h : NB L s.1) {m : Nat} (hm : m < 32) : NB L (seS L B g s m).1 := by
  unfold seS
  split
  · split
    · intro l hl ho k hk hb
      rw [tou_cg (eqS_pt hL) (by omega)]
      refine h l hl ?_ k hk ?_
      · unfold oB at ho ⊢; rw [← ho]; simp only [ptB_out (show 80 + l < 68 ∨ 68 + L ≤ 80 + l by omega)]
      · rw [← hb]; simp only [ptB_out (show 24 < 68 ∨ 68 + L ≤ 24 by omega)]
    · intro l hl ho k hk hb
      rw [tou_cg (eqS_br hL) (by omega)]
      unfold oB at ho
      simp only [brB_80 hL hl] at ho
      simp only [brB_24, tb_or, tb_bt m hm k hk] at hb
      cases q : (oB s.1 l && tou s.1 (nI m) l)
      · rw [q] at ho
        simp only [Bool.false_eq_true, if_false] at ho
        have ho2 : oB s.1 l = true := ho
        by_cases e : k = m
        · subst e
          rw [ho2, Bool.true_and] at q; exact q
        · simp only [e, decide_false, Bool.or_false] at hb
          exact h l hl ho2 k hk hb
      · rw [q] at ho
        rw [if_pos rfl] at ho
        exact absurd ho (by decide)
  · exact h
theorem NB_seF {L : Nat} (hL : L ≤ 12) (B g : Nat → Int32) {s : fS} (h : NB L s.1) : ∀ m, m ≤ 32 → NB L (seF L B g s m).1 := by
  intro m
  induction m with
  | zero => intro _; exact h
  | succ m ih => intro hm; exact NB_seS hL B g (ih (by omega)) (by omega)
theorem tuF_ok {M L : Nat} (hM : M ≤ 6) (hL : L ≤ 12) : ∀ (n : Nat) (s : fS), NB L s.1 → duO L s → BM M s.1 → NB L (tuF M L n s).1 ∧ duO L (tuF M L n s) ∧ BM M (tuF M L n s).1 := by
  intro n
  induction n with
  | zero => intro s h1 h2 h3; exact ⟨h1, h2, h3⟩
  | succ n ih =>
    intro s h1 h2 h3
    rw [tuF]
    split
    · exact ih _ (NB_seF hL _ _ h1 M (by omega)) (duO_seF hL _ _ h2 M) (fun m hm hk => by unfold tuS; rw [seF_24 _ _ _ hm hk]; exact h3 m hm hk)
    · exact ⟨h1, h2, h3⟩
/-- all that a world keeps -/
def GA (M L : Nat) (B : Nat → Int32) : Prop := GW M L B ∧ NB L B ∧ BM M B
theorem faB_GA {M L : Nat} (hM : M ≤ 6) (hL : L ≤ 12) {B : Nat → Int32} {D : Nat → Bool} (h : GA M L B) (hd : duO L (B, D)) : GA M L (faB M L B D) := by
  obtain ⟨⟨hl, go, gm, gc⟩, nb, bm⟩ := h
  obtain ⟨t1, t2, t3⟩ := tuF_ok hM hL 13 (B, D) nb hd bm
  have es := eqS_tuF (M := M) hL 13 (B, D)
  replace es : eqS B (tuF M L 13 (B, D)).1 := es
  obtain ⟨hno, _⟩ := tuF_more hM hL 13 (B, D) hd go gm gc (by have := cnD_n D L; simp only; omega)
  have fo : ∀ i, i ≠ 22 → faB M L B D i = enB M L (tuF M L 13 (B, D)) i := by
    intro i hi; unfold faB; exact upd_n _ _ hi
  have f24 : faB M L B D 24 = (tuF M L 13 (B, D)).1 24 := by rw [fo _ (by omega), enB_out hM hL (by omega)]
  have ft : ∀ m l, l < 12 → tou (faB M L B D) m l = tou (tuF M L 13 (B, D)).1 m l := by
    intro m l hl
    unfold tou
    rw [fo _ (by omega), fo _ (by omega), enB_out hM hL (by omega), enB_out hM hL (by omega)]
  generalize tuF M L 13 (B, D) = T at *
  have go2 := go.cg hL es
  have gm2 := gm.cg hL es
  have gc2 := gc.cg hM es
  refine ⟨⟨?_, ?_, ?_, ?_⟩, ?_, ?_⟩
  · have e2 : ∀ i, (i < 10 ∨ 92 ≤ i) → faB M L B D i = B i := fun i hi => faB_out hM hL (by omega)
    have hc : ∀ p j, cdB (faB M L B D) p j = cdB B p j := fun p j => e2 _ (by omega)
    have ht : ∀ p n, tyF (faB M L B D) p n = tyF B p n := by
      intro p n
      induction n with
      | zero => rfl
      | succ n ih => rw [tyF, tyF, ih, hc]
    unfold LW wfL at hl ⊢
    simp only [hc, ht]
    rw [e2 1 (by omega), e2 4 (by omega), e2 5 (by omega), e2 6 (by omega), e2 7 (by omega), e2 8 (by omega), e2 9 (by omega)]
    exact hl
  · intro l hl
    obtain ⟨a, b, ha, hb, hab, ea, eb⟩ := go l hl
    exact ⟨a, b, ha, hb, hab, by rw [faB_out hM hL (by omega)]; exact ea, by rw [faB_out hM hL (by omega)]; exact eb⟩
  · intro l hl
    obtain ⟨k, hk, ek⟩ := gm l hl
    exact ⟨k, hk, by rw [faB_out hM hL (by omega)]; exact ek⟩
  · intro m hm
    rw [fo _ (by omega), enB_cash hM hL hm]
    obtain ⟨c, hc, ec⟩ := gc2 m hm
    rw [ec]
    have hs := anS_no hno m hm
    cases hb : tb (T.1 24) m
    · have es : shF T.1 (netF T.2 T.1 L) m = -(nI c + netF T.2 T.1 L m) := by unfold shF; rw [hb, ec]; rfl
      rw [es] at hs
      obtain ⟨r1, r2⟩ := net_rng (D := T.2) go2 gm2 hM hL m L (Nat.le_refl L)
      have hci := nI_toInt2 (show c < 2147483648 by omega)
      have sum : (nI c + netF T.2 T.1 L m).toInt = c + (netF T.2 T.1 L m).toInt := by
        rw [Int32.toInt_add, hci, Int.bmod_eq_of_le (by omega) (by omega)]
      have pos : 0 ≤ (nI c + netF T.2 T.1 L m).toInt := by
        rw [Int32.lt_iff_toInt_lt, Int32.toInt_neg] at hs
        have z : (0 : Int32).toInt = 0 := by decide +kernel
        rw [z, sum, Int.bmod_eq_of_le (by omega) (by omega)] at hs
        rw [sum]; omega
      rw [toInt_nI pos]
      exact mn_le _ (by rw [sum]; omega)
    · have e0 := net_0 (D := T.2) go2 hM hL (m := m) L (Nat.le_refl L) (fun l hl hq => t1 l hl (t2 l hl hq) m (by omega) hb)
      rw [e0, Int32.add_zero]
      exact mn_le c (by omega)
  · intro l hl ho m hm hb
    rw [ft _ _ (by omega)]
    rw [f24] at hb
    unfold oB at ho
    rw [fo _ (by omega), enB_how hM hL hl] at ho
    split at ho
    · exact absurd ho (by decide)
    · exact t1 l hl ho m hm hb
  · intro m hm hk
    rw [f24]; exact t3 m hm hk
theorem muB_GA {M L : Nat} (hM : M ≤ 6) (hL : L ≤ 12) {B : Nat → Int32} (h : GA M L B) : GA M L (muB L B) := by
  obtain ⟨hw, nb, bm⟩ := h
  have e := eqG_mu hL B
  have e24 : muB L B 24 = B 24 := muB_out (by omega) (by omega)
  refine ⟨hw.cgG hM hL e, ?_, ?_⟩
  · intro l hl ho m hm hb
    rw [e24] at hb
    have e80 : muB L B (80 + l) = B (80 + l) := muB_out (by omega) (by omega)
    unfold oB at ho
    rw [e80] at ho
    have := nb l hl ho m hm hb
    unfold tou at this ⊢
    rw [e _ (by omega), e _ (by omega)]
    exact this
  · intro m hm hk; rw [e24]; exact bm m hm hk
theorem duO_dB (L : Nat) (B : Nat → Int32) : duO L (B, dB B (B 22)) := by
  intro l _ hq
  simp only [dB, Bool.and_eq_true] at hq
  exact hq.1
theorem hoB_GA {M L : Nat} (hM : M ≤ 6) (hL : L ≤ 12) {B : Nat → Int32} (h : GA M L B) (mu : Bool) : GA M L (hoB M L B mu) := by
  unfold hoB
  split
  · exact faB_GA hM hL (muB_GA hM hL h) (duO_dB L _)
  · exact faB_GA hM hL h (duO_dB L _)
theorem hoB_out {M L : Nat} (hM : M ≤ 6) (hL : L ≤ 12) {B : Nat → Int32} (mu : Bool) {i : Nat} (h : i < 22 ∨ i = 25 ∨ 92 ≤ i) : hoB M L B mu i = B i := by
  unfold hoB
  split
  · rw [faB_out hM hL (by omega), muB_out (by omega) (by omega)]
  · exact faB_out hM hL (by omega)
/-- fairs that follow each other, nothing late -/
def goB (M L : Nat) (B : Nat → Int32) : Nat → Nat → Int32
  | 0 => B
  | n + 1 => hoB M L (goB M L B n) false
theorem goB_GA {M L : Nat} (hM : M ≤ 6) (hL : L ≤ 12) {B : Nat → Int32} (h : GA M L B) : ∀ n, GA M L (goB M L B n) := by
  intro n
  induction n with
  | zero => exact h
  | succ n ih => exact hoB_GA hM hL ih false
theorem goB_out {M L : Nat} (hM : M ≤ 6) (hL : L ≤ 12) {B : Nat → Int32} {i : Nat} (h : i < 22 ∨ i = 25 ∨ 92 ≤ i) : ∀ n, goB M L B n i = B i := by
  intro n
  induction n with
  | zero => rfl
  | succ n ih => rw [goB, hoB_out hM hL false h, ih]
