/-! one with a little more cash fares alike, as long as he breaks -/
theorem upd_comm (f : Nat → Int32) {j k : Nat} (x y : Int32) (h : j ≠ k) : upd (upd f j x) k y = upd (upd f k y) j x := by
  funext i
  by_cases e : i = k
  · subst e
    rw [upd_s, upd_n _ _ (fun z => h z.symm), upd_s]
  · rw [upd_n _ _ e]
    by_cases e2 : i = j
    · subst e2; rw [upd_s, upd_s]
    · rw [upd_n _ _ e2, upd_n _ _ e2, upd_n _ _ e]
def ups (m : Nat) (v : Int32) (s : fS) : fS := (upd s.1 (26 + m) v, s.2)
/-- the law asks not for cash nor for what is short -/
def NM (B : Nat → Int32) : Prop := ∀ f a c s c2 s2, tmB (upd B 22 f) a c s = tmB (upd B 22 f) a c2 s2
theorem upd_self (f : Nat → Int32) (k : Nat) : upd f k (f k) = f := by
  funext i
  by_cases e : i = k
  · subst e; rw [upd_s]
  · rw [upd_n _ _ e]
theorem NM.at {B : Nat → Int32} (h : NM B) (a c s c2 s2 : Int32) : tmB B a c s = tmB B a c2 s2 := by
  have := h (B 22) a c s c2 s2
  rw [upd_self] at this
  exact this
/-- what holds of each shortage of one at a fair -/
def shO (M L m : Nat) (P : Int32 → Prop) : Nat → fS → Prop
  | 0, _ => True
  | n + 1, s => (0 < shF s.1 (netF s.2 s.1 L) m → P (shF s.1 (netF s.2 s.1 L) m)) ∧ (anF M L s = true → shO M L m P n (tuS M L s))
theorem shO_le {M L m : Nat} {P Q : Int32 → Prop} (h : ∀ x, P x → Q x) : ∀ n s, shO M L m P n s → shO M L m Q n s := by
  intro n
  induction n with
  | zero => intro _ _; trivial
  | succ n ih => intro s q; exact ⟨fun z => h _ (q.1 z), fun z => ih _ (q.2 z)⟩
theorem tmB_S {B C : Nat → Int32} (h : eqS B C) (a c s : Int32) : tmB C a c s = tmB B a c s := by
  have ev : ∀ W p n, evF W C p n = evF W B p n := by
    intro W p n
    induction n with
    | zero => rfl
    | succ n ih => rw [evF, evF, ih, show cdB C p n = cdB B p n from h _ (by omega) (by omega)]
  unfold tmB
  rw [h 5 (by omega) (by omega), h 1 (by omega) (by omega), h 22 (by omega) (by omega), h 7 (by omega) (by omega), h 9 (by omega) (by omega), ev]
section SKIP
variable {M L m : Nat} {B : Nat → Int32} {v : Int32}
theorem evF_u (hm : m < 6) (W : Nat → Int32) (p : Nat) : ∀ n, evF W (upd B (26 + m) v) p n = evF W B p n := by
  intro n
  induction n with
  | zero => rfl
  | succ n ih => rw [evF, evF, ih, show cdB (upd B (26 + m) v) p n = cdB B p n from upd_n _ _ (by omega)]
theorem tmB_u (hm : m < 6) (a c s : Int32) : tmB (upd B (26 + m) v) a c s = tmB B a c s := by
  unfold tmB
  rw [upd_n _ _ (show 5 ≠ 26 + m by omega), upd_n _ _ (show 1 ≠ 26 + m by omega), upd_n _ _ (show 22 ≠ 26 + m by omega), upd_n _ _ (show 7 ≠ 26 + m by omega), upd_n _ _ (show 9 ≠ 26 + m by omega), evF_u hm]
theorem evF_K {W C : Nat → Int32} (h : ∀ i, (i < 10 ∨ 92 ≤ i) → C i = B i) (f : Int32) (p : Nat) : ∀ n, evF W (upd C 22 f) p n = evF W (upd B 22 f) p n := by
  intro n
  induction n with
  | zero => rfl
  | succ n ih =>
    have e1 : cdB (upd C 22 f) p n = cdB C p n := upd_n _ _ (by omega)
    have e2 : cdB (upd B 22 f) p n = cdB B p n := upd_n _ _ (by omega)
    rw [evF, evF, ih, e1, e2, show cdB C p n = cdB B p n from h _ (by omega)]
theorem tmB_K {C : Nat → Int32} (h : ∀ i, (i < 10 ∨ 92 ≤ i) → C i = B i) (f a c s : Int32) : tmB (upd C 22 f) a c s = tmB (upd B 22 f) a c s := by
  unfold tmB
  rw [upd_s, upd_s, upd_n C f (show 5 ≠ 22 by decide), upd_n C f (show 1 ≠ 22 by decide), upd_n C f (show 7 ≠ 22 by decide), upd_n C f (show 9 ≠ 22 by decide), upd_n B f (show 5 ≠ 22 by decide), upd_n B f (show 1 ≠ 22 by decide), upd_n B f (show 7 ≠ 22 by decide), upd_n B f (show 9 ≠ 22 by decide), h 5 (by omega), h 1 (by omega), h 7 (by omega), h 9 (by omega), evF_K h]
theorem NM.K {C : Nat → Int32} (h : NM B) (e : ∀ i, (i < 10 ∨ 92 ≤ i) → C i = B i) : NM C := fun f a c s c2 s2 => by rw [tmB_K e, tmB_K e]; exact h f a c s c2 s2
theorem NM.S {C : Nat → Int32} (h : NM B) (e : eqS B C) : NM C := h.K (fun i hi => e i (by omega) (by omega))
theorem brS_u (hm : m < 6) (k : Int32) (C : Nat → Int32) (l : Nat) : brS k (upd C (26 + m) v) l = upd (brS k C l) (26 + m) v := by
  unfold brS oB tou
  rw [upd_n C v (show 80 + l ≠ 26 + m by omega), upd_n C v (show 32 + l ≠ 26 + m by omega), upd_n C v (show 44 + l ≠ 26 + m by omega)]
  split
  · exact upd_comm _ _ _ (by omega)
  · rfl
theorem brB_u (hm : m < 6) (k : Nat) : brB (upd B (26 + m) v) k L = upd (brB B k L) (26 + m) v := by
  have : ∀ n, itR (brS (nI k)) (upd (upd B (26 + m) v) 24 (B 24 ||| bt k)) n = upd (itR (brS (nI k)) (upd B 24 (B 24 ||| bt k)) n) (26 + m) v := by
    intro n
    induction n with
    | zero => exact upd_comm _ _ _ (by omega)
    | succ n ih => rw [itR, itR, ih, brS_u hm]
  unfold brB
  rw [upd_n B v (show 24 ≠ 26 + m by omega)]
  exact this L
theorem brD_u (hm : m < 6) (k : Nat) (D : Nat → Bool) : brD (upd B (26 + m) v) k D = brD B k D := by
  funext l
  unfold brD oB tou
  rw [upd_n B v (show 80 + l ≠ 26 + m by omega), upd_n B v (show 32 + l ≠ 26 + m by omega), upd_n B v (show 44 + l ≠ 26 + m by omega)]
theorem ptB_u (hm : m < 6) (k : Nat) (D : Nat → Bool) : ptB (upd B (26 + m) v) D k L = upd (ptB B D k L) (26 + m) v := by
  have : ∀ n, itR (ptS D (nI k)) (upd B (26 + m) v) n = upd (itR (ptS D (nI k)) B n) (26 + m) v := by
    intro n
    induction n with
    | zero => rfl
    | succ n ih =>
      rw [itR, itR, ih]
      unfold ptS
      rw [upd_n _ v (show 32 + n ≠ 26 + m by omega), upd_n _ v (show 68 + n ≠ 26 + m by omega)]
      split
      · exact upd_comm _ _ _ (by omega)
      · rfl
  exact this L
theorem ptD_u (hm : m < 6) (k : Nat) (D : Nat → Bool) : ptD (upd B (26 + m) v) k D = ptD B k D := by
  funext l
  unfold ptD
  rw [upd_n B v (show 32 + l ≠ 26 + m by omega)]
theorem net_u (hm : m < 6) (D : Nat → Bool) (n : Nat) : netF D (upd B (26 + m) v) n = netF D B n := netF_cg (fun _ _ => rfl) (fun l _ => ⟨upd_n _ _ (by omega), upd_n _ _ (by omega), upd_n _ _ (by omega)⟩)
theorem dB_u (hm : m < 6) (f : Int32) : dB (upd B (26 + m) v) f = dB B f := by
  funext l
  unfold dB
  rw [upd_n B v (show 80 + l ≠ 26 + m by omega), upd_n B v (show 68 + l ≠ 26 + m by omega)]
theorem shF_u (hm : m < 6) {g : Nat → Int32} {k : Nat} (h : k ≠ m) : shF (upd B (26 + m) v) g k = shF B g k := by
  unfold shF
  rw [upd_n B v (show 24 ≠ 26 + m by omega), upd_n B v (show 26 + k ≠ 26 + m by omega)]
theorem anS_u (hm : m < 6) {g : Nat → Int32} (hi : 0 < shF (upd B (26 + m) v) g m ↔ 0 < shF B g m) : ∀ n, anS (upd B (26 + m) v) g n = anS B g n := by
  intro n
  induction n with
  | zero => rfl
  | succ n ih =>
    rw [anS, anS, ih]
    by_cases e : n = m
    · subst e
      rw [decide_eq_decide.mpr hi]
    · rw [shF_u hm e]
theorem seF_u (hm : m < 6) {g : Nat → Int32} (ag : 0 < shF B g m → ∀ C, eqS B C → tmB C (nI m) v (shF (upd B (26 + m) v) g m) = tmB C (nI m) (B (26 + m)) (shF B g m)) (hL : L ≤ 12) (s : fS) (es : eqS B s.1) (hi : 0 < shF (upd B (26 + m) v) g m ↔ 0 < shF B g m) : ∀ n, seF L (upd B (26 + m) v) g (ups m v s) n = ups m v (seF L B g s n) := by
  intro n
  induction n with
  | zero => rfl
  | succ n ih =>
    rw [seF, seF, ih]
    have eC := es.tr (eqS_seF hL B g s n)
    generalize seF L B g s n = C at eC ⊢
    unfold seS ups
    by_cases e : n = m
    · subst e
      by_cases q : 0 < shF B g n
      · rw [if_pos (hi.mpr q), if_pos q]
        show (if tmB (upd C.1 (26 + n) v) (nI n) _ _ = true then _ else _) = _
        rw [tmB_u hm, upd_s, ag q C.1 eC]
        split
        · show (ptB (upd C.1 (26 + n) v) C.2 n L, ptD (upd C.1 (26 + n) v) n C.2) = _
          rw [ptB_u hm, ptD_u hm]
        · show (brB (upd C.1 (26 + n) v) n L, brD (upd C.1 (26 + n) v) n C.2) = _
          rw [brB_u hm, brD_u hm]
      · rw [if_neg (fun z => q (hi.mp z)), if_neg q]
    · rw [shF_u hm e, upd_n B v (show 26 + n ≠ 26 + m by omega)]
      split
      · show (if tmB (upd C.1 (26 + m) v) (nI n) _ _ = true then _ else _) = _
        rw [tmB_u hm]
        split
        · show (ptB (upd C.1 (26 + m) v) C.2 n L, ptD (upd C.1 (26 + m) v) n C.2) = _
          rw [ptB_u hm, ptD_u hm]
        · show (brB (upd C.1 (26 + m) v) n L, brD (upd C.1 (26 + m) v) n C.2) = _
          rw [brB_u hm, brD_u hm]
      · rfl
theorem sh_int {c : Nat} (hc : c ≤ 999999) {y : Int32} (h1 : -11988 ≤ y.toInt) (h2 : y.toInt ≤ 11988) : (-(nI c + y)).toInt = -((c : Int) + y.toInt) := by
  rw [Int32.toInt_neg, Int32.toInt_add, nI_toInt2 (by omega), Int.bmod_eq_of_le (n := ((c : Int) + y.toInt)) (by omega) (by omega), Int.bmod_eq_of_le (by omega) (by omega)]
theorem sh_iff (hm : m < 6) {c e : Nat} (hb : B (26 + m) = nI c) (h2 : c + e ≤ 999999) {g : Nat → Int32} (g1 : -11988 ≤ (g m).toInt) (g2 : (g m).toInt ≤ 11988) (hs : 0 < shF B g m → (e : Int) < (shF B g m).toInt) : 0 < shF (upd B (26 + m) (nI (c + e))) g m ↔ 0 < shF B g m := by
  unfold shF at hs ⊢
  rw [upd_n B _ (show 24 ≠ 26 + m by omega), upd_s, hb] at *
  cases q : tb (B 24) m
  · rw [q] at hs
    simp only [Bool.false_eq_true, if_false] at hs ⊢
    rw [Int32.lt_iff_toInt_lt, sh_int (by omega) g1 g2] at hs
    rw [Int32.lt_iff_toInt_lt, Int32.lt_iff_toInt_lt, sh_int h2 g1 g2, sh_int (by omega) g1 g2]
    have e : (0 : Int32).toInt = 0 := by decide +kernel
    rw [e] at *
    constructor
    · intro z; omega
    · intro z; have := hs z; omega
  · simp
theorem sh_sub (hm : m < 6) {c e : Nat} (hb : B (26 + m) = nI c) (q : tb (B 24) m = false) (g : Nat → Int32) : shF (upd B (26 + m) (nI (c + e))) g m = shF B g m - nI e := by
  unfold shF
  rw [upd_n B _ (show 24 ≠ 26 + m by omega), upd_s, hb, q]
  simp only [Bool.false_eq_true, if_false]
  rw [neg_sub2, ← nI_add, Int32.add_assoc, Int32.add_assoc, Int32.add_comm (nI e)]
theorem shF_nb {g : Nat → Int32} (h : 0 < shF B g m) : tb (B 24) m = false := by
  cases q : tb (B 24) m
  · rfl
  · unfold shF at h
    rw [if_pos q] at h
    exact absurd h (by decide)
theorem tuF_u (hm : m < M) (hM : M ≤ 6) (hL : L ≤ 12) {c e : Nat} (h2 : c + e ≤ 999999) {P : Int32 → Prop} : ∀ n (s : fS), (∀ x, P x → (e : Int) < x.toInt ∧ tmB s.1 (nI m) (nI (c + e)) (x - nI e) = tmB s.1 (nI m) (nI c) x) → GO M L s.1 → GM L s.1 → s.1 (26 + m) = nI c → shO M L m P n s → tuF M L n (ups m (nI (c + e)) s) = ups m (nI (c + e)) (tuF M L n s) := by
  intro n
  induction n with
  | zero => intro s _ _ _ _ _; rfl
  | succ n ih =>
    intro s ag go gm hc hs
    have hm6 : m < 6 := by omega
    have rg := net_rng (D := s.2) go gm hM hL m L (Nat.le_refl L)
    have hi := sh_iff hm6 hc h2 (g := netF s.2 s.1 L) (by omega) (by omega) (fun z => (ag _ (hs.1 z)).1)
    have ea : anF M L (ups m (nI (c + e)) s) = anF M L s := by
      unfold anF ups
      show anS (upd s.1 (26 + m) (nI (c + e))) (netF s.2 (upd s.1 (26 + m) (nI (c + e))) L) M = _
      rw [net_u hm6]
      exact anS_u hm6 hi M
    rw [tuF, tuF, ea]
    split
    · next q =>
      have eS := eqS_seF hL s.1 (netF s.2 s.1 L) s M
      have et : tuS M L (ups m (nI (c + e)) s) = ups m (nI (c + e)) (tuS M L s) := by
        unfold tuS
        show seF L (upd s.1 (26 + m) (nI (c + e))) (netF s.2 (upd s.1 (26 + m) (nI (c + e))) L) (ups m (nI (c + e)) s) M = _
        rw [net_u hm6]
        refine seF_u hm6 (fun z C eC => ?_) hL s (eqS.rfl _) hi M
        rw [sh_sub hm6 hc (shF_nb z), hc, tmB_S eC, tmB_S eC]
        exact (ag _ (hs.1 z)).2
      rw [et]
      refine ih _ (fun x px => ?_) (go.cg hL eS) (gm.cg hL eS) ((eS _ (by omega) (by omega)).trans hc) (hs.2 q)
      have eT : eqS s.1 (tuS M L s).1 := eS
      rw [tmB_S eT, tmB_S eT]
      exact ag x px
    · rfl
end SKIP
