/-! by how much one is SHORT at a fair: once at most, and what comes of it -/
/-- one is broken, or none of its letters is due -/
def noO (L m : Nat) (s : fS) : Prop := tb (s.1 24) m = true ∨ ∀ l, l < L → s.2 l = true → ¬ s.1 (32 + l) = nI m
section ONCE
variable {M L m : Nat} {s : fS} {B g : Nat → Int32}
theorem noO_sh (go : GO M L s.1) (gm : GM L s.1) (gc : GC M s.1) (hM : M ≤ 6) (hL : L ≤ 12) (hm : m < M) (h : noO L m s) : ¬ 0 < shF s.1 (netF s.2 s.1 L) m := by
  intro q
  rcases h with h | h
  · rw [shF_nb q] at h; cases h
  · obtain ⟨l, hl, a, b⟩ := short_owes go gm gc hM hL hm q
    exact h l hl a b
theorem noO_seS (hL : L ≤ 12) (hm : m < 32) (h : noO L m s) {n : Nat} (hn : n < 32) : noO L m (seS L B g s n) := by
  rcases h with h | h
  · left
    unfold seS
    split
    · split
      · show tb (ptB s.1 s.2 n L 24) m = true
        rw [ptB_out (by omega)]; exact h
      · show tb (brB s.1 n L 24) m = true
        rw [brB_24, tb_or, h]; rfl
    · exact h
  · right
    intro l hl hq
    rw [eqS_seS hL B g s n _ (by omega) (by omega)]
    exact h l hl (seS_le B g s n l hq)
theorem noO_seF (hL : L ≤ 12) (hm : m < 32) (h : noO L m s) : ∀ n, n ≤ 32 → noO L m (seF L B g s n) := by
  intro n
  induction n with
  | zero => intro _; exact h
  | succ n ih => intro hn; exact noO_seS hL hm (ih (by omega)) (by omega)
theorem seF_24n (hm : m < 32) (h : ¬ 0 < shF B g m) : ∀ n, n ≤ 32 → tb ((seF L B g s n).1 24) m = tb (s.1 24) m := by
  intro n
  induction n with
  | zero => intro _; rfl
  | succ n ih =>
    intro hn
    rw [seF]
    by_cases e : m = n
    · subst e
      rw [seS, if_neg h]
      exact ih (by omega)
    · rw [seS_24 B g _ (by omega) hm e]
      exact ih (by omega)
theorem sh_once (hL : L ≤ 12) (hm : m < 6) (h : 0 < shF B g m) (es : eqS B s.1) : ∀ n, m < n → n ≤ 6 → noO L m (seF L B g s n) ∧ tb ((seF L B g s n).1 24) m = (tb (s.1 24) m || !tmB B (nI m) (B (26 + m)) (shF B g m)) := by
  intro n
  induction n with
  | zero => intro h; omega
  | succ n ih =>
    intro h1 h2
    rw [seF]
    by_cases e : n = m
    · subst e
      have eC := es.tr (eqS_seF hL B g s n)
      have b24 : tb ((seF L B g s n).1 24) n = tb (s.1 24) n := seF_24 B g s (Nat.le_refl n) (by omega)
      generalize seF L B g s n = C at *
      unfold seS
      rw [if_pos h, tmB_S eC]
      cases q : tmB B (nI n) (B (26 + n)) (shF B g n)
      · rw [if_neg (by decide)]
        have e1 : tb (brB C.1 n L 24) n = true := by rw [brB_24, tb_or, tb_bt n (by omega) n (by omega)]; simp
        refine ⟨Or.inl e1, ?_⟩
        show tb (brB C.1 n L 24) n = _
        rw [e1]; simp
      · rw [if_pos rfl]
        refine ⟨Or.inr (fun l hl hq => ?_), ?_⟩
        · have hq2 : ptD C.1 n C.2 l = true := hq
          simp only [ptD, Bool.and_eq_true, Bool.not_eq_true', decide_eq_false_iff_not] at hq2
          show ¬ ptB C.1 C.2 n L (32 + l) = nI n
          rw [ptB_out (by omega)]
          exact hq2.2
        · show tb (ptB C.1 C.2 n L 24) n = _
          rw [ptB_out (by omega), b24]; simp
    · obtain ⟨a, b⟩ := ih (by omega) (by omega)
      refine ⟨noO_seS hL (by omega) a (by omega), ?_⟩
      rw [seS_24 B g _ (by omega) (by omega) (fun z => e z.symm)]
      exact b
theorem rc1_no {z k : Nat} {x : Int32} (h : ¬ 0 < shF B g z) : rc1 B g z k x = x := by
  unfold rc1
  rw [if_neg (fun y => h y.2)]
theorem rc_no (hM : M ≤ 6) (hL : L ≤ 12) (hm : m < M) : ∀ n (s : fS) (x : Int32), GO M L s.1 → GM L s.1 → GC M s.1 → noO L m s → rcF M L m n s x = x ∧ shO M L m (fun _ => False) n s ∧ tb ((tuF M L n s).1 24) m = tb (s.1 24) m := by
  intro n
  induction n with
  | zero => intro s x _ _ _ _; exact ⟨rfl, trivial, rfl⟩
  | succ n ih =>
    intro s x go gm gc h
    have no := noO_sh go gm gc hM hL hm h
    have eS : eqS s.1 (tuS M L s).1 := eqS_seF hL s.1 (netF s.2 s.1 L) s M
    have h2 : noO L m (tuS M L s) := noO_seF hL (by omega) h M (by omega)
    have b2 : tb ((tuS M L s).1 24) m = tb (s.1 24) m := seF_24n (by omega) no M (by omega)
    obtain ⟨a, b, c⟩ := ih (tuS M L s) x (go.cg hL eS) (gm.cg hL eS) (gc.cg hM eS) h2
    rw [rcF, rc1_no no, tuF]
    refine ⟨?_, ⟨fun z => absurd z no, fun _ => b⟩, ?_⟩
    · split
      · exact a
      · rfl
    · split
      · rw [c, b2]
      · rfl
theorem an_of (hm : m < M) (h : 0 < shF s.1 (netF s.2 s.1 L) m) : anF M L s = true := by
  cases q : anF M L s
  · unfold anF at q
    exact absurd h (anS_no q m hm)
  · rfl
theorem rc_all (hM : M ≤ 6) (hL : L ≤ 12) (hm : m < M) : ∀ n (s : fS), GO M L s.1 → GM L s.1 → GC M s.1 → tb (s.1 24) m = false → (rcF M L m n s 0 = 0 ∧ shO M L m (fun _ => False) n s ∧ tb ((tuF M L n s).1 24) m = false) ∨ (0 < rcF M L m n s 0 ∧ shO M L m (fun x => x = rcF M L m n s 0) n s ∧ tb ((tuF M L n s).1 24) m = !tmB s.1 (nI m) (s.1 (26 + m)) (rcF M L m n s 0)) := by
  intro n
  induction n with
  | zero => intro s _ _ _ h; exact Or.inl ⟨rfl, trivial, h⟩
  | succ n ih =>
    intro s go gm gc h
    have eS : eqS s.1 (tuS M L s).1 := eqS_seF hL s.1 (netF s.2 s.1 L) s M
    have go2 := go.cg hL eS
    have gm2 := gm.cg hL eS
    have gc2 := gc.cg hM eS
    by_cases p : 0 < shF s.1 (netF s.2 s.1 L) m
    · have an := an_of hm p
      obtain ⟨o1, o2⟩ := sh_once (s := s) hL (by omega) p (eqS.rfl _) M hm hM
      have o3 : noO L m (tuS M L s) := o1
      have o4 : tb ((tuS M L s).1 24) m = !tmB s.1 (nI m) (s.1 (26 + m)) (shF s.1 (netF s.2 s.1 L) m) := by
        refine Eq.trans o2 ?_
        rw [h]; rfl
      obtain ⟨a, b, c⟩ := rc_no hM hL hm n (tuS M L s) (shF s.1 (netF s.2 s.1 L) m) go2 gm2 gc2 o3
      have er : rcF M L m (n + 1) s 0 = shF s.1 (netF s.2 s.1 L) m := by
        rw [rcF, if_pos an]
        unfold rc1
        rw [if_pos ⟨hm, p⟩]
        exact a
      right
      rw [er, tuF, if_pos an]
      exact ⟨p, ⟨fun _ => rfl, fun _ => shO_le (fun _ z => z.elim) n _ b⟩, by rw [c, o4]⟩
    · have b2 : tb ((tuS M L s).1 24) m = false := (seF_24n (by omega) p M (by omega)).trans h
      have ec : (tuS M L s).1 (26 + m) = s.1 (26 + m) := eS _ (by omega) (by omega)
      cases q : anF M L s
      · left
        rw [rcF, rc1_no p, tuF, q]
        exact ⟨rfl, ⟨fun z => absurd z p, fun z => by rw [q] at z; cases z⟩, h⟩
      · have er : rcF M L m (n + 1) s 0 = rcF M L m n (tuS M L s) 0 := by rw [rcF, rc1_no p, if_pos q]
        rw [er, tuF, if_pos q]
        rcases ih (tuS M L s) go2 gm2 gc2 b2 with ⟨a, b, c⟩ | ⟨a, b, c⟩
        · exact Or.inl ⟨a, ⟨fun z => absurd z p, fun _ => b⟩, c⟩
        · rw [tmB_S eS, ec] at c
          exact Or.inr ⟨a, ⟨fun z => absurd z p, fun _ => b⟩, c⟩
/-- by how much one is SHORT at the next fair: 0, if it isn't -/
def shR (M L m : Nat) (B : Nat → Int32) : Int32 := rcF M L m 13 (B, dB B (B 22)) 0
theorem fair_rc (hM : M ≤ 6) (hL : L ≤ 12) (hg : GA M L B) (hm : m < M) (h : tb (B 24) m = false) : (shR M L m B = 0 ∧ shO M L m (fun _ => False) 13 (B, dB B (B 22)) ∧ tb (hoB M L B false 24) m = false) ∨ (0 < shR M L m B ∧ shO M L m (fun x => x = shR M L m B) 13 (B, dB B (B 22)) ∧ tb (hoB M L B false 24) m = !tmB B (nI m) (B (26 + m)) (shR M L m B)) := by
  obtain ⟨⟨hl, go, gm, gc⟩, nb, bm⟩ := hg
  have e : hoB M L B false 24 = (tuF M L 13 (B, dB B (B 22))).1 24 := faB_24 hM hL B (dB B (B 22))
  rw [e]
  exact rc_all hM hL hm 13 (B, dB B (B 22)) go gm gc h
theorem go_22 (hM : M ≤ 6) (hL : L ≤ 12) : ∀ n, goB M L B n 22 = B 22 + nI n := by
  intro n
  induction n with
  | zero => show B 22 = B 22 + 0; rw [Int32.add_zero]
  | succ n ih =>
    have e : ∀ C, hoB M L C false 22 = C 22 + 1 := by
      intro C
      show upd (enB M L (tuF M L 13 (C, dB C (C 22)))) 22 (enB M L (tuF M L 13 (C, dB C (C 22))) 22 + 1) 22 = _
      rw [upd_s, enB_out hM hL (by omega)]
      rw [show (tuF M L 13 (C, dB C (C 22))).1 22 = C 22 from eqS_tuF (M := M) hL 13 (C, dB C (C 22)) 22 (by omega) (by omega)]
    rw [goB, e, ih, Int32.add_assoc]
    rw [show nI n + 1 = nI (n + 1) from nI_add n 1]
end ONCE
/-- fairs held till one breaks: how many, and that it breaks then as the law says -/
def tlB (M L m : Nat) (W : Nat → Int32) (N H : Nat) : Prop := H ≤ N ∧ (∀ i, i < H → tb (goB M L W i 24) m = false) ∧ (H = N ∨ tb (goB M L W H 24) m = true)
section TILL
variable {M L m : Nat} {W : Nat → Int32} {N H : Nat}
theorem goB_add : ∀ j k, goB M L W (k + j) = goB M L (goB M L W k) j := by
  intro j k
  induction j with
  | zero => rfl
  | succ j ih => rw [← Nat.add_assoc, goB, ih]; rfl
theorem tl_up (hM : M ≤ 6) (hL : L ≤ 12) (hm : m < M) {k i : Nat} (h : k ≤ i) (q : tb (goB M L W k 24) m = true) : tb (goB M L W i 24) m = true := by
  obtain ⟨j, rfl⟩ : ∃ j, i = k + j := ⟨i - k, by omega⟩
  rw [goB_add]
  exact goB_up hM hL (by omega) q j
theorem tl_same (hM : M ≤ 6) (hL : L ≤ 12) (hm : m < M) (t : tlB M L m W N H) : tb (goB M L W H 24) m = tb (goB M L W N 24) m := by
  obtain ⟨h1, h2, h3⟩ := t
  rcases h3 with h3 | h3
  · rw [h3]
  · rw [h3, tl_up hM hL hm h1 h3]
/-- at each fair where it is SHORT it is given time, but at the last -/
theorem tl_time (hM : M ≤ 6) (hL : L ≤ 12) (hm : m < M) (hg : GA M L W) (t : tlB M L m W N H) (hb : tb (goB M L W N 24) m = true) {i : Nat} (hi : i < H) (hp : 0 < shR M L m (goB M L W i)) : tmB (goB M L W i) (nI m) (goB M L W i (26 + m)) (shR M L m (goB M L W i)) = decide (i + 1 < H) := by
  have hH := tl_same hM hL hm t
  rw [hb] at hH
  obtain ⟨h1, h2, h3⟩ := t
  rcases fair_rc hM hL (goB_GA hM hL hg i) hm (h2 i hi) with ⟨a, _, _⟩ | ⟨_, _, c⟩
  · rw [a] at hp; exact absurd hp (by decide)
  · replace c : tb (goB M L W (i + 1) 24) m = !tmB (goB M L W i) (nI m) (goB M L W i (26 + m)) (shR M L m (goB M L W i)) := c
    by_cases e : i + 1 < H
    · rw [h2 (i + 1) e] at c
      rw [decide_eq_true e]
      cases q : tmB (goB M L W i) (nI m) (goB M L W i (26 + m)) (shR M L m (goB M L W i))
      · rw [q] at c; cases c
      · rfl
    · rw [show i + 1 = H by omega, hH] at c
      rw [decide_eq_false e]
      cases q : tmB (goB M L W i) (nI m) (goB M L W i (26 + m)) (shR M L m (goB M L W i))
      · rfl
      · rw [q] at c; cases c
/-- e coppers more, and all goes as it did at that fair -/
def alk (M L m : Nat) (W : Nat → Int32) (H e i : Nat) : Prop := 0 < shR M L m (goB M L W i) → (e : Int) < (shR M L m (goB M L W i)).toInt ∧ tmB (goB M L W i) (nI m) (goB M L W i (26 + m) + nI e) (shR M L m (goB M L W i) - nI e) = decide (i + 1 < H)
theorem alk_brk (hM : M ≤ 6) (hL : L ≤ 12) (hm : m < M) (hg : GA M L W) (hs : sZ W M ≤ 20000) (t : tlB M L m W N H) (hb : tb (goB M L W N 24) m = true) {e : Nat} (he : e ≤ 20000) (ha : ∀ i, i < H → alk M L m W H e i) : tb (goB M L (upd W (26 + m) (W (26 + m) + nI e)) N 24) m = true := by
  refine skip hm hM hL N W hg (fun k hk hq => ?_) hb
  have kH : k < H := by
    rcases Nat.lt_or_ge k H with q | q
    · exact q
    · have h1 := tl_same hM hL hm t
      rw [hb] at h1
      rw [tl_up hM hL hm q h1] at hq
      cases hq
  have gk := goB_GA hM hL hg k
  obtain ⟨c, hc, ec⟩ := gk.1.2.2.2 m hm
  have s1 := sZ_goB hM hL hg k
  have s2 := ((sZ_rng gk.1.2.2.2 M (Nat.le_refl M)).2 m hm).2
  rw [ec, nI_toInt2 (by omega)] at s2
  refine ⟨c, ec, by omega, ?_⟩
  rcases fair_rc hM hL gk hm hq with ⟨_, b, _⟩ | ⟨a, b, _⟩
  · exact shO_le (fun _ z => z.elim) 13 _ b
  · refine shO_le (fun x z => ?_) 13 _ b
    obtain ⟨a1, a2⟩ := ha k kH a
    have a3 := tl_time hM hL hm hg t hb kH a
    rw [ec, nI_add] at a2
    rw [ec] at a3
    rw [z]
    exact ⟨a1, by rw [a2, a3]⟩
end TILL
