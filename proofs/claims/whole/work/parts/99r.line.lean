/-! lines: a token's place, or a fault -/
abbrev xzR : Type := Sum Nat (Int32 × Nat)
def rfx (q : Nat → Nat) (i : Nat) (why : Int32) : xzR := Sum.inr (if q i = 22 then 1 else why, i)
def bdx (x : xzR) (f : Nat → xzR) : xzR :=
  match x with
  | Sum.inl i => f i
  | Sum.inr e => Sum.inr e
def tkx (q : Nat → Nat) (w : Nat) (x : xzR) : xzR := bdx x (fun i => if q i = w then Sum.inl (i + 1) else rfx q i 2)
def inb (v lo hi : Int32) : Bool := decide (¬ v < lo) && decide (¬ hi < v)
def nmx (q : Nat → Nat) (v : Nat → Int32) (lo hi : Int32) (x : xzR) : xzR := bdx x (fun i => if q i = 20 then (if inb (v i) lo hi = true then Sum.inl (i + 1) else rfx q i 3) else rfx q i 2)
/-- the number that a place holds (0 behind a fault) -/
def vlx (v : Nat → Int32) (x : xzR) : Int32 :=
  match x with
  | Sum.inl i => v i
  | Sum.inr _ => 0
theorem inb_bW (v lo hi : Int32) : bW v.toInt64 lo.toInt64 hi.toInt64 = bI (inb v lo hi) := by
  unfold bW inb
  have l : ∀ a b : Int32, a.toInt64 < b.toInt64 ↔ a < b := fun a b => by
    rw [Int64.lt_iff_toInt_lt, Int32.toInt_toInt64, Int32.toInt_toInt64, Int32.lt_iff_toInt_lt]
  by_cases a : v < lo
  · rw [if_pos ((l _ _).mpr a)]; simp [a, bI]
  · rw [if_neg (fun z => a ((l _ _).mp z))]
    by_cases b : hi < v
    · rw [if_pos ((l _ _).mpr b)]; simp [a, b, bI]
    · rw [if_neg (fun z => b ((l _ _).mp z))]; simp [a, b, bI]
/-- the reference stands there, or holds that fault -/
def MX (T : Nat → Int32) (n : Nat) (x : xzR) (g : Nat → Int32) : Prop :=
  match x with
  | Sum.inl i => MT T n i g
  | Sum.inr (w, i) => MF T n w i g
section LINEM
variable {S : am_S} {d : Nat} {σ : bm_S} {T : Nat → Int32} {n : Nat} {g r : Nat → Int32}
theorem mtk (h : tx T n σ) {w : Nat} (hw : w < 35) {x : xzR} (m : MX T n x g) : ∃ b g1 g2, bm_call S (d + 7) 174 [.ref 218, .int (krT w)] (st2 σ g r) = some (some (.int b), st2 σ g1 r) ∧ ((¬ b = 0 ∧ g2 = g1) ∨ (b = 0 ∧ bm_call S (d + 7) 172 [.ref 218, .int 2] (st2 σ g1 r) = some (none, st2 σ g2 r))) ∧ MX T n (tkx (qN T n) w x) g2 ∧ FG g g2 := by
  rcases x with i | ⟨e, i⟩
  · show ∃ b g1 g2, _ ∧ _ ∧ MX T n (if qN T n i = w then Sum.inl (i + 1) else rfx (qN T n) i 2) g2 ∧ FG g g2
    by_cases q : qN T n i = w
    · obtain ⟨g1, k1, m1, f1⟩ := m174y (S := S) (d := d) (r := r) h (show MT T n i g from m) hw q
      rw [if_pos q]
      exact ⟨1, g1, g1, k1, Or.inl ⟨by decide, rfl⟩, m1, f1⟩
    · have k1 := m174n (S := S) (d := d + 6) (σ := σ) (r := r) (not_k (show MT T n i g from m) hw q)
      obtain ⟨g2, k2, m2, f2⟩ := m172t (S := S) (d := d + 7) (σ := σ) (r := r) (show MT T n i g from m) (w := 2) (by decide)
      rw [if_neg q]
      exact ⟨0, g, g2, k1, Or.inr ⟨rfl, k2⟩, m2, f2⟩
  · have b0 : ¬ g 11 = 0 := MF.n0 (show MF T n e i g from m)
    exact ⟨0, g, g, m174e (S := S) (d := d + 6) b0 _, Or.inr ⟨rfl, m172e (S := S) (d := d + 7) b0 2⟩, m, FG.rfl g⟩
theorem mnm (h : tx T n σ) {lo hi : Int32} {x : xzR} (m : MX T n x g) : ∃ v g1, bm_call S (d + 7) 175 [.ref 218, .int lo, .int hi] (st2 σ g r) = some (some (.int v), st2 σ g1 r) ∧ MX T n (nmx (qN T n) (vN T n) lo hi x) g1 ∧ FG g g1 ∧ (∀ j, nmx (qN T n) (vN T n) lo hi x = Sum.inl j → v = vlx (vN T n) x) := by
  have v20 : krT 20 = 23 := by decide +kernel
  have e11 : ∀ g, (st2 σ g r).1 218 11 = g 11 := fun g => by rw [s2_16]
  have e10 : ∀ g, (st2 σ g r).1 218 10 = g 10 := fun g => by rw [s2_16]
  rcases x with i | ⟨e, i⟩
  · have m0 : MT T n i g := m
    show ∃ v g1, _ ∧ MX T n (if qN T n i = 20 then (if inb (vN T n i) lo hi = true then Sum.inl (i + 1) else rfx (qN T n) i 3) else rfx (qN T n) i 2) g1 ∧ FG g g1 ∧ (∀ j, (if qN T n i = 20 then (if inb (vN T n i) lo hi = true then Sum.inl (i + 1) else rfx (qN T n) i 3) else rfx (qN T n) i 2) = Sum.inl j → v = vN T n i)
    by_cases q : qN T n i = 20
    · have k1 := ye_173 (S := S) (d := d + 6) (σ := σ) (r := r) m0 q
      rw [v20] at k1
      have eb := inb_bW (g 10) lo hi
      have ev := m0.2.2.2.2.2 q
      rw [if_pos q]
      cases b : inb (vN T n i) lo hi
      · rw [ev, b] at eb
        obtain ⟨g2, k2, m2, f2⟩ := m172t (S := S) (d := d + 6) (σ := σ) (r := r) m0 (w := 3) (by decide)
        have n0 := MF.n0 m2
        refine ⟨g2 10, g2, ?_, m2, f2, fun j hj => by cases hj⟩
        simp (decide := true) only [e175, g175_0, g175_6, g175_17, g175_29, g175_32, g175_37, g175_53, bm_run_ite, Option.toList_some, Option.bind_some, Option.toList_some, Option.toList_none, List.cons_append, List.nil_append, List.append_nil, eq_self, not_true_eq_false, not_false_eq_true, ite_true, ite_false, ↓reduceIte, Nat.reduceLT, Nat.reduceEqDiff, Nat.reduceAdd, or_true, true_or, or_false, false_or, k1, c163, e10, ev, eb, bI_itn, k2, e11, n0]
      · rw [ev, b] at eb
        obtain ⟨g2, k2, m2, f2⟩ := m171t (S := S) (d := d) (r := r) h m0
        have z := m0.1
        refine ⟨vN T n i, g2, ?_, m2, f2, fun _ _ => rfl⟩
        simp (decide := true) only [e175, g175_0, g175_6, g175_17, g175_29, g175_37, g175_49, g175_53, bm_run_ite, Option.toList_some, Option.bind_some, Option.toList_some, Option.toList_none, List.cons_append, List.nil_append, List.append_nil, eq_self, not_true_eq_false, not_false_eq_true, ite_true, ite_false, ↓reduceIte, Nat.reduceLT, Nat.reduceEqDiff, Nat.reduceAdd, or_true, true_or, or_false, false_or, k1, c163, e10, ev, eb, bI_itn, k2, e11, z]
    · have k1 := no_173 (S := S) (d := d + 6) (σ := σ) (r := r) m0 (w := 20) (by decide) q
      rw [v20] at k1
      obtain ⟨g2, k2, m2, f2⟩ := m172t (S := S) (d := d + 6) (σ := σ) (r := r) m0 (w := 2) (by decide)
      have n0 := MF.n0 m2
      rw [if_neg q]
      refine ⟨g2 10, g2, ?_, m2, f2, fun j hj => absurd hj (by unfold rfx; intro z; cases z)⟩
      simp (decide := true) only [e175, g175_0, g175_6, g175_9, g175_14, g175_37, g175_53, bm_run_ite, Option.toList_some, Option.bind_some, Option.toList_some, Option.toList_none, List.cons_append, List.nil_append, List.append_nil, eq_self, not_true_eq_false, not_false_eq_true, ite_true, ite_false, ↓reduceIte, Nat.reduceLT, Nat.reduceEqDiff, Nat.reduceAdd, or_true, true_or, or_false, false_or, k1, k2, e11, n0, e10]
  · have b0 : ¬ g 11 = 0 := MF.n0 (show MF T n e i g from m)
    have k1 := m173e (S := S) (d := d + 6) (σ := σ) (r := r) b0 23
    have k2 := m172e (S := S) (d := d + 6) (σ := σ) (r := r) b0 2
    refine ⟨g 10, g, ?_, m, FG.rfl g, fun j hj => by cases hj⟩
    simp (decide := true) only [e175, g175_0, g175_6, g175_9, g175_14, g175_37, g175_53, bm_run_ite, Option.toList_some, Option.bind_some, Option.toList_some, Option.toList_none, List.cons_append, List.nil_append, List.append_nil, eq_self, not_true_eq_false, not_false_eq_true, ite_true, ite_false, ↓reduceIte, Nat.reduceLT, Nat.reduceEqDiff, Nat.reduceAdd, or_true, true_or, or_false, false_or, k1, k2, e11, b0, e10]
end LINEM
