/-! fairs ahead, on both sides -/
theorem BK.cgK {σ : bm_S} {b : Nat} {B C : Nat → Int32} (h : BK σ b B) (e : ∀ i, (i < 10 ∨ 92 ≤ i) → C i = B i) : BK σ b C := by
  have hc : ∀ p j, cdB C p j = cdB B p j := fun p j => e _ (by omega)
  unfold BK CK at h ⊢
  simp only [hc]
  rw [e 0 (by omega), e 1 (by omega), e 2 (by omega), e 4 (by omega), e 5 (by omega), e 6 (by omega), e 7 (by omega), e 8 (by omega), e 9 (by omega)]
  exact h
theorem D0_0 (B : Nat → Int32) : D0 B 0 = dB B (B 22) := by
  funext l; unfold D0; rw [tb_0]; simp
def Fu (σ τ : bm_S) : Prop := (∀ a, a ≠ 218 → (a < 223 ∨ 228 < a) → τ.1 a = σ.1 a) ∧ (∀ b, b ≠ 21 → τ.1 218 b = σ.1 218 b) ∧ τ.2 = σ.2
theorem Fu.rfl (σ : bm_S) : Fu σ σ := ⟨fun _ _ _ => Eq.refl _, fun _ _ => Eq.refl _, Eq.refl _⟩
theorem Fu.tr {σ τ ρ : bm_S} (h : Fu σ τ) (h1 : Fu τ ρ) : Fu σ ρ := ⟨fun a x z => (h1.1 a x z).trans (h.1 a x z), fun b x => (h1.2.1 b x).trans (h.2.1 b x), h1.2.2.trans h.2.2⟩
section AHEAD
variable {S : am_S} {d : Nat} {σ : bm_S} {M L w b : Nat} {B : Nat → Int32}
theorem Fb.RWo {τ : bm_S} {v : Nat} {C : Nat → Int32} (f : Fb w b σ τ) (hv : v + 7 < w ∨ w + 9 < v) (hb : b + 2 < v ∨ v + 7 < b + 2) (h : RW M L σ v C) : RW M L τ v C := h.of (fun a h1 h2 => f.1 a (by omega) (by omega))
/-- the class: fairs ahead (its world is 149) -/
theorem c35 (h : RW M L σ 149 B) (hb : BK σ b B) (o : ob b 149) (hg : GA M L B) (n : Nat) (hn : n < 2147483648) : ∃ σ1, bm_call S (d + 5) 35 [.ref 148, .ref b, .int (nI n)] σ = some (none, σ1) ∧ RW M L σ1 149 (goB M L B n) ∧ Fb 149 b σ σ1 := by
  have hM := h.M6
  have hL := h.L12
  obtain ⟨σ1, e1, h1, f1⟩ := loop_ex (fun k s => bm_run S (d + 5) 35 2 [some (.ref 148), some (.ref b), some (.int (nI n)), some (.int (nI k))] [] s) (fun k s => RW M L s 149 (goB M L B k) ∧ Fb 149 b σ s) n σ ⟨h, Fb.rfl _ _ _⟩ (by
    intro k s hk hp
    obtain ⟨h1, f1⟩ := hp
    obtain ⟨s2, e2, h2, f2⟩ := c101h (S := S) (d := d) h1 o ((f1.BK o hb).cgK (fun i hi => goB_out hM hL (by omega) k)) (goB_GA hM hL hg k).1 false
    refine ⟨s2, ?_, h2, f1.tr f2⟩
    have e9 : bI false = (0 : Int32) := rfl
    rw [e9] at e2
    rw [g35_2]
    simp (disch := omega) only [bm_run_ite, Option.toList_some, Option.bind_some, Option.toList_some, Option.toList_none, List.cons_append, List.nil_append, List.append_nil, eq_self, not_true_eq_false, not_false_eq_true, ite_true, ite_false, ↓reduceIte, Nat.reduceLT, Nat.reduceEqDiff, Nat.reduceAdd, or_true, true_or, or_false, false_or, nI_clamp2, nI_lt0F, nI_leT, nI_leF, nI_ltT, nI_ltF, n_leF, n_leT, nI_1, kA6, kA8, kA10, kA22, kA26, kA32, kA44, kA56, kA68, kA80, kA93, kA163, kA794, not_or, or_self, and_self, and_true, true_and, g35_7, g35_16, e2])
  refine ⟨σ1, ?_, h1, f1⟩
  rw [e35, g35_0]
  refine (show bm_run S (d + 5) 35 2 [some (.ref 148), some (.ref b), some (.int (nI n)), some (.int (nI 0))] [] _ = _ from e1).trans ?_
  rw [g35_2]
  simp (disch := omega) only [bm_run_ite, Option.toList_some, Option.bind_some, Option.toList_some, Option.toList_none, List.cons_append, List.nil_append, List.append_nil, eq_self, not_true_eq_false, not_false_eq_true, ite_true, ite_false, ↓reduceIte, Nat.reduceLT, Nat.reduceEqDiff, Nat.reduceAdd, or_true, true_or, or_false, false_or, nI_clamp2, nI_lt0F, nI_leT, nI_leF, nI_ltT, nI_ltF, n_leF, n_leT, nI_1, kA6, kA8, kA10, kA22, kA26, kA32, kA44, kA56, kA68, kA80, kA93, kA163, kA794, not_or, or_self, and_self, and_true, true_and, g35_22]
theorem w149 : isW 149 := by unfold isW; decide
/-- the class's world, copied and led on: who is broken then -/
theorem c36 (h : RW M L σ w B) (hw : w + 9 < 149 ∨ 158 < w) (hb : BK σ b B) (o : ob b 149) (hg : GA M L B) (n : Nat) (hn : n < 2147483648) : ∃ σ1, bm_call S (d + 6) 36 [.ref 148, .ref b, .ref w, .int (nI n)] σ = some (some (.int (goB M L B n 24)), σ1) ∧ RW M L σ1 149 (goB M L B n) ∧ Fb 149 b σ σ1 := by
  obtain ⟨σ1, e1, f1, h1⟩ := c77 (S := S) (d := d + 2) (σ := σ) h.iw w149 (by omega)
  have hr := h1 h
  obtain ⟨σ2, e2, h2, f2⟩ := c35 (S := S) (d := d) hr (f1.b.BK o hb) o hg n hn
  refine ⟨σ2, ?_, h2, f1.b.tr f2⟩
  simp only [e36, g36_0, g36_5, g36_11, e34, g34_0, g34_8, bm_run_ite, Option.toList_some, Option.bind_some, Option.toList_some, Option.toList_none, List.cons_append, List.nil_append, List.append_nil, eq_self, not_true_eq_false, not_false_eq_true, ite_true, ite_false, ↓reduceIte, Nat.reduceLT, Nat.reduceEqDiff, Nat.reduceAdd, or_true, true_or, or_false, false_or, e1, e2, h2.f2]
/-- besides whom one's breaking breaks -/
def beB (M L : Nat) (B : Nat → Int32) (m n : Nat) : Int32 := (goB M L (brB B m L) n 24 &&& (goB M L B n 24 ^^^ Int32.ofInt (-1))) &&& (bt m ^^^ Int32.ofInt (-1))
theorem brB_GA {M L : Nat} (hM : M ≤ 6) (hL : L ≤ 12) {B : Nat → Int32} (h : GA M L B) {m : Nat} (hm : m < M) : GA M L (brB B m L) := by
  obtain ⟨⟨hl, go, gm, gc⟩, nb, bm⟩ := h
  have es := eqS_br (B := B) (m := m) hL
  refine ⟨⟨hl.cg es, go.cg hL es, gm.cg hL es, gc.cg hM es⟩, ?_, ?_⟩
  · intro l hl ho k hk hb
    rw [tou_cg es (by omega)]
    unfold oB at ho
    rw [brB_80 hL hl] at ho
    rw [brB_24, tb_or, tb_bt m (by omega) k hk] at hb
    cases q : (oB B l && tou B (nI m) l)
    · rw [q] at ho
      simp only [Bool.false_eq_true, if_false] at ho
      have ho2 : oB B l = true := ho
      by_cases e : k = m
      · subst e
        rw [ho2, Bool.true_and] at q; exact q
      · simp only [e, decide_false, Bool.or_false] at hb
        exact nb l hl ho2 k hk hb
    · rw [q] at ho
      rw [if_pos rfl] at ho
      exact absurd ho (by decide)
  · intro k hk h32
    rw [brB_24, tb_or, tb_bt m (by omega) k h32, bm k hk h32]
    simp; omega
theorem c37 (h : RW M L σ w B) (hw : w + 9 < 149 ∨ 158 < w) (hb : BK σ b B) (o : ob b 149) (hwb : b + 2 < w ∨ w + 9 < b) (hg : GA M L B) {m : Nat} (hm : m < M) (n : Nat) (hn : n < 2147483648) : ∃ σ1, bm_call S (d + 6) 37 [.ref 148, .ref b, .ref w, .int (nI m), .int (nI n)] σ = some (some (.int (beB M L B m n)), σ1) ∧ Fb 149 b σ σ1 := by
  have hM := h.M6
  have hL := h.L12
  obtain ⟨σ1, e1, f1, h1⟩ := c77 (S := S) (d := d + 2) (σ := σ) h.iw w149 (by omega)
  obtain ⟨σ2, e2, h2, f2⟩ := c35 (S := S) (d := d) (h1 h) (f1.b.BK o hb) o hg n hn
  have ho : ob b 149 := o
  unfold ob at ho
  have f12 := f1.b.tr f2
  have hw2 : RW M L σ2 w B := f12.RWo (by omega) (by omega) h
  obtain ⟨σ3, e3, f3, h3⟩ := c77 (S := S) (d := d + 2) (σ := σ2) h.iw w149 (by omega)
  obtain ⟨σ4, e4, h4, f4⟩ := c106 (S := S) (d := d + 3) (h3 hw2) (m := m) (by omega)
  have f34 := f3.b.tr (f4.b (b := b))
  have hb4 : BK σ4 b (brB B m L) := ((f12.tr f34).BK o hb).cgK (fun i hi => brB_out (by omega) (by omega))
  obtain ⟨σ5, e5, h5, f5⟩ := c35 (S := S) (d := d) h4 hb4 o (brB_GA hM hL hg hm) n hn
  refine ⟨σ5, ?_, (f12.tr f34).tr f5⟩
  have bm1 : (1 : Int32) <<< (nI m &&& 31) = bt m := rfl
  simp only [e37, g37_0, g37_5, g37_12, g37_26, g37_34, g37_41, e34, g34_0, g34_8, bm_run_ite, Option.toList_some, Option.bind_some, Option.toList_some, Option.toList_none, List.cons_append, List.nil_append, List.append_nil, eq_self, not_true_eq_false, not_false_eq_true, ite_true, ite_false, ↓reduceIte, Nat.reduceLT, Nat.reduceEqDiff, Nat.reduceAdd, or_true, true_or, or_false, false_or, e1, e2, h2.f2, e3, e4, e5, h5.f2, bm1]
  rfl
/-! the reference -/
theorem m215 : ∃ g1, bm_call S d 215 [.ref 218] σ = some (none, bm_row σ 228 g1) ∧ ∀ i, i < 70 → g1 i = σ.1 219 (22 + i) := by
  obtain ⟨g1, e1, p1⟩ := loop_ex (fun k (s : Nat → Int32) => bm_run S d 215 2 [some (.ref 218), some (.int (nI k))] [] (bm_row σ 228 s)) (fun k s => ∀ i, i < k → s i = σ.1 219 (22 + i)) 70 (σ.1 228) (fun i hi => absurd hi (by omega)) (by
    intro k s hk hp
    have r7 : (bm_row σ 228 s).1 219 = σ.1 219 := bm_row_1n _ _ (by decide)
    refine ⟨upd s k (σ.1 219 (22 + k)), ?_, ?_⟩
    · rw [g215_2]
      simp (disch := omega) only [bm_run_ite, Option.toList_some, Option.bind_some, Option.toList_some, Option.toList_none, List.cons_append, List.nil_append, List.append_nil, eq_self, not_true_eq_false, not_false_eq_true, ite_true, ite_false, ↓reduceIte, Nat.reduceLT, Nat.reduceEqDiff, Nat.reduceAdd, or_true, true_or, or_false, false_or, nI_clamp2, nI_lt0F, nI_leT, nI_leF, nI_ltT, nI_ltF, n_leF, n_leT, nI_1, kA6, kA8, kA10, kA22, kA26, kA32, kA44, kA56, kA68, kA80, kA93, kA163, kA794, not_or, or_self, and_self, and_true, true_and, g215_8, kI70, wi_row, r7]
    · intro i hi
      by_cases e : i = k
      · subst e; rw [upd_s]
      · rw [upd_n _ _ e]; exact hp i (by omega))
  refine ⟨g1, ?_, p1⟩
  have e2 : bm_row σ 228 (σ.1 228) = σ := bm_row_self σ _
  rw [e2] at e1
  rw [e215, g215_0]
  refine (show bm_run S d 215 2 [some (.ref 218), some (.int (nI 0))] [] σ = _ from e1).trans ?_
  rw [g215_2]
  simp (disch := omega) only [bm_run_ite, Option.toList_some, Option.bind_some, Option.toList_some, Option.toList_none, List.cons_append, List.nil_append, List.append_nil, eq_self, not_true_eq_false, not_false_eq_true, ite_true, ite_false, ↓reduceIte, Nat.reduceLT, Nat.reduceEqDiff, Nat.reduceAdd, or_true, true_or, or_false, false_or, nI_clamp2, nI_lt0F, nI_leT, nI_leF, nI_ltT, nI_ltF, n_leF, n_leT, nI_1, kA6, kA8, kA10, kA22, kA26, kA32, kA44, kA56, kA68, kA80, kA93, kA163, kA794, not_or, or_self, and_self, and_true, true_and, g215_29, kI70]
def agB (B W : Nat → Int32) : Nat → Int32 := fun i => if 22 ≤ i ∧ i < 92 then W (i - 22) else B i
theorem m216 : bm_call S d 216 [.ref 218] σ = some (none, bm_row σ 219 (agB (σ.1 219) (σ.1 228))) := by
  have step := loop_eq (fun k => bm_run S d 216 2 [some (.ref 218), some (.int (nI k))] [] (bm_row σ 219 (fun i => if 22 ≤ i ∧ i < 22 + k then σ.1 228 (i - 22) else σ.1 219 i))) 70 (by
    intro k hk
    have r6 : ∀ g, (bm_row σ 219 g).1 228 = σ.1 228 := fun g => bm_row_1n _ _ (by decide)
    rw [g216_2]
    simp (disch := omega) only [bm_run_ite, Option.toList_some, Option.bind_some, Option.toList_some, Option.toList_none, List.cons_append, List.nil_append, List.append_nil, eq_self, not_true_eq_false, not_false_eq_true, ite_true, ite_false, ↓reduceIte, Nat.reduceLT, Nat.reduceEqDiff, Nat.reduceAdd, or_true, true_or, or_false, false_or, nI_clamp2, nI_lt0F, nI_leT, nI_leF, nI_ltT, nI_ltF, n_leF, n_leT, nI_1, kA6, kA8, kA10, kA22, kA26, kA32, kA44, kA56, kA68, kA80, kA93, kA163, kA794, not_or, or_self, and_self, and_true, true_and, g216_8, kI70, wi_row, r6]
    congr 2
    funext i
    simp only [upd]
    by_cases e : i = 22 + k
    · subst e
      rw [if_pos rfl, if_pos (by omega), Nat.add_sub_cancel_left]
    · rw [if_neg e]
      by_cases q : 22 ≤ i ∧ i < 22 + k
      · rw [if_pos q, if_pos (by omega)]
      · rw [if_neg q, if_neg (by omega)])
  have e0 : bm_row σ 219 (fun i => if 22 ≤ i ∧ i < 22 + 0 then σ.1 228 (i - 22) else σ.1 219 i) = σ := by
    have : (fun i => if 22 ≤ i ∧ i < 22 + 0 then σ.1 228 (i - 22) else σ.1 219 i) = σ.1 219 := by
      funext i; rw [if_neg (by omega)]
    rw [this]; exact bm_row_self σ 219
  simp only [e0] at step
  rw [e216, g216_0]
  refine (show bm_run S d 216 2 [some (.ref 218), some (.int (nI 0))] [] σ = _ from step).trans ?_
  rw [g216_2]
  simp (disch := omega) only [bm_run_ite, Option.toList_some, Option.bind_some, Option.toList_some, Option.toList_none, List.cons_append, List.nil_append, List.append_nil, eq_self, not_true_eq_false, not_false_eq_true, ite_true, ite_false, ↓reduceIte, Nat.reduceLT, Nat.reduceEqDiff, Nat.reduceAdd, or_true, true_or, or_false, false_or, nI_clamp2, nI_lt0F, nI_leT, nI_leF, nI_ltT, nI_ltF, n_leF, n_leT, nI_1, kA6, kA8, kA10, kA22, kA26, kA32, kA44, kA56, kA68, kA80, kA93, kA163, kA794, not_or, or_self, and_self, and_true, true_and, g216_29, kI70]
  rfl
theorem m248 (h : MR M L σ) (hg : GA M L (σ.1 219)) (n : Nat) (hn : n < 2147483648) : ∃ σ1, bm_call S (d + 6) 248 [.ref 218, .int (nI n)] σ = some (none, σ1) ∧ σ1.1 219 = goB M L (σ.1 219) n ∧ Fq σ σ1 := by
  have hM := h.M6
  have hL := h.L12
  generalize hB : σ.1 219 = B at *
  obtain ⟨σ1, e1, h1, f1⟩ := loop_ex (fun k s => bm_run S (d + 6) 248 2 [some (.ref 218), some (.int (nI n)), some (.int (nI k))] [] s) (fun k s => s.1 219 = goB M L B k ∧ Fq σ s) n σ ⟨hB, Fq.rfl σ⟩ (by
    intro k s hk hp
    obtain ⟨h1, f1⟩ := hp
    have hm : MR M L s := ⟨h.1, by rw [h1, goB_out hM hL (by omega), ← hB]; exact h.m, by rw [h1, goB_out hM hL (by omega), ← hB]; exact h.l⟩
    obtain ⟨s2, e2, b2, f2⟩ := m212 (S := S) (d := d) hm (by rw [h1]; exact (goB_GA hM hL hg k).1) 0
    rw [h1, D0_0] at b2
    refine ⟨s2, ?_, b2, f1.tr f2⟩
    rw [g248_2]
    simp (disch := omega) only [bm_run_ite, Option.toList_some, Option.bind_some, Option.toList_some, Option.toList_none, List.cons_append, List.nil_append, List.append_nil, eq_self, not_true_eq_false, not_false_eq_true, ite_true, ite_false, ↓reduceIte, Nat.reduceLT, Nat.reduceEqDiff, Nat.reduceAdd, or_true, true_or, or_false, false_or, nI_clamp2, nI_lt0F, nI_leT, nI_leF, nI_ltT, nI_ltF, n_leF, n_leT, nI_1, kA6, kA8, kA10, kA22, kA26, kA32, kA44, kA56, kA68, kA80, kA93, kA163, kA794, not_or, or_self, and_self, and_true, true_and, g248_7, g248_12, e2])
  refine ⟨σ1, ?_, h1, f1⟩
  rw [e248, g248_0]
  refine (show bm_run S (d + 6) 248 2 [some (.ref 218), some (.int (nI n)), some (.int (nI 0))] [] _ = _ from e1).trans ?_
  rw [g248_2]
  simp (disch := omega) only [bm_run_ite, Option.toList_some, Option.bind_some, Option.toList_some, Option.toList_none, List.cons_append, List.nil_append, List.append_nil, eq_self, not_true_eq_false, not_false_eq_true, ite_true, ite_false, ↓reduceIte, Nat.reduceLT, Nat.reduceEqDiff, Nat.reduceAdd, or_true, true_or, or_false, false_or, nI_clamp2, nI_lt0F, nI_leT, nI_leF, nI_ltT, nI_ltF, n_leF, n_leT, nI_1, kA6, kA8, kA10, kA22, kA26, kA32, kA44, kA56, kA68, kA80, kA93, kA163, kA794, not_or, or_self, and_self, and_true, true_and, g248_19]
/-- what was kept stands again -/
theorem again {σ τ : bm_S} {g1 : Nat → Int32} (hk : ∀ i, i < 70 → g1 i = σ.1 219 (22 + i)) (h226 : τ.1 228 = g1) (ho : ∀ i, (i < 22 ∨ 92 ≤ i) → τ.1 219 i = σ.1 219 i) : agB (τ.1 219) (τ.1 228) = σ.1 219 := by
  funext i
  unfold agB
  by_cases q : 22 ≤ i ∧ i < 92
  · rw [if_pos q, h226, hk _ (by omega), show 22 + (i - 22) = i by omega]
  · rw [if_neg q]; exact ho i (by omega)
theorem Fq.again {τ : bm_S} {g1 : Nat → Int32} (f : Fq (bm_row σ 228 g1) τ) : Fu σ (bm_row τ 219 (σ.1 219)) := by
  refine ⟨fun a h1 h2 => ?_, fun c hc => ?_, f.2.2⟩
  · by_cases e : a = 219
    · subst e; rw [row_row1]
    · rw [bm_row_1n _ _ e, f.1 a h1 e (by omega), bm_row_1n _ _ (by omega)]
  · rw [bm_row_1n _ _ (by decide), f.2.1 c hc, bm_row_1n _ _ (by decide)]
theorem m251 (h : MR M L σ) (hg : GA M L (σ.1 219)) (n : Nat) (hn : n < 2147483648) : ∃ σ1, bm_call S (d + 7) 251 [.ref 218, .int (nI n)] σ = some (some (.int (goB M L (σ.1 219) n 24)), σ1) ∧ Fu σ σ1 := by
  have hM := h.M6
  have hL := h.L12
  obtain ⟨g1, e1, k1⟩ := m215 (S := S) (d := d + 6) (σ := σ)
  have r7 : (bm_row σ 228 g1).1 219 = σ.1 219 := bm_row_1n _ _ (by decide)
  obtain ⟨σ2, e2, b2, f2⟩ := m248 (S := S) (d := d) (σ := bm_row σ 228 g1) ⟨h.1, by rw [r7]; exact h.m, by rw [r7]; exact h.l⟩ (by rw [r7]; exact hg) n hn
  rw [r7] at b2
  have e26 : σ2.1 228 = g1 := by rw [f2.1 228 (by decide) (by decide) (by decide), row_row1]
  have ea := again (σ := σ) (τ := σ2) k1 e26 (fun i hi => by rw [b2]; exact goB_out hM hL (by omega) n)
  refine ⟨bm_row σ2 219 (σ.1 219), ?_, f2.again⟩
  simp only [e251, g251_0, g251_4, g251_9, g251_21, bm_run_ite, Option.toList_some, Option.bind_some, Option.toList_some, Option.toList_none, List.cons_append, List.nil_append, List.append_nil, eq_self, not_true_eq_false, not_false_eq_true, ite_true, ite_false, ↓reduceIte, Nat.reduceLT, Nat.reduceEqDiff, Nat.reduceAdd, or_true, true_or, or_false, false_or, e1, e2, m216, ea]
  rw [b2]
theorem m253 (h : MR M L σ) (hg : GA M L (σ.1 219)) {m : Nat} (hm : m < M) (n : Nat) (hn : n < 2147483648) : ∃ σ1, bm_call S (d + 8) 253 [.ref 218, .int (nI m), .int (nI n)] σ = some (some (.int (beB M L (σ.1 219) m n)), σ1) ∧ Fu σ σ1 := by
  have hM := h.M6
  have hL := h.L12
  obtain ⟨σ0, e0, f0⟩ := m251 (S := S) (d := d) h hg n hn
  have q7 : σ0.1 219 = σ.1 219 := f0.1 219 (by decide) (by decide)
  obtain ⟨g1, e1, k1⟩ := m215 (S := S) (d := d + 7) (σ := σ0)
  have r7 : (bm_row σ0 228 g1).1 219 = σ.1 219 := (bm_row_1n _ _ (by decide)).trans q7
  have hmr : MR M L (bm_row σ0 228 g1) := ⟨h.1, by rw [r7]; exact h.m, by rw [r7]; exact h.l⟩
  obtain ⟨σ2, e2, b2, _, f2⟩ := m209 (S := S) (d := d + 6) hmr (m := m) (by omega) (D := tb ((bm_row σ0 228 g1).1 218 21)) (fun _ _ => rfl)
  rw [r7] at b2
  obtain ⟨σ3, e3, b3, f3⟩ := m248 (S := S) (d := d + 1) (σ := σ2) ⟨h.1, by rw [b2, brB_out (by omega) (by omega)]; exact h.m, by rw [b2, brB_out (by omega) (by omega)]; exact h.l⟩ (by rw [b2]; exact brB_GA hM hL hg hm) n hn
  rw [b2] at b3
  have f23 := f2.q.tr f3
  have e26 : σ3.1 228 = g1 := by rw [f23.1 228 (by decide) (by decide) (by decide), row_row1]
  have ea := again (σ := σ0) (τ := σ3) k1 e26 (fun i hi => by rw [b3, goB_out hM hL (by omega) n, brB_out (by omega) (by omega), q7])
  refine ⟨bm_row σ3 219 (σ0.1 219), ?_, f0.tr f23.again⟩
  have bm1 : (1 : Int32) <<< (nI m &&& 31) = bt m := rfl
  simp only [e253, g253_0, g253_5, g253_10, g253_15, g253_20, g253_33, bm_run_ite, Option.toList_some, Option.bind_some, Option.toList_some, Option.toList_none, List.cons_append, List.nil_append, List.append_nil, eq_self, not_true_eq_false, not_false_eq_true, ite_true, ite_false, ↓reduceIte, Nat.reduceLT, Nat.reduceEqDiff, Nat.reduceAdd, or_true, true_or, or_false, false_or, e0, e1, e2, e3, m216, ea, bm1]
  rw [b3]
  rfl
end AHEAD
