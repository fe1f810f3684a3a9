section SAVEN
variable {S : am_S} {d : Nat} {σ : bm_S} {M L : Nat} {B : Nat → Int32}
theorem c38i {W : Nat → Int32} (hM : M ≤ 6) (hL : L ≤ 12) (hW : GA M L W) {m : Nat} (hm : m < M) {N : Nat} (hN : N < 2147483648) {i5 i6 i7 : Int32} : ∀ r k (σ : bm_S), k + r = N → RW M L σ 149 (goB M L W k) → BK σ 2 W → (∀ j, j < k → tb (goB M L W j 24) m = false → shO M L m (σ.1 158 m) 13 (goB M L W j, dB (goB M L W j) (goB M L W j 22))) → ∃ k2 σ1, bm_run S (d + 5) 38 60 [some (.ref 148), some (.ref 2), some (.ref 5), some (.int (nI m)), some (.int (nI N)), some (.int i5), some (.int i6), some (.int i7), some (.int (nI k))] [] σ = bm_run S (d + 5) 38 93 [some (.ref 148), some (.ref 2), some (.ref 5), some (.int (nI m)), some (.int (nI N)), some (.int i5), some (.int i6), some (.int i7), some (.int (nI k2))] [] σ1 ∧ RW M L σ1 149 (goB M L W k2) ∧ tb (goB M L W k2 24) m = tb (goB M L W N 24) m ∧ Fb 149 2 σ σ1 ∧ σ1.1 158 m ≤ σ.1 158 m ∧ shA M L m (σ1.1 158 m) W N := by
  intro r
  induction r with
  | zero =>
    intro k σ hk h hb hs
    have e : k = N := by omega
    subst e
    refine ⟨k, σ, ?_, h, rfl, Fb.rfl _ _ _, Int32.le_refl _, hs⟩
    rw [g38_60]
    have le : nI k ≤ nI k := Int32.le_refl _
    simp only [bm_run_ite, Option.toList_some, Option.bind_some, Option.toList_some, Option.toList_none, List.cons_append, List.nil_append, List.append_nil, eq_self, not_true_eq_false, not_false_eq_true, ite_true, ite_false, ↓reduceIte, Nat.reduceLT, Nat.reduceEqDiff, Nat.reduceAdd, or_true, true_or, or_false, false_or, le]
  | succ r ih =>
    intro k σ hk h hb hs
    have o : ob 2 149 := by unfold ob; omega
    have lt : ¬ nI N ≤ nI k := nI_ge (by omega) (by omega)
    have up : ∀ j, tb (goB M L W k 24) m = true → tb (goB M L W (k + j) 24) m = true := by
      intro j q
      have e : goB M L W (k + j) = goB M L (goB M L W k) j := by
        induction j with
        | zero => rfl
        | succ j ih2 => rw [← Nat.add_assoc, goB, ih2]; rfl
      rw [e]
      exact goB_up hM hL (by omega) q j
    cases q : tb (goB M L W k 24) m
    · obtain ⟨σ1, k1, h1, f1, y1, y2⟩ := c101N (S := S) (d := d) (z := m) hm h o (hb.cgK (fun i hi => goB_out hM hL (by omega) k)) (goB_GA hM hL hW k).1
      replace k1 : bm_call S (d + 4) 101 [.ref 149, .ref 2, .int 0] σ = some (none, σ1) := k1
      replace y1 : σ1.1 158 m ≤ σ.1 158 m := y1
      replace y2 : shO M L m (σ1.1 158 m) 13 (goB M L W k, dB (goB M L W k) (goB M L W k 22)) := y2
      obtain ⟨k2, σ2, k3, h2, e2, f2, z1, z2⟩ := ih (k + 1) σ1 (by omega) h1 (f1.BK o hb) (fun j hj hq => by
        by_cases e : j = k
        · subst e; exact y2
        · exact shO_le y1 13 _ (hs j (by omega) hq))
      refine ⟨k2, σ2, ?_, h2, e2, f1.tr f2, Int32.le_trans z1 y1, z2⟩
      have t2 : bm_tag 2 = 100 := hb.1.1
      rw [← k3, g38_60]
      simp (decide := true) only [bm_run_ite, Option.toList_some, Option.bind_some, Option.toList_some, Option.toList_none, List.cons_append, List.nil_append, List.append_nil, eq_self, not_true_eq_false, not_false_eq_true, ite_true, ite_false, ↓reduceIte, Nat.reduceLT, Nat.reduceEqDiff, Nat.reduceAdd, or_true, true_or, or_false, false_or, lt, g38_67, c80 h (show m < 32 by omega), q, g38_75, bI_itn, g38_78, k1, g38_87, nI_1]
    · refine ⟨k, σ, ?_, h, ?_, Fb.rfl _ _ _, Int32.le_refl _, fun j hj hq => ?_⟩
      · rw [g38_60]
        simp (decide := true) only [bm_run_ite, Option.toList_some, Option.bind_some, Option.toList_some, Option.toList_none, List.cons_append, List.nil_append, List.append_nil, eq_self, not_true_eq_false, not_false_eq_true, ite_true, ite_false, ↓reduceIte, Nat.reduceLT, Nat.reduceEqDiff, Nat.reduceAdd, or_true, true_or, or_false, false_or, lt, g38_67, c80 h (show m < 32 by omega), q, g38_75, bI_itn]
      · rw [q, ← hk, up (r + 1) q]
      · by_cases e : j < k
        · exact hs j e hq
        · have := up (j - k) q
          rw [show k + (j - k) = j by omega, hq] at this
          cases this
def svF (br : Nat → Bool) : Nat → Nat → Int32
  | 0, _ => Int32.ofInt (-1)
  | f + 1, x => if br x = true then svF br f (x + 1) else nI x
theorem svF_skip {br : Nat → Bool} : ∀ s f x, (∀ y, x ≤ y → y < x + s → y < x + f → br y = true) → svF br f x = svF br (f - s) (x + s) := by
  intro s
  induction s with
  | zero => intro f x _; rfl
  | succ s ih =>
    intro f x h
    cases f with
    | zero => rw [Nat.zero_sub]; rfl
    | succ f =>
      rw [svF, if_pos (h x (by omega) (by omega) (by omega)), ih f (x + 1) (fun y a b c => h y (by omega) (by omega) (by omega))]
      rw [show f + 1 - (s + 1) = f - s by omega, show x + 1 + s = x + (s + 1) by omega]
def brk (M L : Nat) (B : Nat → Int32) (m N k : Nat) : Bool := tb (goB M L (wiB B m (nI k)) N 24) m
theorem wi_sk (hM : M ≤ 6) (hL : L ≤ 12) (hok : OKB M L B) (nm : NM B) {m : Nat} (hm : m < M) {N x y : Nat} {X : Int32} (hx : x ≤ 9999) (h1 : x ≤ y) (h2 : y ≤ 9999) (hX : ((y : Int) - x) < X.toInt) (hs : shA M L m X (wiB B m (nI x)) N) (hb : brk M L B m N x = true) : brk M L B m N y = true := by
  obtain ⟨c, hc, ec⟩ := hok.1.1.2.2.2 m hm
  have e1 : ∀ k, k ≤ 9999 → wiB B m (nI k) = upd B (26 + m) (nI (if c + k ≤ 999999 then c + k else 999999)) := fun k hk => by
    unfold wiB
    rw [ec, nI_add, mn_nI _ (by omega)]
  unfold brk at hb ⊢
  have e2 : wiB B m (nI y) = upd (wiB B m (nI x)) (26 + m) (nI (if c + y ≤ 999999 then c + y else 999999)) := by
    rw [e1 y h2, e1 x hx, upd_upd]
  rw [e2]
  refine skip hm hM hL (x := X) N (wiB B m (nI x)) (if c + x ≤ 999999 then c + x else 999999) _ (hok.wi hm hx).1 (nm.K (fun i hi => ?_)) ?_ ?_ ?_ ?_ hs hb
  · unfold wiB; exact upd_n _ _ (by omega)
  · rw [e1 x hx, upd_s]
  · split <;> split <;> omega
  · split <;> omega
  · split <;> split <;> omega
theorem c38l {m N : Nat} (hm : m < M) (hN : N < 2147483648) {v : Bool} (hv : v = false → NM B) : ∀ f x t (σ : bm_S) (o8 : Option Value), RS M L σ → σ.1 217 = B → 10000 ≤ x + f → t ≤ x → x ≤ 20000 → ∃ σ1, bm_run S (d + 9) 38 12 [some (.ref 148), some (.ref 2), some (.ref 5), some (.int (nI m)), some (.int (nI N)), some (.int (bI v)), some (.int (nI x)), some (.int (nI t)), o8] [] σ = some (some (.int (svF (brk M L B m N) (10000 - x) x)), σ1) ∧ Kp σ σ1 := by
  have s7 : ¬ Sc 217 := by unfold Sc; omega
  have done : ∀ x t (σ : bm_S) (o8 : Option Value), 10000 ≤ x → x ≤ 20000 → t ≤ x → bm_run S (d + 9) 38 12 [some (.ref 148), some (.ref 2), some (.ref 5), some (.int (nI m)), some (.int (nI N)), some (.int (bI v)), some (.int (nI x)), some (.int (nI t)), o8] [] σ = some (some (.int (Int32.ofInt (-1))), σ) := by
    intro x t σ o8 h1 h2 h3
    have q1 : (9999 : Int32) < nI x := nI_lt (a := 9999) (by omega) (by omega)
    rw [g38_12]
    by_cases q : (9999 : Int32) < nI t
    · simp only [bm_run_ite, Option.toList_some, Option.bind_some, Option.toList_some, Option.toList_none, List.cons_append, List.nil_append, List.append_nil, eq_self, not_true_eq_false, not_false_eq_true, ite_true, ite_false, ↓reduceIte, Nat.reduceLT, Nat.reduceEqDiff, Nat.reduceAdd, or_true, true_or, or_false, false_or, q, g38_142]
    · simp only [bm_run_ite, Option.toList_some, Option.bind_some, Option.toList_some, Option.toList_none, List.cons_append, List.nil_append, List.append_nil, eq_self, not_true_eq_false, not_false_eq_true, ite_true, ite_false, ↓reduceIte, Nat.reduceLT, Nat.reduceEqDiff, Nat.reduceAdd, or_true, true_or, or_false, false_or, q, q1, g38_20, g38_142]
  intro f
  induction f with
  | zero =>
    intro x t σ o8 h hB h1 h2 h3
    refine ⟨σ, ?_, Kp.rfl σ⟩
    rw [done x t σ o8 (by omega) h3 h2, show 10000 - x = 0 by omega]
    rfl
  | succ f ih =>
    intro x t σ o8 h hB h1 h2 h3
    rcases Nat.lt_or_ge x 10000 with hx | hx
    · have hr := h.rw
      have hb := h.bk
      have hok := h.1.1
      rw [hB] at hr hb hok
      have hM := hr.M6
      have hL := hr.L12
      have n1 : ¬ (9999 : Int32) < nI t := nI_nlt (a := 9999) (by omega) (by decide)
      have n2 : ¬ (9999 : Int32) < nI x := nI_nlt (a := 9999) (by omega) (by decide)
      have o : ob 2 149 := by unfold ob; omega
      obtain ⟨σa, ka, fa, wa⟩ := c77 (S := S) (d := d + 5) (σ := σ) hr.iw w149 (by omega)
      have ra := wa hr
      have kb := c93 (S := S) (d := d + 7) ra hm (nI x)
      have rb : RW M L (bm_wi σa (149 + 1) m (mn (B (26 + m) + nI x))) 149 (wiB B m (nI x)) := ra.w1 hm _
      have kc : bm_call S (d + 8) 159 [.ref 158, .int (nI m), .int 10000] (bm_wi σa (149 + 1) m (mn (B (26 + m) + nI x))) = some (none, bm_wi (bm_wi σa (149 + 1) m (mn (B (26 + m) + nI x))) 158 m 10000) := rb.s9 hm _
      have rc := rb.out (a := 158) (by omega) m 10000
      have kpa : Kp σ σa := (fa.b (b := 2)).kp (by omega)
      have kpc : Kp σ (bm_wi (bm_wi σa (149 + 1) m (mn (B (26 + m) + nI x))) 158 m 10000) := (kpa.wi (by unfold Sc; omega) _ _).wi (by unfold Sc; omega) _ _
      have bc : BK (bm_wi (bm_wi σa (149 + 1) m (mn (B (26 + m) + nI x))) 158 m 10000) 2 (wiB B m (nI x)) := (hb.of (by rw [wi_n _ (by decide), wi_n _ (by decide), fa.1 2 (by omega)]) (by rw [wi_n _ (by decide), wi_n _ (by decide), fa.1 3 (by omega)])).cgK (fun i hi => by unfold wiB; exact upd_n _ _ (by omega))
      have n158 : (bm_wi (bm_wi σa (149 + 1) m (mn (B (26 + m) + nI x))) 158 m 10000).1 158 m = 10000 := by rw [wi_s, upd_s]
      have okW := hok.wi hm (show x ≤ 9999 by omega)
      obtain ⟨k2, σ2, ke, r2, e2, f2, y1, y2⟩ := c38i (S := S) (d := d + 4) hM hL okW.1 hm hN (i5 := bI v) (i6 := nI x) (i7 := nI t) N 0 (bm_wi (bm_wi σa (149 + 1) m (mn (B (26 + m) + nI x))) 158 m 10000) (by omega) rc bc (fun j hj => absurd hj (by omega))
      rw [n158] at y1
      have kp2 : Kp σ σ2 := kpc.tr (f2.kp (by omega))
      have go : bm_run S (d + 9) 38 12 [some (.ref 148), some (.ref 2), some (.ref 5), some (.int (nI m)), some (.int (nI N)), some (.int (bI v)), some (.int (nI x)), some (.int (nI t)), o8] [] σ = bm_run S (d + 9) 38 93 [some (.ref 148), some (.ref 2), some (.ref 5), some (.int (nI m)), some (.int (nI N)), some (.int (bI v)), some (.int (nI x)), some (.int (nI t)), some (.int (nI k2))] [] σ2 := by
        refine Eq.trans ?_ ke
        rw [g38_12]
        simp (decide := true) only [bm_run_ite, Option.toList_some, Option.bind_some, Option.toList_some, Option.toList_none, List.cons_append, List.nil_append, List.append_nil, eq_self, not_true_eq_false, not_false_eq_true, ite_true, ite_false, ↓reduceIte, Nat.reduceLT, Nat.reduceEqDiff, Nat.reduceAdd, or_true, true_or, or_false, false_or, n1, n2, g38_20, g38_28, e34, g34_0, g34_8, ka, g38_33, kb, g38_43, kc, g38_57]
        rfl
      have k80 := c80 (S := S) (d := d + 8) r2 (show m < 32 by omega)
      have ebr : tb (goB M L (wiB B m (nI x)) k2 24) m = brk M L B m N x := e2
      rw [ebr] at k80
      cases q : brk M L B m N x
      · rw [q] at k80
        refine ⟨σ2, go.trans ?_, kp2⟩
        rw [g38_93, show 10000 - x = (9999 - x) + 1 by omega, svF, q]
        simp (decide := true) only [bm_run_ite, Option.toList_some, Option.bind_some, Option.toList_some, Option.toList_none, List.cons_append, List.nil_append, List.append_nil, eq_self, not_true_eq_false, not_false_eq_true, ite_true, ite_false, ↓reduceIte, Nat.reduceLT, Nat.reduceEqDiff, Nat.reduceAdd, or_true, true_or, or_false, false_or, k80, g38_101, bI_itn, g38_104]
      · rw [q] at k80
        have fin : ∀ s, 1 ≤ s → s ≤ 10000 → (∀ y, x ≤ y → y < x + s → y ≤ 9999 → brk M L B m N y = true) → bm_run S (d + 9) 38 93 [some (.ref 148), some (.ref 2), some (.ref 5), some (.int (nI m)), some (.int (nI N)), some (.int (bI v)), some (.int (nI x)), some (.int (nI t)), some (.int (nI k2))] [] σ2 = bm_run S (d + 9) 38 12 [some (.ref 148), some (.ref 2), some (.ref 5), some (.int (nI m)), some (.int (nI N)), some (.int (bI v)), some (.int (nI (x + s))), some (.int (nI (t + 1))), some (.int (nI k2))] [] σ2 → ∃ σ1, bm_run S (d + 9) 38 12 [some (.ref 148), some (.ref 2), some (.ref 5), some (.int (nI m)), some (.int (nI N)), some (.int (bI v)), some (.int (nI x)), some (.int (nI t)), o8] [] σ = some (some (.int (svF (brk M L B m N) (10000 - x) x)), σ1) ∧ Kp σ σ1 := by
          intro s s1 s2 hy run
          obtain ⟨σ3, k3, kp3⟩ := ih (x + s) (t + 1) σ2 (some (.int (nI k2))) (h.kp kp2) ((kp2.at s7 (by omega)).trans hB) (by omega) (by omega) (by omega)
          refine ⟨σ3, go.trans (run.trans ?_), kp2.tr kp3⟩
          rw [k3, svF_skip s (10000 - x) x (fun y a b c => hy y a b (by omega)), show 10000 - x - s = 10000 - (x + s) by omega]
        have one : ∀ y, x ≤ y → y < x + 1 → y ≤ 9999 → brk M L B m N y = true := fun y a b _ => by rw [show y = x by omega]; exact q
        have r9 := r2.a9 (S := S) (d := d + 8) hm
        replace r9 : bm_call S (d + 8) 158 [.ref 158, .int (nI m)] σ2 = some (some (.int (σ2.1 158 m)), σ2) := r9
        cases v with
        | true =>
          refine fin 1 (by omega) (by omega) one ?_
          rw [g38_93]
          simp (decide := true) only [bm_run_ite, Option.toList_some, Option.bind_some, Option.toList_some, Option.toList_none, List.cons_append, List.nil_append, List.append_nil, eq_self, not_true_eq_false, not_false_eq_true, ite_true, ite_false, ↓reduceIte, Nat.reduceLT, Nat.reduceEqDiff, Nat.reduceAdd, or_true, true_or, or_false, false_or, k80, g38_101, bI_itn, g38_107, bI_ite, g38_114, g38_133, nI_1]
        | false =>
          by_cases qX : (1 : Int32) < σ2.1 158 m
          · have nm := hv rfl
            have x1 : 1 < (σ2.1 158 m).toInt := by
              rw [Int32.lt_iff_toInt_lt] at qX
              have e : (1 : Int32).toInt = 1 := by decide +kernel
              rw [e] at qX; exact qX
            have x2 : (σ2.1 158 m).toInt ≤ 10000 := by
              rw [Int32.le_iff_toInt_le] at y1
              have e : (10000 : Int32).toInt = 10000 := by decide +kernel
              rw [e] at y1; exact y1
            have eX : σ2.1 158 m = nI (σ2.1 158 m).toInt.toNat := by
              apply Int32.toInt_inj.mp
              rw [nI_toInt2 (by omega), Int.toNat_of_nonneg (by omega)]
            refine fin (σ2.1 158 m).toInt.toNat (by omega) (by omega) (fun y a b c => wi_sk hM hL hok nm hm (show x ≤ 9999 by omega) a c (by omega) y2 q) ?_
            have ex : nI (x + (σ2.1 158 m).toInt.toNat) = nI x + σ2.1 158 m := by rw [← nI_add, ← eX]
            rw [g38_93, ex]
            simp (decide := true) only [bm_run_ite, Option.toList_some, Option.bind_some, Option.toList_some, Option.toList_none, List.cons_append, List.nil_append, List.append_nil, eq_self, not_true_eq_false, not_false_eq_true, ite_true, ite_false, ↓reduceIte, Nat.reduceLT, Nat.reduceEqDiff, Nat.reduceAdd, or_true, true_or, or_false, false_or, k80, g38_101, bI_itn, g38_107, bI_ite, g38_118, r9, g38_130, c289, qX, g38_133, nI_1]
          · refine fin 1 (by omega) (by omega) one ?_
            rw [g38_93]
            simp (decide := true) only [bm_run_ite, Option.toList_some, Option.bind_some, Option.toList_some, Option.toList_none, List.cons_append, List.nil_append, List.append_nil, eq_self, not_true_eq_false, not_false_eq_true, ite_true, ite_false, ↓reduceIte, Nat.reduceLT, Nat.reduceEqDiff, Nat.reduceAdd, or_true, true_or, or_false, false_or, k80, g38_101, bI_itn, g38_107, bI_ite, g38_118, r9, g38_130, c289, qX, g38_133, nI_1]
    · refine ⟨σ, ?_, Kp.rfl σ⟩
      rw [done x t σ o8 hx h3 h2, show 10000 - x = 0 by omega]
      rfl
theorem m258l {m N : Nat} (hm : m < M) (hN : N < 2147483648) : ∀ f x (σ : bm_S) (o3 : Option Value), RS M L σ → σ.1 217 = B → x + f = 10000 → ∃ σ1, bm_run S (d + 10) 258 21 [some (.ref 216), some (.int (nI m)), some (.int (nI N)), o3, some (.int (nI x))] [] σ = some (some (.int (svF (brk M L B m N) f x)), σ1) ∧ Kp σ σ1 := by
  have s7 : ¬ Sc 217 := by unfold Sc; omega
  intro f
  induction f with
  | zero =>
    intro x σ o3 h hB h1
    have q1 : (9999 : Int32) < nI x := nI_lt (a := 9999) (by omega) (by omega)
    refine ⟨σ, ?_, Kp.rfl σ⟩
    rw [g258_21]
    simp only [bm_run_ite, Option.toList_some, Option.bind_some, Option.toList_some, Option.toList_none, List.cons_append, List.nil_append, List.append_nil, eq_self, not_true_eq_false, not_false_eq_true, ite_true, ite_false, ↓reduceIte, Nat.reduceLT, Nat.reduceEqDiff, Nat.reduceAdd, or_true, true_or, or_false, false_or, q1, g258_54]
    rfl
  | succ f ih =>
    intro x σ o3 h hB h1
    have hM := h.rw.M6
    have hok := h.1.1
    rw [hB] at hok
    have q1 : ¬ (9999 : Int32) < nI x := nI_nlt (a := 9999) (by omega) (by decide)
    obtain ⟨σ1, e1, f1⟩ := m257 (S := S) (d := d + 1) hB hok hm (k := x) (by omega) N hN
    have kp1 : Kp σ σ1 := f1.kp
    have m1 := m176 (S := S) (d := d + 9) (σ := σ1) (goB M L (wiB B m (nI x)) N 24) (show m < 32 by omega)
    cases q : brk M L B m N x
    · have q2 : tb (goB M L (wiB B m (nI x)) N 24) m = false := q
      rw [q2] at m1
      refine ⟨σ1, ?_, kp1⟩
      rw [svF, q, g258_21]
      simp (decide := true) only [bm_run_ite, Option.toList_some, Option.bind_some, Option.toList_some, Option.toList_none, List.cons_append, List.nil_append, List.append_nil, eq_self, not_true_eq_false, not_false_eq_true, ite_true, ite_false, ↓reduceIte, Nat.reduceLT, Nat.reduceEqDiff, Nat.reduceAdd, or_true, true_or, or_false, false_or, q1, g258_29, e1, g258_37, m1, g258_42, bI_itn, g258_45]
    · have q2 : tb (goB M L (wiB B m (nI x)) N 24) m = true := q
      rw [q2] at m1
      obtain ⟨σ3, k3, kp3⟩ := ih (x + 1) σ1 (am_clr o3) (h.kp kp1) ((kp1.at s7 (by omega)).trans hB) (by omega)
      refine ⟨σ3, ?_, kp1.tr kp3⟩
      rw [svF, q, if_pos rfl, ← k3, g258_21]
      simp (decide := true) only [bm_run_ite, Option.toList_some, Option.bind_some, Option.toList_some, Option.toList_none, List.cons_append, List.nil_append, List.append_nil, eq_self, not_true_eq_false, not_false_eq_true, ite_true, ite_false, ↓reduceIte, Nat.reduceLT, Nat.reduceEqDiff, Nat.reduceAdd, or_true, true_or, or_false, false_or, q1, g258_29, e1, g258_37, m1, g258_42, bI_itn, g258_48, nI_1]
end SAVEN
section SAVEP
variable {S : am_S} {d : Nat} {σ : bm_S} {M L : Nat}
theorem p_saves (h : RS M L σ) (i n : Int32) : PR S (d + 10) 134 258 [.int i, .int n] σ := by
  have s7 : ¬ Sc 217 := by unfold Sc; omega
  have hM := h.rw.M6
  have hr := h.rw
  cases hi : hasI i M
  · refine PR.ofk (v := .int (Int32.ofInt (-2))) h ⟨σ, by simp (decide := true) only [e134, g134_0, g134_8, g134_11, bm_run_ite, Option.toList_some, Option.bind_some, Option.toList_some, Option.toList_none, List.cons_append, List.nil_append, List.append_nil, eq_self, not_true_eq_false, not_false_eq_true, ite_true, ite_false, ↓reduceIte, Nat.reduceLT, Nat.reduceEqDiff, Nat.reduceAdd, or_true, true_or, or_false, false_or, c78 hr, hi, bI_itn], Kp.rfl σ⟩ ?_
    intro τ k
    have h0 := h.kp (k.tr (kp_t0 τ))
    exact ⟨_, by simp (decide := true) only [e258, g258_0, g258_11, g258_16, e254, g254_0, g254_6, g254_9, g254_14, g254_23, g254_26, g254_31, g254_36, g254_39, g254_44, g254_45, bm_run_ite, Option.toList_some, Option.bind_some, Option.toList_some, Option.toList_none, List.cons_append, List.nil_append, List.append_nil, eq_self, not_true_eq_false, not_false_eq_true, ite_true, ite_false, ↓reduceIte, Nat.reduceLT, Nat.reduceEqDiff, Nat.reduceAdd, or_true, true_or, or_false, false_or, m193i h0.mr, hi, bI_itn], kp_t0 τ⟩
  obtain ⟨m, hm, rfl⟩ := hasI_of hi (by omega)
  rcases bW_01 n.toInt64 1 30 with q | q
  · refine PR.ofk (v := .int (Int32.ofInt (-3))) h ⟨σ, by simp (decide := true) only [e134, g134_0, g134_8, g134_14, g134_23, g134_26, bm_run_ite, Option.toList_some, Option.bind_some, Option.toList_some, Option.toList_none, List.cons_append, List.nil_append, List.append_nil, eq_self, not_true_eq_false, not_false_eq_true, ite_true, ite_false, ↓reduceIte, Nat.reduceLT, Nat.reduceEqDiff, Nat.reduceAdd, or_true, true_or, or_false, false_or, c78 hr, hi, bI_itn, c157, q], Kp.rfl σ⟩ ?_
    intro τ k
    have h0 := h.kp (k.tr (kp_t0 τ))
    exact ⟨_, by simp (decide := true) only [e258, g258_0, g258_11, g258_16, e254, g254_0, g254_6, g254_9, g254_14, g254_23, g254_26, g254_31, g254_36, g254_39, g254_44, g254_45, bm_run_ite, Option.toList_some, Option.bind_some, Option.toList_some, Option.toList_none, List.cons_append, List.nil_append, List.append_nil, eq_self, not_true_eq_false, not_false_eq_true, ite_true, ite_false, ↓reduceIte, Nat.reduceLT, Nat.reduceEqDiff, Nat.reduceAdd, or_true, true_or, or_false, false_or, m193i h0.mr, hi, bI_itn, c163, q], kp_t0 τ⟩
  obtain ⟨N, hN0, hN, rfl⟩ := bW_of (a := 1) (b := 30) (by decide +kernel) (by decide +kernel) (by decide) q
  cases hq : tb (σ.1 217 24) m
  · have hb := h.bk
    have hl := h.ga.1.1
    obtain ⟨v, k10, hv⟩ := c10 (S := S) (d := d + 7) hb hl
    obtain ⟨σ1, k1, kp⟩ := c38l (S := S) (d := d) (B := σ.1 217) hm (show N < 2147483648 by omega) hv 10000 0 0 σ none h rfl (by omega) (by omega) (by omega)
    have t2 : bm_tag 2 = 100 := hb.1.1
    have k38 : bm_call S (d + 9) 38 [.ref 148, .ref 2, .ref 5, .int (nI m), .int (nI N)] σ = some (some (.int (svF (brk M L (σ.1 217) m N) 10000 0)), σ1) := by
      refine Eq.trans ?_ k1
      simp (decide := true) only [e38, g38_0, bm_run_ite, Option.toList_some, Option.bind_some, Option.toList_some, Option.toList_none, List.cons_append, List.nil_append, List.append_nil, eq_self, not_true_eq_false, not_false_eq_true, ite_true, ite_false, ↓reduceIte, Nat.reduceLT, Nat.reduceEqDiff, Nat.reduceAdd, or_true, true_or, or_false, false_or, t2, k10, g38_4]
      rfl
    refine PR.ofk (v := .int (svF (brk M L (σ.1 217) m N) 10000 0)) h ⟨σ1, ?_, kp⟩ ?_
    · simp (decide := true) only [e134, g134_0, g134_8, g134_14, g134_23, g134_29, g134_37, g134_43, bm_run_ite, Option.toList_some, Option.bind_some, Option.toList_some, Option.toList_none, List.cons_append, List.nil_append, List.append_nil, eq_self, not_true_eq_false, not_false_eq_true, ite_true, ite_false, ↓reduceIte, Nat.reduceLT, Nat.reduceEqDiff, Nat.reduceAdd, or_true, true_or, or_false, false_or, c78 hr, hi, bI_itn, bI_ite, c157, q, c80 hr (show m < 32 by omega), hq, k38, g134_60]
    · intro τ k
      have kk := k.tr (kp_t0 τ)
      have h0 := h.kp kk
      have e0 : (bm_wi τ 216 0 0).1 217 = σ.1 217 := kk.at s7 (by omega)
      obtain ⟨σ2, k2, kp2⟩ := m258l (S := S) (d := d) (B := σ.1 217) hm (show N < 2147483648 by omega) 10000 0 (bm_wi τ 216 0 0) (am_clr (some (.int 0))) h0 e0 (by omega)
      refine ⟨σ2, ?_, (kp_t0 τ).tr kp2⟩
      rw [← k2]
      simp (decide := true) only [e258, g258_0, g258_11, g258_18, e254, g254_0, g254_6, g254_9, g254_14, g254_23, g254_26, g254_31, g254_36, g254_39, g254_44, g254_45, bm_run_ite, Option.toList_some, Option.bind_some, Option.toList_some, Option.toList_none, List.cons_append, List.nil_append, List.append_nil, eq_self, not_true_eq_false, not_false_eq_true, ite_true, ite_false, ↓reduceIte, Nat.reduceLT, Nat.reduceEqDiff, Nat.reduceAdd, or_true, true_or, or_false, false_or, m193i h0.mr, hi, bI_itn, bI_ite, c163, q, m196 (show m < 32 by omega), e0, hq]
      rfl
  · refine PR.ofk (v := .int (Int32.ofInt (-5))) h ⟨σ, by simp (decide := true) only [e134, g134_0, g134_8, g134_14, g134_23, g134_29, g134_37, g134_40, bm_run_ite, Option.toList_some, Option.bind_some, Option.toList_some, Option.toList_none, List.cons_append, List.nil_append, List.append_nil, eq_self, not_true_eq_false, not_false_eq_true, ite_true, ite_false, ↓reduceIte, Nat.reduceLT, Nat.reduceEqDiff, Nat.reduceAdd, or_true, true_or, or_false, false_or, c78 hr, hi, bI_itn, bI_ite, c157, q, c80 hr (show m < 32 by omega), hq], Kp.rfl σ⟩ ?_
    intro τ k
    have kk := k.tr (kp_t0 τ)
    have h0 := h.kp kk
    have e0 : (bm_wi τ 216 0 0).1 217 = σ.1 217 := kk.at s7 (by omega)
    exact ⟨_, by simp (decide := true) only [e258, g258_0, g258_11, g258_16, e254, g254_0, g254_6, g254_9, g254_14, g254_23, g254_26, g254_31, g254_36, g254_39, g254_44, g254_45, bm_run_ite, Option.toList_some, Option.bind_some, Option.toList_some, Option.toList_none, List.cons_append, List.nil_append, List.append_nil, eq_self, not_true_eq_false, not_false_eq_true, ite_true, ite_false, ↓reduceIte, Nat.reduceLT, Nat.reduceEqDiff, Nat.reduceAdd, or_true, true_or, or_false, false_or, m193i h0.mr, hi, bI_itn, bI_ite, c163, q, m196 (show m < 32 by omega), e0, hq], kp_t0 τ⟩
end SAVEP
