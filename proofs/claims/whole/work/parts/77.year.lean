/-! a year of drawn deeds -/
theorem ush_rng (x : Int32) : ∃ u, u < 65536 ∧ am_ush x 16 = nI u := by
  have e : (16 : Int32).toUInt32 &&& Int32.toUInt32 31 = 16 := by decide
  refine ⟨(x.toUInt32 >>> 16).toNat, ?_, ?_⟩
  · rw [UInt32.toNat_shiftRight]
    have e2 : (16 : UInt32).toNat % 32 = 16 := by decide
    have := x.toUInt32.toNat_lt
    rw [e2, Nat.shiftRight_eq_div_pow]
    exact Nat.div_lt_of_lt_mul (by omega)
  · unfold am_ush
    rw [e]
    apply Int32.toBitVec_inj.mp
    apply BitVec.eq_of_toNat_eq
    show (x.toUInt32 >>> 16).toNat = (x.toUInt32 >>> 16).toNat % 2 ^ 32
    rw [Nat.mod_eq_of_lt (UInt32.toNat_lt _)]
theorem rem_nI {u m : Nat} (hu : u < 65536) (h1 : 1 ≤ m) (h2 : m ≤ 65535) : am_rem (nI u) (nI m) = nI (u % m) := by
  have hdm : u / m ≤ u := Nat.div_le_self u m
  have hq : u / m * m ≤ u := Nat.div_mul_le_self u m
  have key : ∀ q : Nat, q ≤ 65535 → Int.bmod (q : Int) (2 ^ 32) = q := fun q hq => Int.bmod_eq_of_le (by omega) (by omega)
  have e1 : nI u / nI m = nI (u / m) := by
    apply Int32.toInt_inj.mp
    rw [Int32.toInt_div, nI_toInt2 (by omega), nI_toInt2 (by omega), nI_toInt2 (by omega), ← Int.ofNat_tdiv, key _ (Nat.le_trans hdm (by omega))]
  have e2 : nI (u / m) * nI m = nI (u / m * m) := (Int32.ofNat_mul _ _).symm
  unfold am_rem
  rw [e1, e2, nI_sub hq]
  have := Nat.div_add_mod u m
  have e3 : m * (u / m) = u / m * m := Nat.mul_comm _ _
  congr 1
  omega
/-- what a state draws -/
def duF (B : Nat → Int32) : Nat := cN (am_ush (B 23) 16)
theorem duF_eq (B : Nat → Int32) : am_ush (B 23) 16 = nI (duF B) ∧ duF B < 65536 := by
  obtain ⟨u, hu, e⟩ := ush_rng (B 23)
  unfold duF
  rw [e, cN_nI (by omega)]
  exact ⟨rfl, hu⟩
theorem du_rem (B : Nat → Int32) {m : Nat} (h1 : 1 ≤ m) (h2 : m ≤ 65535) : am_rem (am_ush (B 23) 16) (nI m) = nI (duF B % m) := by
  obtain ⟨e, hu⟩ := duF_eq B
  rw [e]; exact rem_nI hu h1 h2
def dwV (M L : Nat) (B : Nat → Int32) : Int32 × (Nat → Int32) :=
  if duF (drB B) % 4 = 0 then (2000, drB B)
  else if duF (drB B) % 4 = 3 then (if M = 0 then (Int32.ofInt (-9), drB B) else (nI (1000 + 10 * (duF (drB (drB B)) % M) + duF (drB (drB (drB B))) % M), drB (drB (drB B))))
  else if L = 0 then (Int32.ofInt (-9), drB B)
  else if duF (drB B) % 4 = 1 then (nI (duF (drB (drB B)) % L), drB (drB B))
  else ((if duF (drB (drB B)) % L < 10 ∧ duF (drB (drB (drB B))) % L < 10 then nI (100 + 10 * (duF (drB (drB B)) % L) + duF (drB (drB (drB B))) % L) else Int32.ofInt (-9)), drB (drB (drB B)))
def yrS (M L : Nat) (B : Nat → Int32) : Nat → Int32 := if wnB M L (dwV M L B).2 (dwV M L B).1.toInt64 = 0 then doB M L (dwV M L B).2 (dwV M L B).1.toInt64 else (dwV M L B).2
def yrF (M L : Nat) (B : Nat → Int32) : Nat → Nat × (Nat → Int32)
  | 0 => (0, B)
  | k + 1 => ((if wnB M L (dwV M L (yrF M L B k).2).2 (dwV M L (yrF M L B k).2).1.toInt64 = 0 then (yrF M L B k).1 + 1 else (yrF M L B k).1), yrS M L (yrF M L B k).2)
theorem OKB.x {M L : Nat} {B : Nat → Int32} (h : OKB M L B) (x : Int32) : OKB M L (upd B 23 x) := h.cgx (fun i hi => upd_n _ _ (by omega))
theorem OKB.dr {M L : Nat} {B : Nat → Int32} (h : OKB M L B) : OKB M L (drB B) := h.x _
theorem drB_out {B : Nat → Int32} {i : Nat} (h : i ≠ 23) : drB B i = B i := upd_n _ _ h
theorem dwV_ok {M L : Nat} {B : Nat → Int32} (h : OKB M L B) : OKB M L (dwV M L B).2 ∧ ∀ i, i ≠ 23 → (dwV M L B).2 i = B i := by
  have e1 : ∀ i, i ≠ 23 → drB B i = B i := fun i hi => drB_out hi
  have e2 : ∀ i, i ≠ 23 → drB (drB B) i = B i := fun i hi => (drB_out hi).trans (e1 i hi)
  have e3 : ∀ i, i ≠ 23 → drB (drB (drB B)) i = B i := fun i hi => (drB_out hi).trans (e2 i hi)
  unfold dwV
  split
  · exact ⟨h.dr, e1⟩
  · split
    · split
      · exact ⟨h.dr, e1⟩
      · exact ⟨h.dr.dr.dr, e3⟩
    · split
      · exact ⟨h.dr, e1⟩
      · split
        · exact ⟨h.dr.dr, e2⟩
        · exact ⟨h.dr.dr.dr, e3⟩
theorem yrS_ok {M L : Nat} {B : Nat → Int32} (h : OKB M L B) : OKB M L (yrS M L B) ∧ ∀ i, (i < 22 ∨ i = 25 ∨ 92 ≤ i) → yrS M L B i = B i := by
  obtain ⟨h1, h2⟩ := dwV_ok h
  unfold yrS
  split
  · next q => exact ⟨h1.dn q, fun i hi => (doB_out h1 q hi).trans (h2 i (by omega))⟩
  · exact ⟨h1, fun i hi => h2 i (by omega)⟩
theorem yrF_ok {M L : Nat} {B : Nat → Int32} (h : OKB M L B) : ∀ k, OKB M L (yrF M L B k).2 ∧ (∀ i, (i < 22 ∨ i = 25 ∨ 92 ≤ i) → (yrF M L B k).2 i = B i) ∧ (yrF M L B k).1 ≤ k := by
  intro k
  induction k with
  | zero => exact ⟨h, fun _ _ => rfl, Nat.le_refl _⟩
  | succ k ih =>
    obtain ⟨a1, a2, a3⟩ := ih
    obtain ⟨b1, b2⟩ := yrS_ok a1
    refine ⟨b1, fun i hi => (b2 i hi).trans (a2 i hi), ?_⟩
    show (if wnB M L (dwV M L (yrF M L B k).2).2 (dwV M L (yrF M L B k).2).1.toInt64 = 0 then (yrF M L B k).1 + 1 else (yrF M L B k).1) ≤ k + 1
    split
    · exact Nat.succ_le_succ a3
    · exact Nat.le_succ_of_le a3
theorem vL1000 : ∀ a, a < 6 → ∀ b, b < 6 → ¬ (nI (1000 + 10 * a + b)).toInt64 = Int64.ofInt (-1) ∧ ¬ (nI (1000 + 10 * a + b)).toInt64 = 2000 ∧ ¬ bW (nI (1000 + 10 * a + b)).toInt64 0 99 = 1 ∧ ¬ bW (nI (1000 + 10 * a + b)).toInt64 100 199 = 1 ∧ bW (nI (1000 + 10 * a + b)).toInt64 1000 1099 = 1 ∧ ((nI (1000 + 10 * a + b)).toInt64 - 1000).toInt32 / 10 = nI a ∧ am_rem (nI (1000 + 10 * a + b)).toInt64.toInt32 10 = nI b := by decide +kernel
theorem vL100 : ∀ a, a < 10 → ∀ b, b < 10 → ¬ (nI (100 + 10 * a + b)).toInt64 = Int64.ofInt (-1) ∧ ¬ (nI (100 + 10 * a + b)).toInt64 = 2000 ∧ ¬ bW (nI (100 + 10 * a + b)).toInt64 0 99 = 1 ∧ bW (nI (100 + 10 * a + b)).toInt64 100 199 = 1 ∧ ((nI (100 + 10 * a + b)).toInt64 - 100).toInt32 / 10 = nI a ∧ am_rem (nI (100 + 10 * a + b)).toInt64.toInt32 10 = nI b := by decide +kernel
theorem vL0 : ∀ a, a < 12 → ¬ (nI a).toInt64 = Int64.ofInt (-1) ∧ ¬ (nI a).toInt64 = 2000 ∧ bW (nI a).toInt64 0 99 = 1 := by decide +kernel
theorem wn_lend {M L : Nat} {B : Nat → Int32} {a b : Nat} (ha : a < 6) (hb : b < 6) : wnB M L B (nI (1000 + 10 * a + b)).toInt64 = wlB B M (nI a) (nI b) 10 ∧ doB M L B (nI (1000 + 10 * a + b)).toInt64 = gvB B a b 10 := by
  obtain ⟨q1, q2, q3, q4, q5, q6, q7⟩ := vL1000 a ha b hb
  unfold wnB doB
  rw [if_neg q1, if_neg q2, if_neg q3, if_neg q4, if_pos q5, if_neg q1, if_neg q2, if_neg q3, if_neg q4, q6, q7, cN_nI (by omega), cN_nI (by omega)]
  exact ⟨rfl, rfl⟩
theorem wn_ring {M L : Nat} {B : Nat → Int32} {a b : Nat} (ha : a < 10) (hb : b < 10) : wnB M L B (nI (100 + 10 * a + b)).toInt64 = w2B B L (nI a) (nI b) ∧ doB M L B (nI (100 + 10 * a + b)).toInt64 = csB B (rfP a b) 2 := by
  obtain ⟨q1, q2, q3, q4, q6, q7⟩ := vL100 a ha b hb
  unfold wnB doB
  rw [if_neg q1, if_neg q2, if_neg q3, if_pos q4, if_neg q1, if_neg q2, if_neg q3, if_pos q4, q6, q7, cN_nI (by omega), cN_nI (by omega)]
  exact ⟨rfl, rfl⟩
theorem wn_pay {M L : Nat} {B : Nat → Int32} {a : Nat} (ha : a < 12) : wnB M L B (nI a).toInt64 = wpB B L (nI a) ∧ doB M L B (nI a).toInt64 = pyB B a := by
  obtain ⟨q1, q2, q3⟩ := vL0 a ha
  unfold wnB doB
  rw [if_neg q1, if_neg q2, if_pos q3, if_neg q1, if_neg q2, if_pos q3, l32, cN_nI (by omega)]
  exact ⟨rfl, rfl⟩
theorem wn_9 {M L : Nat} {B : Nat → Int32} : wnB M L B (Int32.ofInt (-9)).toInt64 = 1 := by
  unfold wnB
  rw [if_neg (by decide), if_neg (by decide), if_neg (by decide), if_neg (by decide), if_neg (by decide)]
theorem wn_2000 {M L : Nat} {B : Nat → Int32} : wnB M L B (2000 : Int32).toInt64 = 0 ∧ doB M L B (2000 : Int32).toInt64 = hoB M L B true := by
  have e : (2000 : Int32).toInt64 = 2000 := by decide
  unfold wnB doB
  rw [e, if_neg (by decide), if_pos rfl, if_neg (by decide), if_pos rfl]
  exact ⟨rfl, rfl⟩
theorem four : ∀ x, x < 4 → x = 0 ∨ x = 1 ∨ x = 2 ∨ x = 3 := by omega
section YEAR
variable {S : am_S} {d : Nat} {σ : bm_S} {M L w : Nat} {B : Nat → Int32}
theorem c100s (h : RW M L σ w B) : bm_call S d 100 [.ref w] σ = some (some (.int (nI (duF (drB B)))), bm_wi σ w 4 (drB B 23)) ∧ RW M L (bm_wi σ w 4 (drB B 23)) w (drB B) ∧ Fyd w σ (bm_wi σ w 4 (drB B 23)) := by
  have e2 : upd B 23 (drB B 23) = drB B := by unfold drB; rw [upd_s]
  have h2 := h.wf4 (drB B 23)
  rw [e2] at h2
  refine ⟨?_, h2, ⟨fun a ha _ _ => wi_n _ (by omega) _ _, rfl⟩⟩
  rw [c100 h, (duF_eq (drB B)).1]
theorem rest_nI {u m : Nat} (hu : u < 65536) (h1 : 1 ≤ m) (h2 : m ≤ 12) : bm_call S d 161 [.int (nI u), .int (nI m)] σ = some (some (.int (nI (u % m))), σ) := by
  rw [c161, if_neg (nI_ne0 (by omega) (by omega)), rem_nI hu h1 (by omega)]
theorem c19 (h : RW M L σ w B) (hw : w + 9 < 146) (o : ob 2 w) (hb : BK σ 2 B) (hok : OKB M L B) : ∃ σ1, bm_call S (d + 7) 19 [.ref 146, .ref w, .ref 2] σ = some (some (.int (wnB M L (dwV M L B).2 (dwV M L B).1.toInt64)), σ1) ∧ RW M L σ1 w (yrS M L B) ∧ Fyd w σ σ1 := by
  have hM := h.M6
  have hL := h.L12
  obtain ⟨k1, h1, f1⟩ := c100s (S := S) (d := d + 6) h
  obtain ⟨k2, h2, f2⟩ := c100s (S := S) (d := d + 6) h1
  obtain ⟨k3, h3, f3⟩ := c100s (S := S) (d := d + 6) h2
  have u1 := (duF_eq (drB B)).2
  have u2 := (duF_eq (drB (drB B))).2
  have u3 := (duF_eq (drB (drB (drB B)))).2
  generalize hσ1 : bm_wi σ w 4 (drB B 23) = σ1 at *
  generalize hσ2 : bm_wi σ1 w 4 (drB (drB B) 23) = σ2 at *
  generalize hσ3 : bm_wi σ2 w 4 (drB (drB (drB B)) 23) = σ3 at *
  have r4 : am_rem (nI (duF (drB B))) 4 = nI (duF (drB B) % 4) := rem_nI (m := 4) u1 (by omega) (by omega)
  have ok1 := hok.dr
  have ok2 := ok1.dr
  have ok3 := ok2.dr
  have z4 : duF (drB B) % 4 < 4 := Nat.mod_lt _ (by decide)
  have cases4 := four _ z4
  unfold yrS
  have hdw : ∀ v C, dwV M L B = (v, C) → (dwV M L B).1 = v ∧ (dwV M L B).2 = C := fun v C e => by rw [e]; exact ⟨rfl, rfl⟩
  by_cases q0 : duF (drB B) % 4 = 0
  · obtain ⟨e1, e2⟩ := hdw 2000 (drB B) (by unfold dwV; rw [if_pos q0])
    rw [e1, e2, wn_2000.1, wn_2000.2, if_pos rfl]
    have hb1 : BK σ1 2 (drB B) := (hb.of (f1.1 2 (by unfold ob at o; omega) (by omega) (by omega)) (f1.1 3 (by unfold ob at o; omega) (by omega) (by omega))).cgK (fun i hi => drB_out (by omega))
    obtain ⟨σ4, k4, r5, f5⟩ := c101h (S := S) (d := d + 2) h1 o hb1 ok1.1.1 true
    replace k4 : bm_call S (d + 6) 101 [.ref w, .ref 2, .int 1] σ1 = some (none, σ4) := k4
    refine ⟨σ4, ?_, r5, f1.tr f5.d⟩
    rw [q0] at r4
    simp (decide := true) only [e19, g19_0, g19_4, g19_11, g19_17, bm_run_ite, Option.toList_some, Option.bind_some, Option.toList_some, Option.toList_none, List.cons_append, List.nil_append, List.append_nil, eq_self, not_true_eq_false, not_false_eq_true, ite_true, ite_false, ↓reduceIte, Nat.reduceLT, Nat.reduceEqDiff, Nat.reduceAdd, or_true, true_or, or_false, false_or, h.t, h1.t, k1, r4, k4]
  have n0 : ¬ nI (duF (drB B) % 4) = 0 := nI_ne0 (by omega) (by omega)
  by_cases q3 : duF (drB B) % 4 = 3
  · have hq : nI (duF (drB B) % 4) = 3 := by rw [q3]; rfl
    rw [hq] at r4
    by_cases m0 : M = 0
    · obtain ⟨e1, e2⟩ := hdw (Int32.ofInt (-9)) (drB B) (by unfold dwV; rw [if_neg q0, if_pos q3, if_pos m0])
      rw [e1, e2, wn_9, if_neg (by decide)]
      refine ⟨σ1, ?_, h1, f1⟩
      have f0 := h1.f0
      rw [m0] at f0
      simp (decide := true) only [e19, g19_0, g19_4, g19_19, g19_24, g19_35, g19_42, bm_run_ite, Option.toList_some, Option.bind_some, Option.toList_some, Option.toList_none, List.cons_append, List.nil_append, List.append_nil, eq_self, not_true_eq_false, not_false_eq_true, ite_true, ite_false, ↓reduceIte, Nat.reduceLT, Nat.reduceEqDiff, Nat.reduceAdd, or_true, true_or, or_false, false_or, h.t, h1.t, k1, r4, f0]
    · have ra := Nat.mod_lt (duF (drB (drB B))) (show 0 < M by omega)
      have rb := Nat.mod_lt (duF (drB (drB (drB B)))) (show 0 < M by omega)
      obtain ⟨e1, e2⟩ := hdw _ (drB (drB (drB B))) (by unfold dwV; rw [if_neg q0, if_pos q3, if_neg m0])
      obtain ⟨w1, w2⟩ := wn_lend (M := M) (L := L) (B := drB (drB (drB B))) (show duF (drB (drB B)) % M < 6 by omega) (show duF (drB (drB (drB B))) % M < 6 by omega)
      rw [e1, e2, w1, w2]
      obtain ⟨σ4, k4, r5, f5⟩ := c17 (S := S) (d := d + 2) h3 ok3.1.1.2.2.2 (nI (duF (drB (drB B)) % M)) (nI (duF (drB (drB (drB B))) % M))
      rw [cN_nI (by omega), cN_nI (by omega)] at r5
      have p0 : 0 < nI M := nI_lt (a := 0) (by omega) (by omega)
      have c1 := rest_nI (S := S) (d := d + 6) (σ := σ2) u2 (show 1 ≤ M by omega) (by omega)
      have c2 := rest_nI (S := S) (d := d + 6) (σ := σ3) u3 (show 1 ≤ M by omega) (by omega)
      refine ⟨σ4, ?_, r5, ((f1.tr f2).tr f3).tr f5.b.d⟩
      simp (decide := true) only [e19, g19_0, g19_4, g19_19, g19_24, g19_35, g19_44, g19_48, g19_53, g19_68, g19_72, g19_77, g19_84, g19_93, bm_run_ite, Option.toList_some, Option.bind_some, Option.toList_some, Option.toList_none, List.cons_append, List.nil_append, List.append_nil, eq_self, not_true_eq_false, not_false_eq_true, ite_true, ite_false, ↓reduceIte, Nat.reduceLT, Nat.reduceEqDiff, Nat.reduceAdd, or_true, true_or, or_false, false_or, h.t, h1.t, h2.t, h1.f0, p0, k1, k2, k3, r4, c1, c2, k4]
  have n3 : ¬ nI (duF (drB B) % 4) = 3 := fun z => q3 ((nI_eq (b := 3) (by omega) (by decide)).mp z)
  by_cases l0 : L = 0
  · obtain ⟨e1, e2⟩ := hdw (Int32.ofInt (-9)) (drB B) (by unfold dwV; rw [if_neg q0, if_neg q3, if_pos l0])
    rw [e1, e2, wn_9, if_neg (by decide)]
    refine ⟨σ1, ?_, h1, f1⟩
    have f0 := h1.f1
    rw [l0] at f0
    simp (decide := true) only [e19, g19_0, g19_4, g19_19, g19_31, g19_35, g19_42, bm_run_ite, Option.toList_some, Option.bind_some, Option.toList_some, Option.toList_none, List.cons_append, List.nil_append, List.append_nil, eq_self, not_true_eq_false, not_false_eq_true, ite_true, ite_false, ↓reduceIte, Nat.reduceLT, Nat.reduceEqDiff, Nat.reduceAdd, or_true, true_or, or_false, false_or, h.t, h1.t, k1, r4, n0, n3, f0]
  have ra := Nat.mod_lt (duF (drB (drB B))) (show 0 < L by omega)
  have rb := Nat.mod_lt (duF (drB (drB (drB B)))) (show 0 < L by omega)
  have p0 : 0 < nI L := nI_lt (a := 0) (by omega) (by omega)
  have c1 := rest_nI (S := S) (d := d + 6) (σ := σ2) u2 (show 1 ≤ L by omega) (by omega)
  have c2 := rest_nI (S := S) (d := d + 6) (σ := σ3) u3 (show 1 ≤ L by omega) (by omega)
  by_cases q1 : duF (drB B) % 4 = 1
  · have hq : nI (duF (drB B) % 4) = 1 := by rw [q1]; rfl
    rw [hq] at r4
    obtain ⟨e1, e2⟩ := hdw _ (drB (drB B)) (by unfold dwV; rw [if_neg q0, if_neg q3, if_neg l0, if_pos q1])
    obtain ⟨w1, w2⟩ := wn_pay (M := M) (L := L) (B := drB (drB B)) (show duF (drB (drB B)) % L < 12 by omega)
    rw [e1, e2, w1, w2]
    obtain ⟨σ4, k4, r5, f5⟩ := c15 (S := S) (d := d + 2) h2 ok2.1.1.2.1 ok2.1.1.2.2.2 ok2.1.1.2.2.1 (nI (duF (drB (drB B)) % L))
    rw [cN_nI (by omega)] at r5
    refine ⟨σ4, ?_, r5, (f1.tr f2).tr f5.b.d⟩
    simp (decide := true) only [e19, g19_0, g19_4, g19_19, g19_31, g19_35, g19_44, g19_48, g19_53, g19_60, g19_67, bm_run_ite, Option.toList_some, Option.bind_some, Option.toList_some, Option.toList_none, List.cons_append, List.nil_append, List.append_nil, eq_self, not_true_eq_false, not_false_eq_true, ite_true, ite_false, ↓reduceIte, Nat.reduceLT, Nat.reduceEqDiff, Nat.reduceAdd, or_true, true_or, or_false, false_or, h.t, h1.t, h2.t, h1.f1, p0, k1, k2, r4, c1, k4]
  have n1 : ¬ nI (duF (drB B) % 4) = 1 := fun z => q1 ((nI_eq (b := 1) (by omega) (by decide)).mp z)
  by_cases q9 : duF (drB (drB B)) % L < 10 ∧ duF (drB (drB (drB B))) % L < 10
  · obtain ⟨e1, e2⟩ := hdw _ (drB (drB (drB B))) (by unfold dwV; rw [if_neg q0, if_neg q3, if_neg l0, if_neg q1, if_pos q9])
    obtain ⟨w1, w2⟩ := wn_ring (M := M) (L := L) (B := drB (drB (drB B))) q9.1 q9.2
    rw [e1, e2, w1, w2]
    obtain ⟨σ4, k4, r5, f5⟩ := c16 (S := S) (d := d + 3) h3 hw ok3.1.1.2.2.1 (nI (duF (drB (drB B)) % L)) (nI (duF (drB (drB (drB B))) % L))
    rw [cN_nI (by omega), cN_nI (by omega)] at r5
    have x1 : ¬ (10 : Int32) ≤ nI (duF (drB (drB B)) % L) := nI_ge (b := 10) q9.1 (by decide)
    have x2 : ¬ (10 : Int32) ≤ nI (duF (drB (drB (drB B))) % L) := nI_ge (b := 10) q9.2 (by decide)
    refine ⟨σ4, ?_, r5, ((f1.tr f2).tr f3).tr f5⟩
    simp (decide := true) only [e19, g19_0, g19_4, g19_19, g19_31, g19_35, g19_44, g19_48, g19_53, g19_68, g19_72, g19_77, g19_94, g19_101, g19_108, g19_117, g19_121, bm_run_ite, Option.toList_some, Option.bind_some, Option.toList_some, Option.toList_none, List.cons_append, List.nil_append, List.append_nil, eq_self, not_true_eq_false, not_false_eq_true, ite_true, ite_false, ↓reduceIte, Nat.reduceLT, Nat.reduceEqDiff, Nat.reduceAdd, or_true, true_or, or_false, false_or, h.t, h1.t, h2.t, h1.f1, p0, k1, k2, k3, r4, n0, n3, n1, c1, c2, x1, x2, k4]
  · obtain ⟨e1, e2⟩ := hdw (Int32.ofInt (-9)) (drB (drB (drB B))) (by unfold dwV; rw [if_neg q0, if_neg q3, if_neg l0, if_neg q1, if_neg q9])
    rw [e1, e2, wn_9, if_neg (by decide)]
    refine ⟨σ3, ?_, h3, (f1.tr f2).tr f3⟩
    by_cases q8 : duF (drB (drB B)) % L < 10
    · have x1 : ¬ (10 : Int32) ≤ nI (duF (drB (drB B)) % L) := nI_ge (b := 10) q8 (by decide)
      have x2 : (10 : Int32) ≤ nI (duF (drB (drB (drB B))) % L) := nI_le (a := 10) (by omega) (by omega)
      simp (decide := true) only [e19, g19_0, g19_4, g19_19, g19_31, g19_35, g19_44, g19_48, g19_53, g19_68, g19_72, g19_77, g19_94, g19_101, g19_120, g19_121, bm_run_ite, Option.toList_some, Option.bind_some, Option.toList_some, Option.toList_none, List.cons_append, List.nil_append, List.append_nil, eq_self, not_true_eq_false, not_false_eq_true, ite_true, ite_false, ↓reduceIte, Nat.reduceLT, Nat.reduceEqDiff, Nat.reduceAdd, or_true, true_or, or_false, false_or, h.t, h1.t, h2.t, h1.f1, p0, k1, k2, k3, r4, n0, n3, n1, c1, c2, x1, x2]
    · have x1 : (10 : Int32) ≤ nI (duF (drB (drB B)) % L) := nI_le (a := 10) (by omega) (by omega)
      simp (decide := true) only [e19, g19_0, g19_4, g19_19, g19_31, g19_35, g19_44, g19_48, g19_53, g19_68, g19_72, g19_77, g19_94, g19_120, g19_121, bm_run_ite, Option.toList_some, Option.bind_some, Option.toList_some, Option.toList_none, List.cons_append, List.nil_append, List.append_nil, eq_self, not_true_eq_false, not_false_eq_true, ite_true, ite_false, ↓reduceIte, Nat.reduceLT, Nat.reduceEqDiff, Nat.reduceAdd, or_true, true_or, or_false, false_or, h.t, h1.t, h2.t, h1.f1, p0, k1, k2, k3, r4, n0, n3, n1, c1, c2, x1]
theorem mul10 : ∀ a, a < 12 → (10 : Int32) * nI a = nI (10 * a) := by decide +kernel
theorem k1000A (x : Nat) : (1000 : Int32) + nI x = nI (1000 + x) := nI_add 1000 x
theorem k100A (x : Nat) : (100 : Int32) + nI x = nI (100 + x) := nI_add 100 x
theorem m213n {m : Nat} (h1 : 1 ≤ m) (h2 : m ≤ 12) (hB : σ.1 219 = B) : bm_call S d 213 [.ref 218, .int (nI m)] σ = some (some (.int (nI (duF (drB B) % m))), bm_row σ 219 (drB B)) := by
  rw [m213 (nI_ne0 (by omega) (by omega)), hB, du_rem _ h1 (by omega)]
theorem m239 (h : MR M L σ) (hB : σ.1 219 = B) : bm_call S (d + 1) 239 [.ref 218] σ = some (some (.int (dwV M L B).1), bm_row σ 219 (dwV M L B).2) := by
  have hM := h.M6
  have hL := h.L12
  have m3 := h.m
  have m25 := h.l
  rw [hB] at m3 m25
  have d4 : bm_call S d 213 [.ref 218, .int 4] σ = _ := m213n (S := S) (d := d) (m := 4) (by omega) (by omega) hB
  have z4 : duF (drB B) % 4 < 4 := Nat.mod_lt _ (by decide)
  have b1 : (bm_row σ 219 (drB B)).1 219 = drB B := row_row1 _ _ _
  have b2 : (bm_row σ 219 (drB (drB B))).1 219 = drB (drB B) := row_row1 _ _ _
  have e13 : drB B 3 = nI M := by rw [drB_out (by decide)]; exact m3
  have e125 : drB B 25 = nI L := by rw [drB_out (by decide)]; exact m25
  have e23 : drB (drB B) 3 = nI M := by rw [drB_out (by decide)]; exact e13
  have e225 : drB (drB B) 25 = nI L := by rw [drB_out (by decide)]; exact e125
  by_cases q0 : duF (drB B) % 4 = 0
  · rw [q0] at d4
    replace d4 : bm_call S d 213 [.ref 218, .int 4] σ = some (some (.int 0), bm_row σ 219 (drB B)) := d4
    unfold dwV
    rw [if_pos q0]
    simp (decide := true) only [e239, g239_0, g239_5, g239_10, bm_run_ite, Option.toList_some, Option.bind_some, Option.toList_some, Option.toList_none, List.cons_append, List.nil_append, List.append_nil, eq_self, not_true_eq_false, not_false_eq_true, ite_true, ite_false, ↓reduceIte, Nat.reduceLT, Nat.reduceEqDiff, Nat.reduceAdd, or_true, true_or, or_false, false_or, d4]
  have n0 : ¬ nI (duF (drB B) % 4) = 0 := nI_ne0 (by omega) (by omega)
  by_cases q3 : duF (drB B) % 4 = 3
  · have hq : nI (duF (drB B) % 4) = 3 := by rw [q3]; rfl
    rw [hq] at d4
    unfold dwV
    rw [if_neg q0, if_pos q3]
    by_cases m0 : M = 0
    · rw [if_pos m0]
      rw [m0] at e13
      simp (decide := true) only [e239, g239_0, g239_5, g239_14, g239_19, g239_28, bm_run_ite, Option.toList_some, Option.bind_some, Option.toList_some, Option.toList_none, List.cons_append, List.nil_append, List.append_nil, eq_self, not_true_eq_false, not_false_eq_true, ite_true, ite_false, ↓reduceIte, Nat.reduceLT, Nat.reduceEqDiff, Nat.reduceAdd, or_true, true_or, or_false, false_or, d4, b1, e13]
    · rw [if_neg m0]
      have nm : ¬ nI M = 0 := nI_ne0 (by omega) (by omega)
      have ra := Nat.mod_lt (duF (drB (drB B))) (show 0 < M by omega)
      have dm1 := m213n (S := S) (d := d) (m := M) (by omega) (by omega) b1
      have dm2 := m213n (S := S) (d := d) (m := M) (by omega) (by omega) b2
      rw [bm_row_row] at dm1 dm2
      simp (decide := true) only [e239, g239_0, g239_5, g239_14, g239_19, g239_31, g239_41, g239_60, bm_run_ite, Option.toList_some, Option.bind_some, Option.toList_some, Option.toList_none, List.cons_append, List.nil_append, List.append_nil, eq_self, not_true_eq_false, not_false_eq_true, ite_true, ite_false, ↓reduceIte, Nat.reduceLT, Nat.reduceEqDiff, Nat.reduceAdd, or_true, true_or, or_false, false_or, d4, b1, e13, nm, dm1, b2, e23, dm2, mul10 _ (show duF (drB (drB B)) % M < 12 by omega), k1000A, nI_add]
  have n3 : ¬ nI (duF (drB B) % 4) = 3 := fun z => q3 ((nI_eq (b := 3) (by omega) (by decide)).mp z)
  unfold dwV
  rw [if_neg q0, if_neg q3]
  by_cases l0 : L = 0
  · rw [if_pos l0]
    rw [l0] at e125
    simp (decide := true) only [e239, g239_0, g239_5, g239_14, g239_62, g239_72, bm_run_ite, Option.toList_some, Option.bind_some, Option.toList_some, Option.toList_none, List.cons_append, List.nil_append, List.append_nil, eq_self, not_true_eq_false, not_false_eq_true, ite_true, ite_false, ↓reduceIte, Nat.reduceLT, Nat.reduceEqDiff, Nat.reduceAdd, or_true, true_or, or_false, false_or, d4, n0, n3, b1, e125]
  rw [if_neg l0]
  have nl : ¬ nI L = 0 := nI_ne0 (by omega) (by omega)
  have ra := Nat.mod_lt (duF (drB (drB B))) (show 0 < L by omega)
  have rb := Nat.mod_lt (duF (drB (drB (drB B)))) (show 0 < L by omega)
  have dm1 := m213n (S := S) (d := d) (m := L) (by omega) (by omega) b1
  have dm2 := m213n (S := S) (d := d) (m := L) (by omega) (by omega) b2
  rw [bm_row_row] at dm1 dm2
  by_cases q1 : duF (drB B) % 4 = 1
  · rw [if_pos q1]
    have hq : nI (duF (drB B) % 4) = 1 := by rw [q1]; rfl
    rw [hq] at d4
    simp (decide := true) only [e239, g239_0, g239_5, g239_14, g239_62, g239_75, g239_86, g239_92, bm_run_ite, Option.toList_some, Option.bind_some, Option.toList_some, Option.toList_none, List.cons_append, List.nil_append, List.append_nil, eq_self, not_true_eq_false, not_false_eq_true, ite_true, ite_false, ↓reduceIte, Nat.reduceLT, Nat.reduceEqDiff, Nat.reduceAdd, or_true, true_or, or_false, false_or, d4, b1, e125, nl, dm1]
  rw [if_neg q1]
  have n1 : ¬ nI (duF (drB B) % 4) = 1 := fun z => q1 ((nI_eq (b := 1) (by omega) (by decide)).mp z)
  by_cases q9 : duF (drB (drB B)) % L < 10
  · have x1 : ¬ (10 : Int32) ≤ nI (duF (drB (drB B)) % L) := nI_ge (b := 10) q9 (by decide)
    by_cases q8 : duF (drB (drB (drB B))) % L < 10
    · have x2 : ¬ (10 : Int32) ≤ nI (duF (drB (drB (drB B))) % L) := nI_ge (b := 10) q8 (by decide)
      rw [if_pos ⟨q9, q8⟩]
      simp (decide := true) only [e239, g239_0, g239_5, g239_14, g239_62, g239_75, g239_86, g239_94, g239_105, g239_112, g239_118, g239_132, bm_run_ite, Option.toList_some, Option.bind_some, Option.toList_some, Option.toList_none, List.cons_append, List.nil_append, List.append_nil, eq_self, not_true_eq_false, not_false_eq_true, ite_true, ite_false, ↓reduceIte, Nat.reduceLT, Nat.reduceEqDiff, Nat.reduceAdd, or_true, true_or, or_false, false_or, d4, n0, n3, n1, b1, e125, nl, dm1, b2, e225, dm2, x1, x2, mul10 _ (show duF (drB (drB B)) % L < 12 by omega), k100A, nI_add]
    · have x2 : (10 : Int32) ≤ nI (duF (drB (drB (drB B))) % L) := nI_le (a := 10) (by omega) (by omega)
      rw [if_neg (fun z => q8 z.2)]
      simp (decide := true) only [e239, g239_0, g239_5, g239_14, g239_62, g239_75, g239_86, g239_94, g239_105, g239_112, g239_130, g239_132, bm_run_ite, Option.toList_some, Option.bind_some, Option.toList_some, Option.toList_none, List.cons_append, List.nil_append, List.append_nil, eq_self, not_true_eq_false, not_false_eq_true, ite_true, ite_false, ↓reduceIte, Nat.reduceLT, Nat.reduceEqDiff, Nat.reduceAdd, or_true, true_or, or_false, false_or, d4, n0, n3, n1, b1, e125, nl, dm1, b2, e225, dm2, x1, x2]
  · have x1 : (10 : Int32) ≤ nI (duF (drB (drB B)) % L) := nI_le (a := 10) (by omega) (by omega)
    rw [if_neg (fun z => q9 z.1)]
    simp (decide := true) only [e239, g239_0, g239_5, g239_14, g239_62, g239_75, g239_86, g239_94, g239_105, g239_130, g239_132, bm_run_ite, Option.toList_some, Option.bind_some, Option.toList_some, Option.toList_none, List.cons_append, List.nil_append, List.append_nil, eq_self, not_true_eq_false, not_false_eq_true, ite_true, ite_false, ↓reduceIte, Nat.reduceLT, Nat.reduceEqDiff, Nat.reduceAdd, or_true, true_or, or_false, false_or, d4, n0, n3, n1, b1, e125, nl, dm1, b2, e225, dm2, x1]
end YEAR
section YEAR2
variable {S : am_S} {d : Nat} {σ : bm_S} {M L : Nat}
theorem p_year (h : RS M L σ) (x y : Int32) : PR S (d + 10) 124 240 [.int x, .int y] σ := by
  have hM := h.rw.M6
  have hL := h.rw.L12
  have s7 : ¬ Sc 219 := by unfold Sc; omega
  rcases bW_01 y.toInt64 1 30 with q | q
  · refine PR.ofk (v := .int (Int32.ofInt (-3))) h ⟨σ, by simp (decide := true) only [e124, g124_0, g124_9, g124_12, bm_run_ite, Option.toList_some, Option.bind_some, Option.toList_some, Option.toList_none, List.cons_append, List.nil_append, List.append_nil, eq_self, not_true_eq_false, not_false_eq_true, ite_true, ite_false, ↓reduceIte, Nat.reduceLT, Nat.reduceEqDiff, Nat.reduceAdd, or_true, true_or, or_false, false_or, c157, q], Kp.rfl σ⟩ ?_
    intro τ k
    exact ⟨_, by simp (decide := true) only [e240, g240_0, g240_14, g240_17, bm_run_ite, Option.toList_some, Option.bind_some, Option.toList_some, Option.toList_none, List.cons_append, List.nil_append, List.append_nil, eq_self, not_true_eq_false, not_false_eq_true, ite_true, ite_false, ↓reduceIte, Nat.reduceLT, Nat.reduceEqDiff, Nat.reduceAdd, or_true, true_or, or_false, false_or, c163, q], kp_t0 τ⟩
  obtain ⟨n, n1, n2, rfl⟩ := bW_of (a := 1) (b := 30) (by decide +kernel) (by decide +kernel) (by decide) q
  have hok := h.1.1.x x
  have hB0 := h.1.1
  generalize hC : upd (σ.1 219) 23 x = C at hok
  have co : ∀ i, i ≠ 23 → C i = σ.1 219 i := fun i hi => by rw [← hC]; exact upd_n _ _ hi
  have key := yrF_ok hok
  -- the class
  obtain ⟨σ0, k0, f0, w0⟩ := c77 (S := S) (d := d + 7) (σ := σ) isW5 isW15 (by decide)
  have r0 : RW M L (bm_wi σ0 15 4 x) 15 C := by rw [← hC]; exact (w0 h.rw).wf4 x
  have fa : Fyd 15 σ (bm_wi σ0 15 4 x) := ((f0.wi (by omega) (by omega) _ _).b (b := 2)).d
  have hb0 : BK (bm_wi σ0 15 4 x) 2 C := (h.bk.of (fa.1 2 (by omega) (by omega) (by omega)) (fa.1 3 (by omega) (by omega) (by omega))).cgK (fun i hi => co i (by omega))
  obtain ⟨σ1, e1, r1, f1⟩ := loop_ex (fun k s => bm_run S (d + 9) 18 6 [some (.ref 146), some (.ref 15), some (.ref 2), some (.int (nI n)), some (.int (nI (yrF M L C k).1)), some (.int (nI k))] [] s) (fun k s => RW M L s 15 (yrF M L C k).2 ∧ Fyd 15 (bm_wi σ0 15 4 x) s) n (bm_wi σ0 15 4 x) ⟨r0, Fyd.rfl _ _⟩ (by
    intro k s hk hp
    obtain ⟨p1, p2⟩ := hp
    obtain ⟨a1, a2, a3⟩ := key k
    have hb1 : BK s 2 (yrF M L C k).2 := (hb0.of (p2.1 2 (by omega) (by omega) (by omega)) (p2.1 3 (by omega) (by omega) (by omega))).cgK (fun i hi => a2 i (by omega))
    obtain ⟨s1, k1, r1, f1⟩ := c19 (S := S) (d := d + 1) p1 (by decide) (by unfold ob; omega) hb1 a1
    refine ⟨s1, ?_, r1, p2.tr f1⟩
    rw [g18_6]
    have e9 : (yrF M L C (k + 1)).1 = if wnB M L (dwV M L (yrF M L C k).2).2 (dwV M L (yrF M L C k).2).1.toInt64 = 0 then (yrF M L C k).1 + 1 else (yrF M L C k).1 := rfl
    rw [e9]
    by_cases q2 : wnB M L (dwV M L (yrF M L C k).2).2 (dwV M L (yrF M L C k).2).1.toInt64 = 0
    · rw [if_pos q2]
      rw [q2] at k1
      simp (disch := omega) only [bm_run_ite, Option.toList_some, Option.bind_some, Option.toList_some, Option.toList_none, List.cons_append, List.nil_append, List.append_nil, eq_self, not_true_eq_false, not_false_eq_true, ite_true, ite_false, ↓reduceIte, Nat.reduceLT, Nat.reduceEqDiff, Nat.reduceAdd, or_true, true_or, or_false, false_or, nI_clamp2, nI_lt0F, nI_leT, nI_leF, nI_ltT, nI_ltF, n_leF, n_leT, nI_1, kA6, kA8, kA10, kA22, kA26, kA32, kA44, kA56, kA68, kA80, kA93, kA163, kA794, not_or, or_self, and_self, and_true, true_and, g18_12, g18_18, g18_21, g18_24, k1]
    · rw [if_neg q2]
      simp (disch := omega) only [bm_run_ite, Option.toList_some, Option.bind_some, Option.toList_some, Option.toList_none, List.cons_append, List.nil_append, List.append_nil, eq_self, not_true_eq_false, not_false_eq_true, ite_true, ite_false, ↓reduceIte, Nat.reduceLT, Nat.reduceEqDiff, Nat.reduceAdd, or_true, true_or, or_false, false_or, nI_clamp2, nI_lt0F, nI_leT, nI_leF, nI_ltT, nI_ltF, n_leF, n_leT, nI_1, kA6, kA8, kA10, kA22, kA26, kA32, kA44, kA56, kA68, kA80, kA93, kA163, kA794, not_or, or_self, and_self, and_true, true_and, g18_12, g18_18, g18_24, k1, q2])
  have k18 : bm_call S (d + 9) 18 [.ref 146, .ref 15, .ref 2, .int (nI n)] (bm_wi σ0 15 4 x) = some (some (.int (nI (yrF M L C n).1)), σ1) := by
    rw [e18, g18_0]
    refine (show bm_run S (d + 9) 18 6 [some (.ref 146), some (.ref 15), some (.ref 2), some (.int (nI n)), some (.int (nI 0)), some (.int (nI 0))] [] _ = _ from e1).trans ?_
    rw [g18_6]
    simp (disch := omega) only [bm_run_ite, Option.toList_some, Option.bind_some, Option.toList_some, Option.toList_none, List.cons_append, List.nil_append, List.append_nil, eq_self, not_true_eq_false, not_false_eq_true, ite_true, ite_false, ↓reduceIte, Nat.reduceLT, Nat.reduceEqDiff, Nat.reduceAdd, or_true, true_or, or_false, false_or, nI_clamp2, nI_lt0F, nI_leT, nI_leF, nI_ltT, nI_ltF, n_leF, n_leT, nI_1, kA6, kA8, kA10, kA22, kA26, kA32, kA44, kA56, kA68, kA80, kA93, kA163, kA794, not_or, or_self, and_self, and_true, true_and, g18_30]
  have fz := fa.tr f1
  have kp1 : Kp σ σ1 := ⟨fun a p q => fz.1 a (by unfold Sc at p; omega) (by unfold Sc at p; omega) (by unfold Sc at p; omega), fun b _ => by rw [fz.1 218 (by omega) (by omega) (by omega)], fun a _ => by rw [fz.2]⟩
  have h1 := h.kp kp1
  -- the reference
  have ref : ∀ ρ : bm_S, ρ.1 219 = σ.1 219 → ∃ g1 σ3 o1 o4 o5, bm_run S (d + 10) 240 0 [some (.ref 218), some (.int x), some (.int (nI n)), none, none, none] [] ρ = bm_run S (d + 10) 240 77 [some (.ref 218), o1, some (.int (nI n)), some (.int (nI (yrF M L C n).1)), o4, o5] [] σ3 ∧ σ3.1 219 = (yrF M L C n).2 ∧ σ3.1 228 = g1 ∧ (∀ j, j < 70 → g1 j = σ.1 219 (22 + j)) ∧ (∀ a, ¬ Sc a → a ≠ 218 → a ≠ 219 → σ3.1 a = ρ.1 a) ∧ (∀ b, b = 5 ∨ b = 13 ∨ b = 14 → σ3.1 218 b = ρ.1 218 b) ∧ σ3.2 = ρ.2 := by
    intro ρ b0
    have b0' : (bm_wi ρ 218 0 0).1 219 = σ.1 219 := by rw [wi_n _ (by decide)]; exact b0
    obtain ⟨g1, k2, kg⟩ := m215 (S := S) (d := d + 9) (σ := bm_wi ρ 218 0 0)
    rw [b0'] at kg
    have b1 : (bm_row (bm_wi ρ 218 0 0) 228 g1).1 219 = σ.1 219 := (bm_row_1n _ _ (by decide)).trans b0'
    obtain ⟨⟨o5, σ3⟩, e3, c1, c2⟩ := loop_ex (fun k (s : Option Value × bm_S) => bm_run S (d + 10) 240 37 [some (.ref 218), some (.int x), some (.int (nI n)), some (.int (nI (yrF M L C k).1)), some (.int (nI k)), s.1] [] s.2) (fun k s => s.2.1 219 = (yrF M L C k).2 ∧ Fyr (bm_row (bm_wi ρ 218 0 0) 228 g1) s.2) n (none, bm_wi (bm_row (bm_wi ρ 218 0 0) 228 g1) 219 23 x) ⟨by rw [wi_s, b1, hC]; rfl, by rw [bm_wi_def]; exact (Fyr.rfl _).r17 _⟩ (by
      intro k s hk hp
      obtain ⟨p1, p2⟩ := hp
      obtain ⟨a1, a2, a3⟩ := key k
      have mr : ∀ (τ : bm_S) (D : Nat → Int32), OKB M L D → τ.1 219 = D → MR M L τ := fun τ D hD ht => ⟨⟨hM, hL⟩, by rw [ht]; exact hD.2.2.2.1.2.2.1, by rw [ht]; exact hD.2.2.2.1.2.2.2⟩
      have k3 := m239 (S := S) (d := d + 8) (mr _ _ a1 p1) p1
      have okd := (dwV_ok a1).1
      have bd : (bm_row s.2 219 (dwV M L (yrF M L C k).2).2).1 219 = (dwV M L (yrF M L C k).2).2 := row_row1 _ _ _
      obtain ⟨s1, k4, f4, b4⟩ := m234 (S := S) (d := d + 6) (mr _ _ okd bd) (by rw [bd]; exact okd.1.1.2.1) (dwV M L (yrF M L C k).2).1.toInt64
      rw [bd] at k4 b4
      have e9 : (yrF M L C (k + 1)).1 = if wnB M L (dwV M L (yrF M L C k).2).2 (dwV M L (yrF M L C k).2).1.toInt64 = 0 then (yrF M L C k).1 + 1 else (yrF M L C k).1 := rfl
      have e8 : (yrF M L C (k + 1)).2 = yrS M L (yrF M L C k).2 := rfl
      rw [e9, e8]
      unfold yrS
      by_cases q2 : wnB M L (dwV M L (yrF M L C k).2).2 (dwV M L (yrF M L C k).2).1.toInt64 = 0
      · rw [if_pos q2, if_pos q2]
        obtain ⟨s2, k5, b5, f5⟩ := m235 (S := S) (d := d + 2) (σ := s1) (mr _ _ okd b4) (by rw [b4]; exact okd) (v := (dwV M L (yrF M L C k).2).1.toInt64) (by rw [b4]; exact q2)
        rw [b4] at b5
        rw [l32] at k5
        rw [q2] at k4
        refine ⟨(some (.int (dwV M L (yrF M L C k).2).1), s2), ?_, b5, ((p2.r17 _).tr f4).tr f5⟩
        rw [g240_37]
        simp (disch := omega) only [bm_run_ite, Option.toList_some, Option.bind_some, Option.toList_some, Option.toList_none, List.cons_append, List.nil_append, List.append_nil, eq_self, not_true_eq_false, not_false_eq_true, ite_true, ite_false, ↓reduceIte, Nat.reduceLT, Nat.reduceEqDiff, Nat.reduceAdd, or_true, true_or, or_false, false_or, nI_clamp2, nI_lt0F, nI_leT, nI_leF, nI_ltT, nI_ltF, n_leF, n_leT, nI_1, kA6, kA8, kA10, kA22, kA26, kA32, kA44, kA56, kA68, kA80, kA93, kA163, kA794, not_or, or_self, and_self, and_true, true_and, g240_43, g240_47, g240_56, g240_62, g240_68, g240_71, k3, k4, k5]
      · rw [if_neg q2, if_neg q2]
        refine ⟨(some (.int (dwV M L (yrF M L C k).2).1), s1), ?_, b4, (p2.r17 _).tr f4⟩
        rw [g240_37]
        simp (disch := omega) only [bm_run_ite, Option.toList_some, Option.bind_some, Option.toList_some, Option.toList_none, List.cons_append, List.nil_append, List.append_nil, eq_self, not_true_eq_false, not_false_eq_true, ite_true, ite_false, ↓reduceIte, Nat.reduceLT, Nat.reduceEqDiff, Nat.reduceAdd, or_true, true_or, or_false, false_or, nI_clamp2, nI_lt0F, nI_leT, nI_leF, nI_ltT, nI_ltF, n_leF, n_leT, nI_1, kA6, kA8, kA10, kA22, kA26, kA32, kA44, kA56, kA68, kA80, kA93, kA163, kA794, not_or, or_self, and_self, and_true, true_and, g240_43, g240_47, g240_56, g240_59, g240_71, k3, k4, q2])
    refine ⟨g1, σ3, some (.int x), some (.int (nI n)), o5, ?_, c1, ?_, kg, ?_, ?_, ?_⟩
    · simp (decide := true) only [g240_0, g240_14, g240_20, g240_24, bm_run_ite, Option.toList_some, Option.bind_some, Option.toList_some, Option.toList_none, List.cons_append, List.nil_append, List.append_nil, eq_self, not_true_eq_false, not_false_eq_true, ite_true, ite_false, ↓reduceIte, Nat.reduceLT, Nat.reduceEqDiff, Nat.reduceAdd, or_true, true_or, or_false, false_or, c163, q, k2]
      refine (show bm_run S (d + 10) 240 37 [some (.ref 218), some (.int x), some (.int (nI n)), some (.int (nI 0)), some (.int (nI 0)), none] [] _ = _ from e3).trans ?_
      rw [g240_37]
      simp (disch := omega) only [bm_run_ite, Option.toList_some, Option.bind_some, Option.toList_some, Option.toList_none, List.cons_append, List.nil_append, List.append_nil, eq_self, not_true_eq_false, not_false_eq_true, ite_true, ite_false, ↓reduceIte, Nat.reduceLT, Nat.reduceEqDiff, Nat.reduceAdd, or_true, true_or, or_false, false_or, nI_clamp2, nI_lt0F, nI_leT, nI_leF, nI_ltT, nI_ltF, n_leF, n_leT, nI_1, kA6, kA8, kA10, kA22, kA26, kA32, kA44, kA56, kA68, kA80, kA93, kA163, kA794, not_or, or_self, and_self, and_true, true_and]
    · show σ3.1 228 = g1
      rw [c2.2.1, row_row1]
    · intro a p1 p2 p3
      show σ3.1 a = ρ.1 a
      rw [c2.1 a p1 p2 p3, bm_row_1n _ _ (by unfold Sc at p1; omega), wi_n _ p2]
    · intro b hb
      show σ3.1 218 b = ρ.1 218 b
      rw [c2.2.2.1 b (by omega), bm_row_1n _ _ (by decide), wi_s, upd_n _ _ (by omega)]
    · exact c2.2.2.2
  obtain ⟨tok, tout, tn⟩ := key n
  generalize hT : yrF M L C n = T at *
  have tout2 : ∀ j, (j < 22 ∨ 92 ≤ j) → T.2 j = σ.1 219 j := fun j hj => (tout j (by omega)).trans (co j (by omega))
  rcases Nat.eq_zero_or_pos T.1 with qz | qz
  · have l0 : nI T.1 ≤ 0 := by rw [qz]; decide
    refine PR.ofk (v := .int (nI T.1)) h ⟨σ1, ?_, kp1⟩ ?_
    · simp (decide := true) only [e124, g124_0, g124_9, g124_15, g124_26, g124_50, g124_63, bm_run_ite, Option.toList_some, Option.bind_some, Option.toList_some, Option.toList_none, List.cons_append, List.nil_append, List.append_nil, eq_self, not_true_eq_false, not_false_eq_true, ite_true, ite_false, ↓reduceIte, Nat.reduceLT, Nat.reduceEqDiff, Nat.reduceAdd, or_true, true_or, or_false, false_or, c157, q, k0, k18, l0]
    · intro τ k
      have b0 : τ.1 219 = σ.1 219 := k.at s7 (by omega)
      obtain ⟨g1, σ3, o1, o4, o5, k3, c1, c4, kg, c3, c5, c6⟩ := ref τ b0
      have ea := again (σ := τ) (τ := σ3) (by rw [b0]; exact kg) c4 (fun j hj => by rw [c1, b0]; exact tout2 j hj)
      refine ⟨bm_row σ3 219 (τ.1 219), ?_, ?_⟩
      · rw [e240, k3, g240_77]
        simp (decide := true) only [bm_run_ite, Option.toList_some, Option.bind_some, Option.toList_some, Option.toList_none, List.cons_append, List.nil_append, List.append_nil, eq_self, not_true_eq_false, not_false_eq_true, ite_true, ite_false, ↓reduceIte, Nat.reduceLT, Nat.reduceEqDiff, Nat.reduceAdd, or_true, true_or, or_false, false_or, l0, g240_88, g240_92, m216, ea]
      · refine ⟨fun a p1 p2 => ?_, fun b hb => ?_, fun a _ => ?_⟩
        · by_cases e : a = 219
          · subst e; rw [row_row1]
          · rw [bm_row_1n _ _ e, c3 a p1 p2 e]
        · rw [bm_row_1n _ _ (by decide), c5 b hb]
        · show σ3.2 a = τ.2 a
          rw [c6]
  · have l0 : ¬ nI T.1 ≤ 0 := nI_nle qz (by omega)
    obtain ⟨σ2, σ4, m, e, x1, x2, k5, af, f5, r5⟩ := goOn (S := S) (d := d + 4) h1 r1
    have sm : ∀ a, 141 < a → σ4.1 a = σ1.1 a := fun a ha => by rw [f5.1 a (by omega), af.at (by omega)]
    have sx : σ4.2 = σ1.2 := by
      obtain ⟨_, _, _, _, _, _, _, _, _, _, a11⟩ := af
      rw [f5.2, a11]
    have e17 : σ1.1 219 = σ.1 219 := kp1.at s7 (by omega)
    obtain ⟨g1, σ3, o1, o4, o5, k3, c1, c4, kg, c3, c5, c6⟩ := ref σ4 (by rw [sm 219 (by omega)]; exact e17)
    obtain ⟨k7, rs⟩ := mut_fin2 (S := S) (d := d + 9) (ρ2 := σ3) h1 af f5.b (fun j hj => by rw [c4, kg j hj, e17]) c3 c5 (fun a _ => by rw [c6]) c1 (fun j hj => by rw [tout2 j hj, e17]) tok r5
    refine ⟨.int (nI T.1), σ4, _, M, L, ?_, ?_, rs⟩
    · simp (decide := true) only [e124, g124_0, g124_9, g124_15, g124_26, g124_50, g124_55, g124_63, bm_run_ite, Option.toList_some, Option.bind_some, Option.toList_some, Option.toList_none, List.cons_append, List.nil_append, List.append_nil, eq_self, not_true_eq_false, not_false_eq_true, ite_true, ite_false, ↓reduceIte, Nat.reduceLT, Nat.reduceEqDiff, Nat.reduceAdd, or_true, true_or, or_false, false_or, c157, q, k0, k18, l0, k5]
    · rw [e240, k3, g240_77]
      simp (decide := true) only [bm_run_ite, Option.toList_some, Option.bind_some, Option.toList_some, Option.toList_none, List.cons_append, List.nil_append, List.append_nil, eq_self, not_true_eq_false, not_false_eq_true, ite_true, ite_false, ↓reduceIte, Nat.reduceLT, Nat.reduceEqDiff, Nat.reduceAdd, or_true, true_or, or_false, false_or, l0, g240_81, g240_85, g240_92, k7]
end YEAR2
