/-! what a fair does hangs on what is due, not on how the rest lies -/
def agL (B C : Nat → Int32) : Prop := ∀ i, (i < 68 ∨ 92 ≤ i) → C i = B i
def ltR (L : Nat) (s t : fS) : Prop := agL s.1 t.1 ∧ (∀ l, l < L → t.2 l = s.2 l) ∧ duO L s ∧ duO L t
theorem evF_agL {W B C : Nat → Int32} (h : agL B C) (p : Nat) : ∀ n, evF W C p n = evF W B p n := by
  intro n
  induction n with
  | zero => rfl
  | succ n ih => rw [evF, evF, ih, show cdB C p n = cdB B p n from h _ (by omega)]
theorem tmB_agL {B C : Nat → Int32} (h : agL B C) (m c s : Int32) : tmB C m c s = tmB B m c s := by
  unfold tmB
  rw [h 5 (by omega), h 1 (by omega), h 22 (by omega), h 7 (by omega), h 9 (by omega), evF_agL h]
theorem shF_agL {B C g : Nat → Int32} (h : agL B C) {m : Nat} (hm : m < 6) : shF C g m = shF B g m := by
  unfold shF
  rw [h 24 (by omega), h _ (by omega)]
theorem netF_agL {B C : Nat → Int32} {D E : Nat → Bool} {L : Nat} (hL : L ≤ 12) (h : agL B C) (hd : ∀ l, l < L → E l = D l) : netF E C L = netF D B L := netF_cg hd (fun l hl => ⟨h _ (by omega), h _ (by omega), h _ (by omega)⟩)
theorem late_seS {L : Nat} (hL : L ≤ 12) {B C g : Nat → Int32} (hb : agL B C) {s t : fS} (h : ltR L s t) {m : Nat} (hm : m < 6) : ltR L (seS L B g s m) (seS L C g t m) := by
  obtain ⟨h1, h2, h3, h4⟩ := h
  refine ⟨?_, ?_, duO_seS hL B g h3 m, duO_seS hL C g h4 m⟩
  · unfold seS
    rw [shF_agL hb hm, tmB_agL h1, hb _ (by omega)]
    split
    · split
      · intro i hi
        show ptB t.1 t.2 m L i = ptB s.1 s.2 m L i
        rw [ptB_out (by omega), ptB_out (by omega)]; exact h1 i hi
      · intro i hi
        show brB t.1 m L i = brB s.1 m L i
        by_cases e : i = 24
        · rw [e, brB_24, brB_24, h1 24 (by omega)]
        · rw [brB_out e (by omega), brB_out e (by omega)]; exact h1 i hi
    · exact h1
  · intro l hl
    unfold seS
    rw [shF_agL hb hm, tmB_agL h1, hb _ (by omega)]
    split
    · split
      · show ptD t.1 m t.2 l = ptD s.1 m s.2 l
        unfold ptD
        rw [h2 l hl, h1 _ (by omega)]
      · show brD t.1 m t.2 l = brD s.1 m s.2 l
        unfold brD
        rw [h2 l hl]
        cases q : s.2 l
        · rfl
        · rw [h3 l hl q, h4 l hl (by rw [h2 l hl]; exact q)]
          unfold tou
          rw [h1 _ (by omega), h1 _ (by omega)]
    · exact h2 l hl
theorem late_seF {L : Nat} (hL : L ≤ 12) {B C g : Nat → Int32} (hb : agL B C) {s t : fS} (h : ltR L s t) : ∀ m, m ≤ 6 → ltR L (seF L B g s m) (seF L C g t m) := by
  intro m
  induction m with
  | zero => intro _; exact h
  | succ m ih => intro hm; exact late_seS hL hb (ih (by omega)) (by omega)
theorem anS_agL {B C g : Nat → Int32} (h : agL B C) : ∀ {M : Nat}, M ≤ 6 → anS C g M = anS B g M := by
  intro M
  induction M with
  | zero => intro _; rfl
  | succ M ih => intro hM; rw [anS, anS, ih (by omega), shF_agL h (by omega)]
theorem late_tuF {M L : Nat} (hM : M ≤ 6) (hL : L ≤ 12) : ∀ (n : Nat) (s t : fS), ltR L s t → ltR L (tuF M L n s) (tuF M L n t) := by
  intro n
  induction n with
  | zero => intro s t h; exact h
  | succ n ih =>
    intro s t h
    have hn := netF_agL hL h.1 h.2.1
    have ha : anF M L t = anF M L s := by unfold anF; rw [hn, anS_agL h.1 hM]
    rw [tuF, tuF, ha]
    split
    · refine ih _ _ ?_
      unfold tuS
      rw [hn]
      exact late_seF hL h.1 h M hM
    · exact h
theorem late_faB {M L : Nat} (hM : M ≤ 6) (hL : L ≤ 12) {B C : Nat → Int32} {D E : Nat → Bool} (h : ltR L (B, D) (C, E)) : agL (faB M L B D) (faB M L C E) := by
  have ht := late_tuF (M := M) hM hL 13 _ _ h
  generalize hS : tuF M L 13 (B, D) = s at ht
  generalize hT : tuF M L 13 (C, E) = t at ht
  have he : agL (enB M L s) (enB M L t) := by
    intro i hi
    by_cases q : 26 ≤ i ∧ i < 26 + M
    · obtain ⟨m, rfl⟩ : ∃ m, i = 26 + m := ⟨i - 26, by omega⟩
      rw [enB_cash hM hL (by omega), enB_cash hM hL (by omega), ht.1 _ (by omega), netF_agL hL ht.1 ht.2.1]
    · rw [enB_out hM hL (by omega), enB_out hM hL (by omega)]; exact ht.1 i hi
  intro i hi
  unfold faB
  rw [hS, hT]
  by_cases e : i = 22
  · rw [e, upd_s, upd_s, he 22 (by omega)]
  · rw [upd_n _ _ e, upd_n _ _ e]; exact he i hi
/-- letters put off, by bits -/
def dlB (B : Nat → Int32) (X : Int32) : Nat → Nat → Int32
  | 0 => B
  | l + 1 => if tb X l = true then upd (dlB B X l) (68 + l) (B (68 + l) + 1) else dlB B X l
theorem dlB_out {B : Nat → Int32} {X : Int32} {i : Nat} : ∀ {n : Nat}, (i < 68 ∨ 68 + n ≤ i) → dlB B X n i = B i := by
  intro n
  induction n with
  | zero => intro _; rfl
  | succ n ih =>
    intro h
    rw [dlB]
    split
    · rw [upd_n _ _ (by omega)]; exact ih (by omega)
    · exact ih (by omega)
theorem dlB_at {B : Nat → Int32} {X : Int32} {l : Nat} : ∀ {n : Nat}, l < n → dlB B X n (68 + l) = if tb X l = true then B (68 + l) + 1 else B (68 + l) := by
  intro n
  induction n with
  | zero => intro h; omega
  | succ n ih =>
    intro h
    rw [dlB]
    by_cases e : l = n
    · subst e
      split
      · rw [upd_s]
      · exact dlB_out (by omega)
    · split
      · rw [upd_n _ _ (by omega)]; exact ih (by omega)
      · exact ih (by omega)
theorem ne_succ (f : Int32) : ¬ f + 1 = f := by
  intro z
  have z1 : (f + 1) - f = f - f := by rw [z]
  rw [Int32.add_comm, Int32.add_sub_cancel, Int32.sub_self] at z1
  exact absurd z1 (by decide)
theorem late_ltR {L : Nat} (hL : L ≤ 12) {B : Nat → Int32} {X : Int32} (hX : ∀ l, l < L → tb X l = true → dB B (B 22) l = true) : ltR L (B, D0 B X) (dlB B X L, dB (dlB B X L) (dlB B X L 22)) := by
  have e22 : dlB B X L 22 = B 22 := dlB_out (by omega)
  refine ⟨fun i hi => dlB_out (by omega), fun l hl => ?_, ?_, ?_⟩
  · show dB (dlB B X L) (dlB B X L 22) l = D0 B X l
    rw [e22]
    unfold D0
    have e80 : dlB B X L (80 + l) = B (80 + l) := dlB_out (by omega)
    cases q : tb X l
    · unfold dB
      rw [e80, dlB_at hl, q]; simp
    · have h1 := hX l hl q
      unfold dB at h1 ⊢
      simp only [Bool.and_eq_true, decide_eq_true_eq] at h1
      rw [e80, dlB_at hl, q, if_pos rfl, h1.2]
      simp [ne_succ]
  · intro l hl hq
    simp only [D0, dB, Bool.and_eq_true] at hq
    exact hq.1.1
  · exact duO_dB L _
theorem agL_bk {σ : bm_S} {b : Nat} {B C : Nat → Int32} (h : BK σ b B) (e : agL B C) : BK σ b C := h.cgK (fun i hi => e i (by omega))
theorem agL_LW {B C : Nat → Int32} (h : LW B) (e : agL B C) : LW C := h.cgz (fun i hi => e i (by omega))
theorem agL_GW {M L : Nat} (hM : M ≤ 6) (hL : L ≤ 12) {B C : Nat → Int32} (h : GW M L B) (e : agL B C) : GW M L C := by
  obtain ⟨hl, g, gm, gc⟩ := h
  refine ⟨agL_LW hl e, ?_, ?_, ?_⟩
  · intro l hl
    obtain ⟨a, b, ha, hb, hab, ea, eb⟩ := g l hl
    exact ⟨a, b, ha, hb, hab, by rw [e _ (by omega)]; exact ea, by rw [e _ (by omega)]; exact eb⟩
  · intro l hl
    obtain ⟨k, hk, ek⟩ := gm l hl
    exact ⟨k, hk, by rw [e _ (by omega)]; exact ek⟩
  · intro l hl
    obtain ⟨k, hk, ek⟩ := gc l hl
    exact ⟨k, hk, by rw [e _ (by omega)]; exact ek⟩
/-- who is broken behind this fair, were some late -/
def lbB (M L : Nat) (B : Nat → Int32) (X : Int32) : Int32 := faB M L B (D0 B X) 24
theorem duO_D0 (L : Nat) (B : Nat → Int32) (X : Int32) : duO L (B, D0 B X) := by
  intro l _ hq
  simp only [D0, dB, Bool.and_eq_true] at hq
  exact hq.1.1
theorem lbB_small {M L : Nat} (hM : M ≤ 6) (hL : L ≤ 12) {B : Nat → Int32} (h : GA M L B) (X : Int32) : ∀ k, 6 ≤ k → k < 32 → tb (lbB M L B X) k = false := fun k h1 h2 => (faB_GA hM hL h (duO_D0 L B X)).2.2 k (by omega) h2
theorem lbB_up {M L : Nat} (hM : M ≤ 6) (hL : L ≤ 12) {B : Nat → Int32} (X : Int32) {k : Nat} (hk : k < 32) (h : tb (B 24) k = true) : tb (lbB M L B X) k = true := by
  unfold lbB
  rw [faB_24 hM hL]
  exact tuF_up hM hk 13 _ h
section LATE
variable {S : am_S} {d : Nat} {σ : bm_S} {M L : Nat} {B : Nat → Int32}
theorem m266 (h : MR M L σ) (hB : σ.1 219 = B) (hg : GA M L B) (X : Int32) : ∃ σ1, bm_call S (d + 6) 266 [.ref 218, .int X] σ = some (some (.int (lbB M L B X)), σ1) ∧ Fu σ σ1 := by
  have hM := h.M6
  have hL := h.L12
  obtain ⟨g1, e1, k1⟩ := m215 (S := S) (d := d + 5) (σ := σ)
  have r7 : (bm_row σ 228 g1).1 219 = B := (bm_row_1n _ _ (by decide)).trans hB
  obtain ⟨σ2, e2, b2, f2⟩ := m212 (S := S) (d := d) (σ := bm_row σ 228 g1) ⟨h.1, by rw [r7, ← hB]; exact h.m, by rw [r7, ← hB]; exact h.l⟩ (by rw [r7]; exact hg.1) X
  rw [r7] at b2
  have e26 : σ2.1 228 = g1 := by rw [f2.1 228 (by decide) (by decide) (by decide), row_row1]
  have ea := again (σ := σ) (τ := σ2) k1 e26 (fun i hi => by rw [b2, hB]; exact faB_out hM hL (by omega))
  refine ⟨bm_row σ2 219 (σ.1 219), ?_, f2.again⟩
  simp only [e266, g266_0, g266_4, g266_9, g266_22, bm_run_ite, Option.toList_some, Option.bind_some, Option.toList_some, Option.toList_none, List.cons_append, List.nil_append, List.append_nil, eq_self, not_true_eq_false, not_false_eq_true, ite_true, ite_false, ↓reduceIte, Nat.reduceLT, Nat.reduceEqDiff, Nat.reduceAdd, or_true, true_or, or_false, false_or, e1, e2, m216, ea]
  rw [b2]
  rfl
theorem w160 : isW 162 := by unfold isW; decide
/-- the class: this fair, were one letter late -/
theorem c26 (h : RW M L σ 5 B) (hb : BK σ 2 B) (hg : GA M L B) (i : Int32) (X : Int32) (hi : (hasI i L = false ∧ X = 0) ∨ ∃ l, l < L ∧ i = nI l ∧ X = bt l ∧ dB B (B 22) l = true) : ∃ σ1, bm_call S (d + 6) 26 [.ref 161, .ref 2, .ref 5, .int i] σ = some (some (.int (lbB M L B X &&& (B 24 ^^^ Int32.ofInt (-1)))), σ1) ∧ Fb 162 2 σ σ1 := by
  have hM := h.M6
  have hL := h.L12
  have o : ob 2 162 := by unfold ob; omega
  obtain ⟨σ1, k1, f1, w1⟩ := c77 (S := S) (d := d + 3) (σ := σ) h.iw w160 (by decide)
  have r1 := w1 h
  have r5 : RW M L σ1 5 B := h.of (fun a _ _ => f1.1 a (by omega))
  have hX : ∀ l, l < L → tb X l = true → dB B (B 22) l = true := by
    intro l hl q
    rcases hi with ⟨_, rfl⟩ | ⟨k, hk, _, rfl, hd⟩
    · rw [tb_0] at q; cases q
    · rw [tb_bt k (by omega) l (by omega)] at q
      have : l = k := by simpa using q
      rw [this]; exact hd
  obtain ⟨σ2, k2, r2, f2⟩ : ∃ σ2, bm_run S (d + 6) 26 8 [some (.ref 161), some (.ref 2), some (.ref 5), some (.int i)] [] σ1 = bm_run S (d + 6) 26 24 [some (.ref 161), some (.ref 2), some (.ref 5), some (.int i)] [] σ2 ∧ RW M L σ2 162 (dlB B X L) ∧ Fb 162 2 σ1 σ2 := by
    rcases hi with ⟨hi, rfl⟩ | ⟨k, hk, rfl, rfl, hd⟩
    · refine ⟨σ1, ?_, ?_, Fb.rfl _ _ _⟩
      · rw [g26_8]
        simp only [bm_run_ite, Option.toList_some, Option.bind_some, Option.toList_some, Option.toList_none, List.cons_append, List.nil_append, List.append_nil, eq_self, not_true_eq_false, not_false_eq_true, ite_true, ite_false, ↓reduceIte, Nat.reduceLT, Nat.reduceEqDiff, Nat.reduceAdd, or_true, true_or, or_false, false_or, isW5.t0, c79 r5, hi, g26_13, bI_ite, Bool.false_eq_true]
      · have : ∀ n, dlB B 0 n = B := by
          intro n
          induction n with
          | zero => rfl
          | succ n ih => rw [dlB, tb_0, if_neg (by decide), ih]
        rw [this]; exact r1
    · have k3 := c103 (S := S) (d := d + 4) r1 hk
      refine ⟨bm_wi σ1 (162 + 5) k (B (68 + k) + 1), ?_, ?_, ⟨fun a ha _ => wi_n _ (by omega) _ _, rfl⟩⟩
      · rw [g26_8]
        simp only [bm_run_ite, Option.toList_some, Option.bind_some, Option.toList_some, Option.toList_none, List.cons_append, List.nil_append, List.append_nil, eq_self, not_true_eq_false, not_false_eq_true, ite_true, ite_false, ↓reduceIte, Nat.reduceLT, Nat.reduceEqDiff, Nat.reduceAdd, or_true, true_or, or_false, false_or, isW5.t0, c79 r5, hasI_nI hk (show L < 2 ^ 31 by omega), g26_13, bI_ite, g26_16]
        rw [k3]
        rfl
      · have : ∀ n, n ≤ L → dlB B (bt k) n = if k < n then upd B (68 + k) (B (68 + k) + 1) else B := by
          intro n
          induction n with
          | zero => intro _; rfl
          | succ n ih =>
            intro hn
            rw [dlB, ih (by omega), tb_bt k (by omega) n (by omega)]
            by_cases e : n = k
            · subst e
              simp
            · by_cases q : k < n
              · simp [e, q, show k < n + 1 by omega]
              · simp [e, q, show ¬ k < n + 1 by omega]
        rw [this L (Nat.le_refl L), if_pos hk]
        exact r1.w5 hk _
  have ag : agL B (dlB B X L) := fun i hi => dlB_out (by omega)
  have f12 := f1.b.tr f2
  have hb2 : BK σ2 2 (dlB B X L) := agL_bk (f12.BK o hb) ag
  obtain ⟨σ3, k3, r3, f3⟩ := c101h (S := S) (d := d + 1) r2 o hb2 (agL_GW hM hL hg.1 ag) false
  replace k3 : bm_call S (d + 5) 101 [.ref 162, .ref 2, .int 0] σ2 = some (none, σ3) := k3
  have e24 : hoB M L (dlB B X L) false 24 = lbB M L B X := late_faB hM hL (late_ltR hL hX) 24 (by omega)
  have f := f12.tr f3
  refine ⟨σ3, ?_, f⟩
  have q1 : σ3.1 162 2 = lbB M L B X := r3.f2.trans e24
  have q2 : σ3.1 5 2 = B 24 := by rw [f.1 5 (by omega) (by omega)]; exact h.f2
  simp only [e26, g26_0, bm_run_ite, Option.toList_some, Option.bind_some, Option.toList_some, Option.toList_none, List.cons_append, List.nil_append, List.append_nil, eq_self, not_true_eq_false, not_false_eq_true, ite_true, ite_false, ↓reduceIte, Nat.reduceLT, Nat.reduceEqDiff, Nat.reduceAdd, or_true, true_or, or_false, false_or, k1]
  rw [k2]
  simp only [g26_24, bm_run_ite, Option.toList_some, Option.bind_some, Option.toList_some, Option.toList_none, List.cons_append, List.nil_append, List.append_nil, eq_self, not_true_eq_false, not_false_eq_true, ite_true, ite_false, ↓reduceIte, Nat.reduceLT, Nat.reduceEqDiff, Nat.reduceAdd, or_true, true_or, or_false, false_or, k3, g26_33, isW5.t0, q1, q2]
def viF (M L : Nat) (B : Nat → Int32) : Nat → Int32 × Int32
  | 0 => (Int32.ofInt (-1), bcF (lbB M L B 0))
  | l + 1 => if dB B (B 22) l = true then (if (viF M L B l).2 < bcF (lbB M L B (bt l)) then (nI l, bcF (lbB M L B (bt l))) else viF M L B l) else viF M L B l
theorem bc_nat {x : Int32} (h : ∀ k, 6 ≤ k → k < 32 → tb x k = false) : ∃ a, a < 7 ∧ bcF x = nI a := by
  obtain ⟨b, hb, rfl⟩ := small_bits h
  clear h
  have : ∀ b, b < 64 → ∃ a, a < 7 ∧ bcF (nI b) = nI a := by decide +kernel
  exact this b hb
theorem sub_cmp : ∀ a, a < 7 → ∀ b, b < 7 → ∀ c, c < 7 → (nI a - nI c ≤ nI b - nI c ↔ nI a ≤ nI b) := by decide +kernel
theorem viF_nat {M L : Nat} (hM : M ≤ 6) (hL : L ≤ 12) {B : Nat → Int32} (h : GA M L B) : ∀ l, ∃ a, a < 7 ∧ (viF M L B l).2 = nI a := by
  intro l
  induction l with
  | zero => exact bc_nat (lbB_small hM hL h 0)
  | succ l ih =>
    rw [viF]
    split
    · split
      · exact bc_nat (lbB_small hM hL h (bt l))
      · exact ih
    · exact ih
theorem p_vital (h : RS M L σ) : PR S (d + 10) 141 270 [] σ := by
  have hM := h.rw.M6
  have hL := h.rw.L12
  have hg := h.ga
  generalize hB : σ.1 219 = B at hg
  obtain ⟨b0, hb0, eb0⟩ := bc_nat (x := B 24) (fun k h1 h2 => hg.2.2 k (by omega) h2)
  have bs : ∀ X, bcF (lbB M L B X &&& (B 24 ^^^ Int32.ofInt (-1))) = bcF (lbB M L B X) - nI b0 := by
    intro X
    rw [← eb0]
    exact bits_sub (lbB_small hM hL hg X) (fun k h1 h2 => hg.2.2 k (by omega) h2) (fun k hk hq => lbB_up hM hL X hk hq)
  have sm : ∀ (X : Int32) k, 6 ≤ k → k < 32 → tb (lbB M L B X &&& (B 24 ^^^ Int32.ofInt (-1))) k = false := fun X k h1 h2 => by rw [tb_and, lbB_small hM hL hg X k h1 h2]; rfl
  refine PR.ofk (v := .int (viF M L B L).1) h ?_ ?_
  · have hr := h.rw
    have hb := h.bk
    rw [hB] at hr hb
    obtain ⟨σ0, k0, f0⟩ := c26 (S := S) (d := d + 3) hr hb hg (Int32.ofInt (-1)) 0 (Or.inl ⟨by unfold hasI; simp (decide := true), rfl⟩)
    obtain ⟨⟨o4, σ1⟩, e1, ks1⟩ := loop_ex (fun k (s : Option Value × bm_S) => bm_run S (d + 10) 141 24 [some (.ref 0), some (.int (viF M L B k).1), some (.int ((viF M L B k).2 - nI b0)), some (.int (nI k)), s.1] [] s.2) (fun _ s => Kp σ s.2) L (none, σ0) (f0.kp (by omega)) (by
      intro k s hk ks
      obtain ⟨h1, b1⟩ := h.kB ks
      have hr := h1.rw
      have hb := h1.bk
      rw [b1, hB] at hr hb
      rw [viF]
      cases hd : dB B (B 22) k
      · refine ⟨s, ?_, ks⟩
        rw [g141_24]
        simp (disch := omega) only [bm_run_ite, Option.toList_some, Option.bind_some, Option.toList_some, Option.toList_none, List.cons_append, List.nil_append, List.append_nil, eq_self, not_true_eq_false, not_false_eq_true, ite_true, ite_false, ↓reduceIte, Nat.reduceLT, Nat.reduceEqDiff, Nat.reduceAdd, or_true, true_or, or_false, false_or, nI_clamp2, nI_lt0F, nI_leT, nI_leF, nI_ltT, nI_ltF, n_leF, n_leT, nI_1, kA6, kA8, kA10, kA22, kA26, kA32, kA44, kA56, kA68, kA80, kA93, kA163, kA794, not_or, or_self, and_self, and_true, true_and, g141_35, g141_50, g141_53, g141_88, hr.f1, hr.f3, c82n hr hk, hd, bI_itn, Bool.false_eq_true]
      · obtain ⟨s1, k1, f1⟩ := c26 (S := S) (d := d + 3) hr hb hg (nI k) (bt k) (Or.inr ⟨k, hk, rfl, rfl, hd⟩)
        have k2 := c288 (S := S) (d := d + 9) (σ := s1) (sm (bt k))
        rw [bs] at k2
        refine ⟨(some (.int (bcF (lbB M L B (bt k)) - nI b0)), s1), ?_, ks.tr (f1.kp (by omega))⟩
        obtain ⟨x, hx, ex⟩ := viF_nat hM hL hg k
        obtain ⟨y, hy, ey⟩ := bc_nat (lbB_small hM hL hg (bt k))
        have sc := sub_cmp y hy x hx b0 hb0
        rw [← ex, ← ey] at sc
        by_cases q2 : (viF M L B k).2 < bcF (lbB M L B (bt k))
        · have q3 : ¬ bcF (lbB M L B (bt k)) - nI b0 ≤ (viF M L B k).2 - nI b0 := fun z => Int32.not_le.mpr q2 (sc.mp z)
          rw [g141_24]
          simp (disch := omega) only [bm_run_ite, Option.toList_some, Option.bind_some, Option.toList_some, Option.toList_none, List.cons_append, List.nil_append, List.append_nil, eq_self, not_true_eq_false, not_false_eq_true, ite_true, ite_false, ↓reduceIte, Nat.reduceLT, Nat.reduceEqDiff, Nat.reduceAdd, or_true, true_or, or_false, false_or, nI_clamp2, nI_lt0F, nI_leT, nI_leF, nI_ltT, nI_ltF, n_leF, n_leT, nI_1, kA6, kA8, kA10, kA22, kA26, kA32, kA44, kA56, kA68, kA80, kA93, kA163, kA794, not_or, or_self, and_self, and_true, true_and, g141_35, g141_50, g141_56, g141_72, g141_75, g141_83, g141_88, hr.f1, hr.f3, c82n hr hk, hd, bI_itn, k1, k2, q2, q3]
        · have q3 : bcF (lbB M L B (bt k)) - nI b0 ≤ (viF M L B k).2 - nI b0 := sc.mpr (Int32.not_lt.mp q2)
          rw [g141_24]
          simp (disch := omega) only [bm_run_ite, Option.toList_some, Option.bind_some, Option.toList_some, Option.toList_none, List.cons_append, List.nil_append, List.append_nil, eq_self, not_true_eq_false, not_false_eq_true, ite_true, ite_false, ↓reduceIte, Nat.reduceLT, Nat.reduceEqDiff, Nat.reduceAdd, or_true, true_or, or_false, false_or, nI_clamp2, nI_lt0F, nI_leT, nI_leF, nI_ltT, nI_ltF, n_leF, n_leT, nI_1, kA6, kA8, kA10, kA22, kA26, kA32, kA44, kA56, kA68, kA80, kA93, kA163, kA794, not_or, or_self, and_self, and_true, true_and, g141_35, g141_50, g141_56, g141_72, g141_75, g141_88, hr.f1, hr.f3, c82n hr hk, hd, bI_itn, k1, k2, q2, q3])
    replace ks1 : Kp σ σ1 := ks1
    have f1 := (h.kB ks1).1.rw.f1
    have k2 := c288 (S := S) (d := d + 9) (σ := σ0) (sm 0)
    rw [bs] at k2
    refine ⟨σ1, ?_, ks1⟩
    simp only [e141, g141_0, g141_18, g141_21, bm_run_ite, Option.toList_some, Option.bind_some, Option.toList_some, Option.toList_none, List.cons_append, List.nil_append, List.append_nil, eq_self, not_true_eq_false, not_false_eq_true, ite_true, ite_false, ↓reduceIte, Nat.reduceLT, Nat.reduceEqDiff, Nat.reduceAdd, or_true, true_or, or_false, false_or, k0, k2]
    refine (show bm_run S (d + 10) 141 24 [some (.ref 0), some (.int (Int32.ofInt (-1))), some (.int (bcF (lbB M L B 0) - nI b0)), some (.int (nI 0)), none] [] σ0 = _ from e1).trans ?_
    rw [g141_24]
    simp (disch := omega) only [bm_run_ite, Option.toList_some, Option.bind_some, Option.toList_some, Option.toList_none, List.cons_append, List.nil_append, List.append_nil, eq_self, not_true_eq_false, not_false_eq_true, ite_true, ite_false, ↓reduceIte, Nat.reduceLT, Nat.reduceEqDiff, Nat.reduceAdd, or_true, true_or, or_false, false_or, nI_clamp2, nI_lt0F, nI_leT, nI_leF, nI_ltT, nI_ltF, n_leF, n_leT, nI_1, kA6, kA8, kA10, kA22, kA26, kA32, kA44, kA56, kA68, kA80, kA93, kA163, kA794, not_or, or_self, and_self, and_true, true_and, g141_94, f1]
  · intro τ k
    obtain ⟨hτ, eB⟩ := h.kB k
    have h0 := hτ.t0
    have e0 : (bm_wi τ 218 0 0).1 219 = B := (t0_B τ).trans (eB.trans hB)
    have mm := m207 (S := S) (d := d + 8) h0.mr (B 22)
    rw [e0] at mm
    obtain ⟨σ0, c0, f0⟩ := m266 (S := S) (d := d + 3) h0.mr e0 hg 0
    obtain ⟨⟨o5, σ1⟩, e1, ks1⟩ := loop_ex (fun k (s : Option Value × bm_S) => bm_run S (d + 10) 270 31 [some (.ref 218), some (.int (orS (dB B (B 22)) L)), some (.int (viF M L B k).1), some (.int (viF M L B k).2), some (.int (nI k)), s.1] [] s.2) (fun _ s => Kp τ s.2) L (none, σ0) ((kp_t0 τ).tr f0.kp) (by
      intro k s hk ks
      obtain ⟨h1, b1⟩ := hτ.kB ks
      have b2 := b1.trans (eB.trans hB)
      have m25 := h1.mr.l
      rw [b2] at m25
      have tk : tb (orS (dB B (B 22)) L) k = dB B (B 22) k := by rw [orS_tb _ (by omega) L (by omega)]; simp [hk]
      obtain ⟨x, hx, ex⟩ := viF_nat hM hL hg k
      rw [viF]
      cases hd : dB B (B 22) k
      · rw [hd] at tk
        have q3 : ¬ (viF M L B k).2 < 0 := by rw [ex]; exact nI_pos (by omega)
        refine ⟨(some (.int 0), s.2), ?_, ks⟩
        rw [g270_31]
        simp (disch := omega) only [bm_run_ite, Option.toList_some, Option.bind_some, Option.toList_some, Option.toList_none, List.cons_append, List.nil_append, List.append_nil, eq_self, not_true_eq_false, not_false_eq_true, ite_true, ite_false, ↓reduceIte, Nat.reduceLT, Nat.reduceEqDiff, Nat.reduceAdd, or_true, true_or, or_false, false_or, nI_clamp2, nI_lt0F, nI_leT, nI_leF, nI_ltT, nI_ltF, n_leF, n_leT, nI_1, kA6, kA8, kA10, kA22, kA26, kA32, kA44, kA56, kA68, kA80, kA93, kA163, kA794, not_or, or_self, and_self, and_true, true_and, g270_43, g270_50, g270_67, g270_68, g270_76, g270_85, b2, m25, m176 _ (show k < 32 by omega), tk, bI_ite, Bool.false_eq_true, q3]
      · rw [hd] at tk
        obtain ⟨s1, c1, f1⟩ := m266 (S := S) (d := d + 3) h1.mr b2 hg (bt k)
        have bk : (1 : Int32) <<< (nI k &&& 31) = bt k := rfl
        refine ⟨(some (.int (bcF (lbB M L B (bt k)))), s1), ?_, ks.tr f1.kp⟩
        by_cases q2 : (viF M L B k).2 < bcF (lbB M L B (bt k))
        · rw [g270_31]
          simp (disch := omega) only [bm_run_ite, Option.toList_some, Option.bind_some, Option.toList_some, Option.toList_none, List.cons_append, List.nil_append, List.append_nil, eq_self, not_true_eq_false, not_false_eq_true, ite_true, ite_false, ↓reduceIte, Nat.reduceLT, Nat.reduceEqDiff, Nat.reduceAdd, or_true, true_or, or_false, false_or, nI_clamp2, nI_lt0F, nI_leT, nI_leF, nI_ltT, nI_ltF, n_leF, n_leT, nI_1, kA6, kA8, kA10, kA22, kA26, kA32, kA44, kA56, kA68, kA80, kA93, kA163, kA794, not_or, or_self, and_self, and_true, true_and, g270_43, g270_50, g270_53, g270_61, g270_64, g270_68, g270_79, g270_85, b2, m25, m176 _ (show k < 32 by omega), tk, bI_ite, bk, c1, m197, q2]
        · rw [g270_31]
          simp (disch := omega) only [bm_run_ite, Option.toList_some, Option.bind_some, Option.toList_some, Option.toList_none, List.cons_append, List.nil_append, List.append_nil, eq_self, not_true_eq_false, not_false_eq_true, ite_true, ite_false, ↓reduceIte, Nat.reduceLT, Nat.reduceEqDiff, Nat.reduceAdd, or_true, true_or, or_false, false_or, nI_clamp2, nI_lt0F, nI_leT, nI_leF, nI_ltT, nI_ltF, n_leF, n_leT, nI_1, kA6, kA8, kA10, kA22, kA26, kA32, kA44, kA56, kA68, kA80, kA93, kA163, kA794, not_or, or_self, and_self, and_true, true_and, g270_43, g270_50, g270_53, g270_61, g270_64, g270_68, g270_76, g270_85, b2, m25, m176 _ (show k < 32 by omega), tk, bI_ite, bk, c1, m197, q2])
    replace ks1 : Kp τ σ1 := ks1
    have m25 := (hτ.kB ks1).1.mr.l
    refine ⟨σ1, ?_, ks1⟩
    simp only [e270, g270_0, g270_16, g270_24, g270_27, bm_run_ite, Option.toList_some, Option.bind_some, Option.toList_some, Option.toList_none, List.cons_append, List.nil_append, List.append_nil, eq_self, not_true_eq_false, not_false_eq_true, ite_true, ite_false, ↓reduceIte, Nat.reduceLT, Nat.reduceEqDiff, Nat.reduceAdd, or_true, true_or, or_false, false_or, e0, mm, c0, m197]
    refine (show bm_run S (d + 10) 270 31 [some (.ref 218), some (.int (orS (dB B (B 22)) L)), some (.int (Int32.ofInt (-1))), some (.int (bcF (lbB M L B 0))), some (.int (nI 0)), none] [] σ0 = _ from e1).trans ?_
    rw [g270_31]
    simp (disch := omega) only [bm_run_ite, Option.toList_some, Option.bind_some, Option.toList_some, Option.toList_none, List.cons_append, List.nil_append, List.append_nil, eq_self, not_true_eq_false, not_false_eq_true, ite_true, ite_false, ↓reduceIte, Nat.reduceLT, Nat.reduceEqDiff, Nat.reduceAdd, or_true, true_or, or_false, false_or, nI_clamp2, nI_lt0F, nI_leT, nI_leF, nI_ltT, nI_ltF, n_leF, n_leT, nI_1, kA6, kA8, kA10, kA22, kA26, kA32, kA44, kA56, kA68, kA80, kA93, kA163, kA794, not_or, or_self, and_self, and_true, true_and, g270_91, m25]
end LATE
