theorem by_m : ∀ m, m < 256 → ((Int8.ofBitVec (BitVec.ofNat 8 m)).toInt32 &&& 255 = nI m) ∧ (m < 128 → (Int8.ofBitVec (BitVec.ofNat 8 m)).toInt32 = nI m) := by decide +kernel
theorem by_ok {x : Int32} (h : x.toInt8.toInt32 = x) : ∃ m, m < 256 ∧ x &&& 255 = nI m ∧ (m < 128 → x = nI m) := by
  have e : x.toInt8 = Int8.ofBitVec (BitVec.ofNat 8 x.toInt8.toBitVec.toNat) := by simp
  have hm : x.toInt8.toBitVec.toNat < 256 := x.toInt8.toBitVec.isLt
  obtain ⟨a, b⟩ := by_m _ hm
  rw [← e, h] at a b
  exact ⟨_, hm, a, b⟩
/-- the class's bytes beside the text -/
def ux (T : Nat → Int32) (n : Nat) (σ : bm_S) : Prop := n ≤ 900 ∧ ∀ i, i < n → ∃ m, m < 256 ∧ T i = nI m ∧ σ.1 1 i &&& 255 = nI m ∧ (m < 128 → σ.1 1 i = nI m)
def soF (c : Int32) : Int32 := if isSp c = true then 32 else if isL c = true then 97 else if isD c = true then 48 else if isG c = true then c else 1
theorem so_1 : ∀ m, m < 256 → (soF (nI m) = 32 ↔ isSp (nI m) = true) ∧ (soF (nI m) = 97 ↔ isL (nI m) = true) ∧ (soF (nI m) = 48 ↔ isD (nI m) = true) := by decide +kernel
theorem so_2 : ∀ m, m < 256 → (isL (nI m) = true → m < 128 ∧ isSp (nI m) = false ∧ isD (nI m) = false) ∧ (isD (nI m) = true → m < 128 ∧ isSp (nI m) = false ∧ isL (nI m) = false) := by decide +kernel
theorem so_3 : ∀ m, m < 256 → isSp (nI m) = false → isL (nI m) = false → isD (nI m) = false → kcT (gqF (nI m) 12) = soF (nI m) := by decide +kernel
def poF (T : Nat → Int32) (n : Nat) : Nat → Nat
  | 0 => 0
  | i + 1 => (tkF T n (poF T n i) 0).2.2.2
def tkN (T : Nat → Int32) (n i : Nat) : Tok := tkF T n (poF T n i) 0
def F46 (σ τ : bm_S) : Prop := (∀ a, a ≠ 25 → a ≠ 39 → a ≠ 40 → a ≠ 41 → τ.1 a = σ.1 a) ∧ (∀ b, b ≠ 7 → τ.1 25 b = σ.1 25 b) ∧ τ.2 = σ.2
theorem F46.rfl (σ : bm_S) : F46 σ σ := ⟨fun _ _ _ _ _ => Eq.refl _, fun _ _ => Eq.refl _, Eq.refl _⟩
theorem F46.tr {σ τ ρ : bm_S} (h : F46 σ τ) (h1 : F46 τ ρ) : F46 σ ρ := ⟨fun a x y z w => (h1.1 a x y z w).trans (h.1 a x y z w), fun b x => (h1.2.1 b x).trans (h.2.1 b x), h1.2.2.trans h.2.2⟩
theorem F46.ux {T : Nat → Int32} {n : Nat} {σ τ : bm_S} (h : F46 σ τ) (u : ux T n σ) : ux T n τ := ⟨u.1, fun i hi => by rw [h.1 1 (by decide) (by decide) (by decide) (by decide)]; exact u.2 i hi⟩
/-- the tokens told so far -/
def TA (T : Nat → Int32) (n k : Nat) (σ : bm_S) : Prop := σ.1 25 7 = nI k ∧ ∀ i, i < k → σ.1 39 i = kcT (tkN T n i).1 ∧ σ.1 40 i = (tkN T n i).2.1 ∧ σ.1 41 i = nI (tkN T n i).2.2.1
section SPLIT
variable {S : am_S} {d : Nat} {σ : bm_S} {T : Nat → Int32} {n : Nat}
theorem t39 : (bm_tag 39 = 0 ∧ bm_len 39 = 901) ∧ (bm_tag 40 = 0 ∧ bm_len 40 = 901) ∧ bm_tag 41 = 0 ∧ bm_len 41 = 901 := by decide +kernel
theorem c47 {x : Int32} {m : Nat} (hm : m < 256) (hx : x &&& 255 = nI m) : bm_call S (d + 4) 47 [.int x] σ = some (some (.int (soF (nI m))), σ) := by
  obtain ⟨v, k95, hv⟩ := c295 (S := S) (d := d) (σ := σ) hm
  have e16 : ((nI m).toUInt32 % 65536).toInt32 = nI m := (show ∀ m, m < 256 → ((nI m).toUInt32 % 65536).toInt32 = nI m by decide +kernel) m hm
  have s1 : ∀ z : Int32, bm_run S (d + 4) 47 51 [some (.int x), some (.int (nI m))] [] σ = some (some (.int (if isG (nI m) = true then nI m else 1)), σ) := by
    intro z
    cases g : isG (nI m)
    · have v0 : v < 0 := hv.mpr g
      rw [g47_51, e16]
      simp (decide := true) only [bm_run_ite, Option.toList_some, Option.bind_some, Option.toList_some, Option.toList_none, List.cons_append, List.nil_append, List.append_nil, eq_self, not_true_eq_false, not_false_eq_true, ite_true, ite_false, ↓reduceIte, Nat.reduceLT, Nat.reduceEqDiff, Nat.reduceAdd, or_true, true_or, or_false, false_or, k95, g47_58, v0, g47_65, g47_66]
    · have v0 : ¬ v < 0 := fun z => by have := hv.mp z; rw [g] at this; cases this
      rw [g47_51, e16]
      simp (decide := true) only [bm_run_ite, Option.toList_some, Option.bind_some, Option.toList_some, Option.toList_none, List.cons_append, List.nil_append, List.append_nil, eq_self, not_true_eq_false, not_false_eq_true, ite_true, ite_false, ↓reduceIte, Nat.reduceLT, Nat.reduceEqDiff, Nat.reduceAdd, or_true, true_or, or_false, false_or, k95, g47_58, v0, g47_61, g47_66]
  have s2 : bm_run S (d + 4) 47 36 [some (.int x), some (.int (nI m))] [] σ = some (some (.int (if isD (nI m) = true then 48 else if isG (nI m) = true then nI m else 1)), σ) := by
    unfold isD
    by_cases a : nI m < 48
    · have k := s1 0
      rw [g47_36, if_pos a, k]
      simp [a]
    · by_cases b : 57 < nI m
      · have k := s1 0
        rw [g47_36, if_neg a, g47_42, if_pos b, k]
        simp [a, b]
      · rw [g47_36, if_neg a, g47_42, if_neg b, g47_48]
        simp [a, b]
  have s3 : bm_run S (d + 4) 47 21 [some (.int x), some (.int (nI m))] [] σ = some (some (.int (if isL (nI m) = true then 97 else if isD (nI m) = true then 48 else if isG (nI m) = true then nI m else 1)), σ) := by
    unfold isL
    by_cases a : nI m < 97
    · rw [g47_21, if_pos a, s2]
      simp [a]
    · by_cases b : 122 < nI m
      · rw [g47_21, if_neg a, g47_27, if_pos b, s2]
        simp [a, b]
      · rw [g47_21, if_neg a, g47_27, if_neg b, g47_33]
        simp [a, b]
  unfold soF isSp
  by_cases q1 : nI m = 32
  · simp (decide := true) only [e47, g47_0, g47_18, bm_run_ite, Option.toList_some, Option.bind_some, Option.toList_some, Option.toList_none, List.cons_append, List.nil_append, List.append_nil, eq_self, not_true_eq_false, not_false_eq_true, ite_true, ite_false, ↓reduceIte, Nat.reduceLT, Nat.reduceEqDiff, Nat.reduceAdd, or_true, true_or, or_false, false_or, hx, q1, decide_true, Bool.or_true, if_true]
  · by_cases q2 : nI m = 10
    · simp (decide := true) only [e47, g47_0, g47_12, g47_18, bm_run_ite, Option.toList_some, Option.bind_some, Option.toList_some, Option.toList_none, List.cons_append, List.nil_append, List.append_nil, eq_self, not_true_eq_false, not_false_eq_true, ite_true, ite_false, ↓reduceIte, Nat.reduceLT, Nat.reduceEqDiff, Nat.reduceAdd, or_true, true_or, or_false, false_or, hx, q1, q2, decide_true, Bool.true_or, if_true]
    · have e0 : bm_call S (d + 4) 47 [.int x] σ = bm_run S (d + 4) 47 21 [some (.int x), some (.int (nI m))] [] σ := by
        simp only [e47, g47_0, g47_12, bm_run_ite, Option.toList_some, Option.bind_some, Option.toList_some, Option.toList_none, List.cons_append, List.nil_append, List.append_nil, eq_self, not_true_eq_false, not_false_eq_true, ite_true, ite_false, ↓reduceIte, Nat.reduceLT, Nat.reduceEqDiff, Nat.reduceAdd, or_true, true_or, or_false, false_or, hx, q1, q2]
      rw [e0, s3]
      simp [q1, q2]
theorem c48 {k p : Nat} {kd v : Int32} (hk : k ≤ 900) (h7 : σ.1 25 7 = nI k) : ∃ σ1, bm_call S (d + 1) 48 [.ref 25, .int kd, .int v, .int (nI p)] σ = some (none, σ1) ∧ F46 σ σ1 ∧ σ1.1 25 7 = nI (k + 1) ∧ (σ1.1 39 k = kd ∧ σ1.1 40 k = v ∧ σ1.1 41 k = nI p) ∧ ∀ i, i < k → σ1.1 39 i = σ.1 39 i ∧ σ1.1 40 i = σ.1 40 i ∧ σ1.1 41 i = σ.1 41 i := by
  obtain ⟨⟨a1, a2⟩, ⟨b1, b2⟩, e1, e2⟩ := t39
  have r1 : ∀ τ, bm_call S d 159 [.ref 39, .int (nI k), .int kd] τ = some (none, bm_wi τ 39 k kd) := fun τ => set_row a1 a2 (by omega) (by decide) _
  have r2 : ∀ τ, bm_call S d 159 [.ref 40, .int (nI k), .int v] τ = some (none, bm_wi τ 40 k v) := fun τ => set_row b1 b2 (by omega) (by decide) _
  have r3 : ∀ τ, bm_call S d 159 [.ref 41, .int (nI k), .int (nI p)] τ = some (none, bm_wi τ 41 k (nI p)) := fun τ => set_row e1 e2 (by omega) (by decide) _
  have x1 : (bm_wi σ 39 k kd).1 25 7 = nI k := by rw [wi_n _ (by decide)]; exact h7
  have x2 : (bm_wi (bm_wi σ 39 k kd) 40 k v).1 25 7 = nI k := by rw [wi_n _ (by decide)]; exact x1
  have x3 : (bm_wi (bm_wi (bm_wi σ 39 k kd) 40 k v) 41 k (nI p)).1 25 7 = nI k := by rw [wi_n _ (by decide)]; exact x2
  refine ⟨bm_wi (bm_wi (bm_wi (bm_wi σ 39 k kd) 40 k v) 41 k (nI p)) 25 7 (nI (k + 1)), ?_, ⟨fun a z1 z2 z3 z4 => ?_, fun b hb => ?_, rfl⟩, ?_, ⟨?_, ?_, ?_⟩, fun i hi => ⟨?_, ?_, ?_⟩⟩
  · simp only [e48, g48_0, g48_12, g48_24, g48_36, bm_run_ite, Option.toList_some, Option.bind_some, Option.toList_some, Option.toList_none, List.cons_append, List.nil_append, List.append_nil, eq_self, not_true_eq_false, not_false_eq_true, ite_true, ite_false, ↓reduceIte, Nat.reduceLT, Nat.reduceEqDiff, Nat.reduceAdd, or_true, true_or, or_false, false_or, h7, r1, x1, r2, x2, r3, x3, nI_1]
  · rw [wi_n _ z1, wi_n _ z4, wi_n _ z3, wi_n _ z2]
  · rw [wi_s, upd_n _ _ hb, wi_n _ (by decide), wi_n _ (by decide), wi_n _ (by decide)]
  · rw [wi_s, upd_s]
  · rw [wi_n _ (by decide), wi_n _ (by decide), wi_n _ (by decide), wi_s, upd_s]
  · rw [wi_n _ (by decide), wi_n _ (by decide), wi_s, upd_s]
  · rw [wi_n _ (by decide), wi_s, upd_s]
  · rw [wi_n _ (by decide), wi_n _ (by decide), wi_n _ (by decide), wi_s, upd_n _ _ (by omega)]
  · rw [wi_n _ (by decide), wi_n _ (by decide), wi_s, upd_n _ _ (by omega), wi_n _ (by decide)]
  · rw [wi_n _ (by decide), wi_s, upd_n _ _ (by omega), wi_n _ (by decide), wi_n _ (by decide)]
theorem c49 (u : ux T n σ) {k s e : Nat} (hk : k ≤ 900) (h7 : σ.1 25 7 = nI k) (hse : s ≤ e) (he : e ≤ n) (hd : ∀ i, s ≤ i → i < e → isD (T i) = true) : ∃ σ1, bm_call S (d + 2) 49 [.ref 25, .ref 1, .int (nI s), .int (nI e)] σ = some (none, σ1) ∧ F46 σ σ1 ∧ σ1.1 25 7 = nI (k + 1) ∧ (σ1.1 39 k = kcT (if e - s ≤ 3 then 20 else 22) ∧ σ1.1 40 k = nvF T s (min (e - s) 3) ∧ σ1.1 41 k = nI s) ∧ ∀ i, i < k → σ1.1 39 i = σ.1 39 i ∧ σ1.1 40 i = σ.1 40 i ∧ σ1.1 41 i = σ.1 41 i := by
  obtain ⟨h9, hu⟩ := u
  obtain ⟨ta, tl⟩ := t1
  have l9 : ∀ p, p < n → ¬ Int32.ofNat 900 ≤ nI p := fun p hp => nI_ge (b := 900) (by omega) (by decide)
  have e1 := loop_eq (fun j => bm_run S (d + 2) 49 6 [some (.ref 25), some (.ref 1), some (.int (nI s)), some (.int (nI e)), some (.int (nvF T s j)), some (.int (nI (s + j)))] [] σ) (min (e - s) 3) (by
    intro j hj
    have lt : ¬ nI e ≤ nI (s + j) := nI_ge (by omega) (by omega)
    have sb : nI (s + j) - nI s = nI j := by rw [nI_sub (by omega), show s + j - s = j by omega]
    have l3 : ¬ (3 : Int32) ≤ nI j := nI_ge (b := 3) (by omega) (by decide)
    have p0 : ¬ nI (s + j) < 0 := nI_pos (by omega)
    obtain ⟨m, hm, eT, eU, hU⟩ := hu (s + j) (by omega)
    have dd := hd (s + j) (by omega) (by omega)
    rw [eT] at dd
    have eUT : σ.1 1 (s + j) = T (s + j) := by rw [eT]; exact hU (((so_2 m hm).2 dd).1)
    have b9 : ¬ 900 ≤ s + j := by omega
    have l99 := l9 (s + j) (by omega)
    rw [g49_6, nvF]
    simp (decide := true) only [bm_run_ite, Option.toList_some, Option.bind_some, Option.toList_some, Option.toList_none, List.cons_append, List.nil_append, List.append_nil, eq_self, not_true_eq_false, not_false_eq_true, ite_true, ite_false, ↓reduceIte, Nat.reduceLT, Nat.reduceEqDiff, Nat.reduceAdd, or_true, true_or, or_false, false_or, lt, g49_12, sb, l3, g49_20, p0, g49_25, ta, tl, l99, g49_32, nI_clamp2 (show s + j < 2147483648 by omega), b9, eUT, g49_47, nI_1, Int32.mul_comm (nvF T s j) 10, Nat.add_assoc])
  have sbe : nI e - nI s = nI (e - s) := nI_sub hse
  obtain ⟨σ1, k48, f1, x1, x2, x3⟩ := c48 (S := S) (d := d) (σ := σ) (k := k) (p := s) (kd := kcT (if e - s ≤ 3 then 20 else 22)) (v := nvF T s (min (e - s) 3)) hk h7
  refine ⟨σ1, ?_, f1, x1, x2, x3⟩
  have go : bm_call S (d + 2) 49 [.ref 25, .ref 1, .int (nI s), .int (nI e)] σ = bm_run S (d + 2) 49 53 [some (.ref 25), some (.ref 1), some (.int (nI s)), some (.int (nI e)), some (.int (nvF T s (min (e - s) 3))), some (.int (nI (s + min (e - s) 3)))] [] σ := by
    rw [e49, g49_0]
    refine (show bm_run S (d + 2) 49 6 [some (.ref 25), some (.ref 1), some (.int (nI s)), some (.int (nI e)), some (.int (nvF T s 0)), some (.int (nI (s + 0)))] [] σ = _ from e1).trans ?_
    by_cases q : e ≤ s + min (e - s) 3
    · have le : nI e ≤ nI (s + min (e - s) 3) := nI_le q (by omega)
      rw [g49_6, if_pos le]
    · have le : ¬ nI e ≤ nI (s + min (e - s) 3) := nI_ge (by omega) (by omega)
      have sb : nI (s + min (e - s) 3) - nI s = nI (min (e - s) 3) := by rw [nI_sub (by omega), show s + min (e - s) 3 - s = min (e - s) 3 by omega]
      have l3 : (3 : Int32) ≤ nI (min (e - s) 3) := nI_le (a := 3) (by omega) (by omega)
      rw [g49_6, if_neg le, g49_12, sb, if_pos l3]
  refine go.trans ?_
  by_cases q3 : e - s ≤ 3
  · have le : nI (e - s) ≤ 3 := nI_le (b := 3) q3 (by decide)
    rw [if_pos q3] at k48
    have k48b : bm_call S (d + 1) 48 [.ref 25, .int 2, .int (nvF T s (min (e - s) 3)), .int (nI s)] σ = some (none, σ1) := k48
    rw [g49_53, sbe, if_pos le, g49_65, g49_66]
    simp only [bm_run_ite, Option.toList_some, Option.bind_some, Option.toList_some, Option.toList_none, List.cons_append, List.nil_append, List.append_nil, eq_self, not_true_eq_false, not_false_eq_true, ite_true, ite_false, ↓reduceIte, Nat.reduceLT, Nat.reduceEqDiff, Nat.reduceAdd, or_true, true_or, or_false, false_or, k48b, g49_72]
  · have le : ¬ nI (e - s) ≤ 3 := nI_ge (a := 3) (by omega) (by omega)
    rw [if_neg q3] at k48
    have k48b : bm_call S (d + 1) 48 [.ref 25, .int 1, .int (nvF T s (min (e - s) 3)), .int (nI s)] σ = some (none, σ1) := k48
    rw [g49_53, sbe, if_neg le, g49_61, g49_66]
    simp only [bm_run_ite, Option.toList_some, Option.bind_some, Option.toList_some, Option.toList_none, List.cons_append, List.nil_append, List.append_nil, eq_self, not_true_eq_false, not_false_eq_true, ite_true, ite_false, ↓reduceIte, Nat.reduceLT, Nat.reduceEqDiff, Nat.reduceAdd, or_true, true_or, or_false, false_or, k48b, g49_72]
theorem wo_cg {T U : Nat → Int32} {s e : Nat} (h : ∀ i, s ≤ i → i < e → U i = T i) : wo U s e = wo T s e := by
  unfold wo
  apply List.map_congr_left
  intro i hi
  exact h _ (by omega) (by have := List.mem_range.mp hi; omega)
/-- how a run of like signs is passed -/
theorem c46r (u : ux T n σ) {P : Int32 → Bool} {so : Int32} (hP : ∀ m, m < 256 → (soF (nI m) = so ↔ P (nI m) = true)) (i4 : Option Value) {b4 : Int32} (h4 : i4 = some (.int b4)) : ∀ r p, p + r = n → bm_run S (d + 5) 46 57 [some (.ref 25), some (.ref 1), some (.int (nI n)), some (.int (nI p)), i4, some (.int so), some (.int 1)] [] σ = bm_run S (d + 5) 46 84 [some (.ref 25), some (.ref 1), some (.int (nI n)), some (.int (nI (ruF P T r p))), i4, some (.int so), some (.int 1)] [] σ := by
  obtain ⟨h9, hu⟩ := u
  obtain ⟨ta, tl⟩ := t1
  subst h4
  intro r
  induction r with
  | zero =>
    intro p hp
    have e : p = n := by omega
    subst e
    have le : nI p ≤ nI p := Int32.le_refl _
    rw [g46_57]
    simp (decide := true) only [bm_run_ite, Option.toList_some, Option.bind_some, Option.toList_some, Option.toList_none, List.cons_append, List.nil_append, List.append_nil, eq_self, not_true_eq_false, not_false_eq_true, ite_true, ite_false, ↓reduceIte, Nat.reduceLT, Nat.reduceEqDiff, Nat.reduceAdd, or_true, true_or, or_false, false_or, g46_62, le]
    rfl
  | succ r ih =>
    intro p hp
    have le : ¬ nI n ≤ nI p := nI_ge (by omega) (by omega)
    have p0 : ¬ nI p < 0 := nI_pos (by omega)
    have b9 : ¬ 900 ≤ p := by omega
    obtain ⟨m, hm, eT, eU, hU⟩ := hu p (by omega)
    have k := c47 (S := S) (d := d) (σ := σ) hm eU
    have hp2 := hP m hm
    rw [← eT] at hp2 k
    rw [ruF]
    by_cases q : P (T p) = true
    · rw [if_pos q, ← ih (p + 1) (by omega), g46_57]
      simp (decide := true) only [bm_run_ite, Option.toList_some, Option.bind_some, Option.toList_some, Option.toList_none, List.cons_append, List.nil_append, List.append_nil, eq_self, not_true_eq_false, not_false_eq_true, ite_true, ite_false, ↓reduceIte, Nat.reduceLT, Nat.reduceEqDiff, Nat.reduceAdd, or_true, true_or, or_false, false_or, g46_62, le, g46_67, ta, tl, p0, nI_clamp2 (show p < 2147483648 by omega), b9, k, g46_73, hp2.mpr q, g46_78, nI_1]
    · have ne : ¬ soF (T p) = so := fun z => q (hp2.mp z)
      rw [if_neg q, g46_57]
      simp (decide := true) only [bm_run_ite, Option.toList_some, Option.bind_some, Option.toList_some, Option.toList_none, List.cons_append, List.nil_append, List.append_nil, eq_self, not_true_eq_false, not_false_eq_true, ite_true, ite_false, ↓reduceIte, Nat.reduceLT, Nat.reduceEqDiff, Nat.reduceAdd, or_true, true_or, or_false, false_or, g46_62, le, g46_67, ta, tl, p0, nI_clamp2 (show p < 2147483648 by omega), b9, k, g46_73, ne]
theorem TA_s {k : Nat} {σ σ1 : bm_S} (t : TA T n k σ) (h7 : σ1.1 25 7 = nI (k + 1)) (hk : σ1.1 39 k = kcT (tkN T n k).1 ∧ σ1.1 40 k = (tkN T n k).2.1 ∧ σ1.1 41 k = nI (tkN T n k).2.2.1) (ho : ∀ i, i < k → σ1.1 39 i = σ.1 39 i ∧ σ1.1 40 i = σ.1 40 i ∧ σ1.1 41 i = σ.1 41 i) : TA T n (k + 1) σ1 := by
  refine ⟨h7, fun i hi => ?_⟩
  by_cases e : i = k
  · subst e; exact hk
  · obtain ⟨a, b, c⟩ := ho i (by omega)
    obtain ⟨a2, b2, c2⟩ := t.2 i (by omega)
    exact ⟨a.trans a2, b.trans b2, c.trans c2⟩
theorem c46l : ∀ r p k (σ : bm_S) (o4 o5 o6 : Option Value), p + r = n → ux T n σ → TA T n k σ → k ≤ p → ruF isSp T (n - p) p = ruF isSp T (n - poF T n k) (poF T n k) → (∀ i, i < k → ¬ (tkN T n i).1 = 21) → ∃ K σ1, bm_run S (d + 6) 46 7 [some (.ref 25), some (.ref 1), some (.int (nI n)), some (.int (nI p)), o4, o5, o6] [] σ = some (none, σ1) ∧ F46 σ σ1 ∧ TA T n (K + 1) σ1 ∧ (tkN T n K).1 = 21 ∧ K ≤ n ∧ ∀ i, i < K → ¬ (tkN T n i).1 = 21 := by
  intro r
  induction r using Nat.strongRecOn with
  | _ r ih =>
    intro p k σ o4 o5 o6 hp u t hkp hsk hne
    have h9 := u.1
    obtain ⟨ta, tl⟩ := t1
    cases r with
    | zero =>
      have e : p = n := by omega
      subst e
      have le : nI p ≤ nI p := Int32.le_refl _
      have et : tkN T p k = (21, 0, p, p) := by
        unfold tkN tkF
        rw [← hsk, Nat.sub_self]
        exact if_pos (Nat.le_refl _)
      obtain ⟨σ1, k48, f1, x1, x2, x3⟩ := c48 (S := S) (d := d + 4) (σ := σ) (k := k) (p := p) (kd := 0) (v := 0) (by omega) t.1
      refine ⟨k, σ1, ?_, f1, TA_s t x1 (by rw [et]; exact x2) x3, by rw [et], hkp, hne⟩
      rw [g46_7]
      simp only [bm_run_ite, Option.toList_some, Option.bind_some, Option.toList_some, Option.toList_none, List.cons_append, List.nil_append, List.append_nil, eq_self, not_true_eq_false, not_false_eq_true, ite_true, ite_false, ↓reduceIte, Nat.reduceLT, Nat.reduceEqDiff, Nat.reduceAdd, or_true, true_or, or_false, false_or, le, g46_138, k48, g46_145]
    | succ r =>
      have le : ¬ nI n ≤ nI p := nI_ge (by omega) (by omega)
      have p0 : ¬ nI p < 0 := nI_pos (by omega)
      have b9 : ¬ 900 ≤ p := by omega
      obtain ⟨m, hm, eT, eU, hU⟩ := u.2 p (by omega)
      have k47 := c47 (S := S) (d := d + 1) (σ := σ) hm eU
      obtain ⟨s1, s2, s3⟩ := so_1 m hm
      obtain ⟨s4, s5⟩ := so_2 m hm
      have s6 := so_3 m hm
      rw [← eT] at k47 s1 s2 s3 s4 s5 s6
      have go : bm_run S (d + 6) 46 7 [some (.ref 25), some (.ref 1), some (.int (nI n)), some (.int (nI p)), o4, o5, o6] [] σ = bm_run S (d + 6) 46 (if ¬ soF (T p) = 32 then 36 else 33) [some (.ref 25), some (.ref 1), some (.int (nI n)), some (.int (nI (p + 1))), some (.int (nI p)), some (.int (soF (T p))), o6] [] σ := by
        rw [g46_7]
        simp (decide := true) only [bm_run_ite, Option.toList_some, Option.bind_some, Option.toList_some, Option.toList_none, List.cons_append, List.nil_append, List.append_nil, eq_self, not_true_eq_false, not_false_eq_true, ite_true, ite_false, ↓reduceIte, Nat.reduceLT, Nat.reduceEqDiff, Nat.reduceAdd, or_true, true_or, or_false, false_or, le, g46_12, ta, tl, p0, nI_clamp2 (show p < 2147483648 by omega), b9, k47, g46_21, nI_1]
      have ru : ruF isSp T (n - p) p = if isSp (T p) = true then ruF isSp T (n - (p + 1)) (p + 1) else p := by
        rw [show n - p = (n - (p + 1)) + 1 by omega]; rfl
      cases q : isSp (T p)
      · have n32 : ¬ soF (T p) = 32 := fun z => by have := s1.mp z; rw [q] at this; cases this
        rw [q, if_neg (by decide)] at ru
        have esk : ruF isSp T (n - poF T n k) (poF T n k) = p := by rw [← hsk, ru]
        have npn : ¬ n ≤ p := by omega
        rw [if_pos n32] at go
        have nx : ∀ (tk : Tok) (e : Nat) (σ2 : bm_S) (o4b o5b o6b : Option Value), tkN T n k = tk → tk.2.2.2 = e → tk.2.2.1 = p → p < e → e ≤ n → ¬ tk.1 = 21 → F46 σ σ2 → σ2.1 25 7 = nI (k + 1) → (σ2.1 39 k = kcT tk.1 ∧ σ2.1 40 k = tk.2.1 ∧ σ2.1 41 k = nI p) → (∀ i, i < k → σ2.1 39 i = σ.1 39 i ∧ σ2.1 40 i = σ.1 40 i ∧ σ2.1 41 i = σ.1 41 i) → bm_run S (d + 6) 46 36 [some (.ref 25), some (.ref 1), some (.int (nI n)), some (.int (nI (p + 1))), some (.int (nI p)), some (.int (soF (T p))), o6] [] σ = bm_run S (d + 6) 46 7 [some (.ref 25), some (.ref 1), some (.int (nI n)), some (.int (nI e)), o4b, o5b, o6b] [] σ2 → ∃ K σ1, bm_run S (d + 6) 46 7 [some (.ref 25), some (.ref 1), some (.int (nI n)), some (.int (nI p)), o4, o5, o6] [] σ = some (none, σ1) ∧ F46 σ σ1 ∧ TA T n (K + 1) σ1 ∧ (tkN T n K).1 = 21 ∧ K ≤ n ∧ ∀ i, i < K → ¬ (tkN T n i).1 = 21 := by
          intro tk e σ2 o4b o5b o6b et ee es hpe hen hq f2 w1 w2 w3 run
          have po1 : poF T n (k + 1) = e := by rw [← ee, ← et]; rfl
          obtain ⟨K, σ1, e1, f1, t1, z1, z2, z3⟩ := ih (n - e) (by omega) e (k + 1) σ2 o4b o5b o6b (by omega) (f2.ux u) (TA_s t w1 (by rw [et]; exact ⟨w2.1, w2.2.1, by rw [es]; exact w2.2.2⟩) w3) (by omega) (by rw [po1]) (fun i hi => by
            by_cases e9 : i = k
            · subst e9; rw [et]; exact hq
            · exact hne i (by omega))
          exact ⟨K, σ1, go.trans (run.trans e1), f2.tr f1, t1, z1, z2, z3⟩
        cases ql : isL (T p)
        · have n97 : ¬ soF (T p) = 97 := fun z => by have := s2.mp z; rw [ql] at this; cases this
          cases qd : isD (T p)
          · have n48 : ¬ soF (T p) = 48 := fun z => by have := s3.mp z; rw [qd] at this; cases this
            obtain ⟨σ2, k48, f2, w1, w2, w3⟩ := c48 (S := S) (d := d + 4) (σ := σ) (k := k) (p := p) (kd := soF (T p)) (v := 0) (by omega) t.1
            have et : tkN T n k = (gqF (T p) 12, 0, p, p + 1) := by
              unfold tkN tkF
              rw [esk]
              simp only [npn, if_false, ql, qd, Bool.false_eq_true, if_true]
            obtain ⟨g1, g2, _⟩ := gq_r (T p) 12 (Nat.le_refl _)
            refine nx _ (p + 1) σ2 (some (.int (nI p))) (some (.int (soF (T p)))) (some (.int 0)) et rfl rfl (by omega) (by omega) (by show ¬ gqF (T p) 12 = 21; omega) f2 w1 (by rw [s6 q ql qd]; exact w2) w3 ?_
            rw [g46_36]
            simp (decide := true) only [bm_run_ite, Option.toList_some, Option.bind_some, Option.toList_some, Option.toList_none, List.cons_append, List.nil_append, List.append_nil, eq_self, not_true_eq_false, not_false_eq_true, ite_true, ite_false, ↓reduceIte, Nat.reduceLT, Nat.reduceEqDiff, Nat.reduceAdd, or_true, true_or, or_false, false_or, n97, g46_43, n48, g46_54, g46_55, g46_57, g46_84, g46_108, g46_126, k48, g46_135]
          · have e48 := s3.mpr qd
            have n97 : ¬ soF (T p) = 97 := by rw [e48]; decide
            have ru2 : ruF isD T (n - p) p = ruF isD T (n - (p + 1)) (p + 1) := by
              rw [show n - p = (n - (p + 1)) + 1 by omega, ruF, qd, if_pos rfl]
            obtain ⟨y1, y2⟩ := ruF_le (P := isD) (T := T) (n - (p + 1)) (p + 1)
            have ya := ruF_all (P := isD) (T := T) (n - p) p
            have et : tkN T n k = (if ruF isD T (n - p) p - p ≤ 3 then 20 else 22, nvF T p (min (ruF isD T (n - p) p - p) 3), p, ruF isD T (n - p) p) := by
              unfold tkN tkF
              rw [esk]
              simp only [npn, if_false, ql, qd, Bool.false_eq_true, if_true]
            have rr := c46r (S := S) (d := d + 1) u (P := isD) (so := 48) (fun m hm => (so_1 m hm).2.2) (some (.int (nI p))) rfl (n - (p + 1)) (p + 1) (by omega)
            rw [← ru2] at rr y1 y2
            generalize ruF isD T (n - p) p = e at *
            obtain ⟨σ2, k49, f2, w1, w2, w3⟩ := c49 (S := S) (d := d + 3) (σ := σ) u (k := k) (s := p) (e := e) (by omega) t.1 (by omega) (by omega) ya
            refine nx _ e σ2 (some (.int (nI p))) (some (.int 48)) (some (.int 1)) et rfl rfl (by omega) (by omega) (by show ¬ (if e - p ≤ 3 then 20 else 22) = 21; split <;> omega) f2 w1 w2 w3 ?_
            have st : bm_run S (d + 6) 46 36 [some (.ref 25), some (.ref 1), some (.int (nI n)), some (.int (nI (p + 1))), some (.int (nI p)), some (.int (soF (T p))), o6] [] σ = bm_run S (d + 6) 46 57 [some (.ref 25), some (.ref 1), some (.int (nI n)), some (.int (nI (p + 1))), some (.int (nI p)), some (.int 48), some (.int 1)] [] σ := by
              rw [g46_36, e48]
              simp (decide := true) only [bm_run_ite, Option.toList_some, Option.bind_some, Option.toList_some, Option.toList_none, List.cons_append, List.nil_append, List.append_nil, eq_self, not_true_eq_false, not_false_eq_true, ite_true, ite_false, ↓reduceIte, Nat.reduceLT, Nat.reduceEqDiff, Nat.reduceAdd, or_true, true_or, or_false, false_or, g46_43, g46_50, g46_55]
            refine st.trans (rr.trans ?_)
            rw [g46_84]
            simp (decide := true) only [bm_run_ite, Option.toList_some, Option.bind_some, Option.toList_some, Option.toList_none, List.cons_append, List.nil_append, List.append_nil, eq_self, not_true_eq_false, not_false_eq_true, ite_true, ite_false, ↓reduceIte, Nat.reduceLT, Nat.reduceEqDiff, Nat.reduceAdd, or_true, true_or, or_false, false_or, g46_108, g46_115, k49, g46_123, g46_135]
        · have e97 := s2.mpr ql
          have ru2 : ruF isL T (n - p) p = ruF isL T (n - (p + 1)) (p + 1) := by
            rw [show n - p = (n - (p + 1)) + 1 by omega, ruF, ql, if_pos rfl]
          obtain ⟨y1, y2⟩ := ruF_le (P := isL) (T := T) (n - (p + 1)) (p + 1)
          have ya := ruF_all (P := isL) (T := T) (n - p) p
          have et : tkN T n k = (wqF (wo T p (ruF isL T (n - p) p)), 0, p, ruF isL T (n - p) p) := by
            unfold tkN tkF
            rw [esk]
            simp only [npn, if_false, ql, if_true]
          have rr := c46r (S := S) (d := d + 1) u (P := isL) (so := 97) (fun m hm => (so_1 m hm).2.1) (some (.int (nI p))) rfl (n - (p + 1)) (p + 1) (by omega)
          rw [← ru2] at rr y1 y2
          generalize ruF isL T (n - p) p = e at *
          have eU : wo (σ.1 1) p e = wo T p e := wo_cg (fun i h1 h2 => by
            obtain ⟨m2, hm2, eT2, eU2, hU2⟩ := u.2 i (by omega)
            have := ya i h1 h2
            rw [eT2] at this ⊢
            exact hU2 ((so_2 m2 hm2).1 this).1)
          have k50 := c50 (S := S) (d := d + 1) (σ := σ) (s := p) (e := e) (by omega) (by omega)
          rw [eU, ← wq_c] at k50
          obtain ⟨σ2, k48, f2, w1, w2, w3⟩ := c48 (S := S) (d := d + 4) (σ := σ) (k := k) (p := p) (kd := kcT (wqF (wo T p e))) (v := 0) (by omega) t.1
          refine nx _ e σ2 (some (.int (nI p))) (some (.int 97)) (some (.int 1)) et rfl rfl (by omega) (by omega) (by have := (wq_r (wo T p e)).2; show ¬ wqF (wo T p e) = 21; omega) f2 w1 w2 w3 ?_
          have st : bm_run S (d + 6) 46 36 [some (.ref 25), some (.ref 1), some (.int (nI n)), some (.int (nI (p + 1))), some (.int (nI p)), some (.int (soF (T p))), o6] [] σ = bm_run S (d + 6) 46 57 [some (.ref 25), some (.ref 1), some (.int (nI n)), some (.int (nI (p + 1))), some (.int (nI p)), some (.int 97), some (.int 1)] [] σ := by
            rw [g46_36, e97]
            simp (decide := true) only [bm_run_ite, Option.toList_some, Option.bind_some, Option.toList_some, Option.toList_none, List.cons_append, List.nil_append, List.append_nil, eq_self, not_true_eq_false, not_false_eq_true, ite_true, ite_false, ↓reduceIte, Nat.reduceLT, Nat.reduceEqDiff, Nat.reduceAdd, or_true, true_or, or_false, false_or, g46_50, g46_55]
          refine st.trans (rr.trans ?_)
          rw [g46_84]
          simp (decide := true) only [bm_run_ite, Option.toList_some, Option.bind_some, Option.toList_some, Option.toList_none, List.cons_append, List.nil_append, List.append_nil, eq_self, not_true_eq_false, not_false_eq_true, ite_true, ite_false, ↓reduceIte, Nat.reduceLT, Nat.reduceEqDiff, Nat.reduceAdd, or_true, true_or, or_false, false_or, g46_91, k50, g46_99, k48, g46_105, g46_135]
      · have e32 := s1.mpr q
        rw [q, if_pos rfl] at ru
        obtain ⟨K, σ1, e1, f1, t1, z1, z2, z3⟩ := ih r (by omega) (p + 1) k σ (some (.int (nI p))) (some (.int (soF (T p)))) o6 (by omega) u t (by omega) (by rw [← ru]; exact hsk) hne
        refine ⟨K, σ1, go.trans (Eq.trans ?_ e1), f1, t1, z1, z2, z3⟩
        rw [if_neg (not_not_intro e32), g46_33]
/-- the class tells the tokens -/
theorem c46 (u : ux T n σ) : ∃ K σ1, bm_call S (d + 6) 46 [.ref 25, .ref 1, .int (nI n)] σ = some (none, σ1) ∧ F46 σ σ1 ∧ TA T n (K + 1) σ1 ∧ (tkN T n K).1 = 21 ∧ K ≤ n ∧ ∀ i, i < K → ¬ (tkN T n i).1 = 21 := by
  have f0 : F46 σ (bm_wi σ 25 7 0) := ⟨fun a h1 _ _ _ => wi_n _ h1 _ _, fun b hb => by rw [wi_s, upd_n _ _ hb], rfl⟩
  obtain ⟨K, σ1, e1, f1, t1, z1, z2, z3⟩ := c46l (S := S) (d := d) (T := T) (n := n) n 0 0 (bm_wi σ 25 7 0) none none none (by omega) (f0.ux u) ⟨by rw [wi_s, upd_s]; rfl, fun i hi => absurd hi (by omega)⟩ (Nat.le_refl _) rfl (fun i hi => absurd hi (by omega))
  refine ⟨K, σ1, ?_, f0.tr f1, t1, z1, z2, z3⟩
  rw [e46, g46_0]
  exact e1
end SPLIT
