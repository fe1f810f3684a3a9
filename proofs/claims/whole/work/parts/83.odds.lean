/-! sums over those who may be late -/
def smL (f : Nat → Int64) : Nat → Int64
  | 0 => 0
  | n + 1 => smL f n + f n
theorem smL_add (f : Nat → Int64) (a : Nat) : ∀ b, smL f (a + b) = smL f a + smL (fun i => f (a + i)) b := by
  intro b
  induction b with
  | zero => show smL f a = smL f a + 0; rw [Int64.add_zero]
  | succ b ih =>
    show smL f (a + b) + f (a + b) = smL f a + (smL (fun i => f (a + i)) b + f (a + b))
    rw [ih, Int64.add_assoc]
theorem smL_cg {f g : Nat → Int64} : ∀ {n : Nat}, (∀ i, i < n → f i = g i) → smL f n = smL g n := by
  intro n
  induction n with
  | zero => intro _; rfl
  | succ n ih => intro h; rw [smL, smL, ih (fun i hi => h i (by omega)), h n (by omega)]
theorem smL_0 {f : Nat → Int64} : ∀ {n : Nat}, (∀ i, i < n → f i = 0) → smL f n = 0 := by
  intro n
  induction n with
  | zero => intro _; rfl
  | succ n ih => intro h; rw [smL, ih (fun i hi => h i (by omega)), h n (by omega)]; rfl
def mkF (P : Nat → Bool) : Nat → Nat → Nat
  | 0, _ => 0
  | k + 1, j => if P k = true then (if j.testBit (cnD P k) = true then 2 ^ k + mkF P k j else mkF P k j) else mkF P k j
theorem mkF_lt (P : Nat → Bool) (j : Nat) : ∀ k, mkF P k j < 2 ^ k := by
  intro k
  induction k with
  | zero => show 0 < 1; omega
  | succ k ih =>
    rw [mkF, Nat.pow_succ]
    split
    · split <;> omega
    · omega
theorem cnD_mono {P : Nat → Bool} {l : Nat} : ∀ {k : Nat}, l ≤ k → cnD P l ≤ cnD P k := by
  intro k
  induction k with
  | zero => intro h; have : l = 0 := by omega
            rw [this]; exact Nat.le_refl _
  | succ k ih =>
    intro h
    by_cases e : l = k + 1
    · rw [e]; exact Nat.le_refl _
    · have := ih (by omega)
      rw [cnD]; omega
theorem cnD_lt2 {P : Nat → Bool} {l k : Nat} (h : l < k) (hp : P l = true) : cnD P l < cnD P k := by
  have h1 : cnD P (l + 1) ≤ cnD P k := cnD_mono h
  rw [cnD, if_pos hp] at h1
  omega
theorem mkF_bit (P : Nat → Bool) (j : Nat) : ∀ k l, l < k → (mkF P k j).testBit l = (P l && j.testBit (cnD P l)) := by
  intro k
  induction k with
  | zero => intro l h; omega
  | succ k ih =>
    intro l hl
    have lt := mkF_lt P j k
    rw [mkF]
    by_cases e : l = k
    · subst e
      have z : (mkF P l j).testBit l = false := Nat.testBit_lt_two_pow lt
      cases hp : P l
      · simpa using z
      · cases hj : j.testBit (cnD P l)
        · simpa using z
        · simp only [if_true, Bool.and_self]
          rw [Nat.testBit_two_pow_add_eq, z]; rfl
    · have h2 := ih l (by omega)
      split
      · split
        · rw [Nat.testBit_two_pow_add_gt (by omega)]; exact h2
        · exact h2
      · exact h2
theorem mkF_cg {P : Nat → Bool} {a b : Nat} : ∀ k, (∀ i, i < cnD P k → a.testBit i = b.testBit i) → mkF P k a = mkF P k b := by
  intro k
  induction k with
  | zero => intro _; rfl
  | succ k ih =>
    intro h
    rw [mkF, mkF]
    by_cases hp : P k = true
    · rw [if_pos hp, if_pos hp]
      have e : cnD P (k + 1) = cnD P k + 1 := by rw [cnD, if_pos hp]
      rw [ih (fun i hi => h i (by omega)), h (cnD P k) (by omega)]
    · rw [if_neg hp, if_neg hp]
      have e : cnD P (k + 1) = cnD P k := by rw [cnD, if_neg hp]; rfl
      exact ih (fun i hi => h i (by omega))
def sbF (P : Nat → Bool) (k x : Nat) : Bool := (List.range k).all (fun l => !x.testBit l || P l)
theorem sbF_s (P : Nat → Bool) (k x : Nat) : sbF P (k + 1) x = (sbF P k x && (!x.testBit k || P k)) := by
  unfold sbF
  rw [List.range_succ, List.all_append]; simp
theorem sbF_cg {P : Nat → Bool} {x y : Nat} : ∀ k, (∀ l, l < k → x.testBit l = y.testBit l) → sbF P k x = sbF P k y := by
  intro k
  induction k with
  | zero => intro _; rfl
  | succ k ih => intro h; rw [sbF_s, sbF_s, ih (fun l hl => h l (by omega)), h k (by omega)]
theorem sbF_P {P : Nat → Bool} {k x l : Nat} (h : sbF P k x = true) (hl : l < k) (hx : x.testBit l = true) : P l = true := by
  unfold sbF at h
  rw [List.all_eq_true] at h
  have := h l (List.mem_range.mpr hl)
  rw [hx] at this
  simpa using this
theorem sub_sum (P : Nat → Bool) : ∀ (k : Nat) (G : Nat → Int64), smL (fun j => G (mkF P k j)) (2 ^ cnD P k) = smL (fun x => if sbF P k x = true then G x else 0) (2 ^ k) := by
  intro k
  induction k with
  | zero => intro G; rfl
  | succ k ih =>
    intro G
    have p2 : 2 ^ (k + 1) = 2 ^ k + 2 ^ k := by rw [Nat.pow_succ]; omega
    have lo : ∀ x, x < 2 ^ k → sbF P (k + 1) x = sbF P k x := by
      intro x hx
      rw [sbF_s, Nat.testBit_lt_two_pow hx]; simp
    have up : ∀ y, y < 2 ^ k → sbF P (k + 1) (2 ^ k + y) = (sbF P k y && P k) := by
      intro y hy
      rw [sbF_s, Nat.testBit_two_pow_add_eq, Nat.testBit_lt_two_pow hy, sbF_cg k (fun l hl => Nat.testBit_two_pow_add_gt hl y)]
      simp
    rw [p2, smL_add]
    rw [smL_cg (f := fun x => if sbF P (k + 1) x = true then G x else 0) (g := fun x => if sbF P k x = true then G x else 0) (fun x hx => by simp only [lo x hx])]
    cases hp : P k
    · have e : cnD P (k + 1) = cnD P k := by rw [cnD, hp]; rfl
      rw [e, smL_cg (f := fun j => G (mkF P (k + 1) j)) (g := fun j => G (mkF P k j)) (fun j _ => by simp only [mkF, hp, Bool.false_eq_true, if_false]), ih G]
      rw [smL_0 (f := fun i => if sbF P (k + 1) (2 ^ k + i) = true then G (2 ^ k + i) else 0) (fun y hy => by simp only [up y hy, hp, Bool.and_false, Bool.false_eq_true, if_false]), Int64.add_zero]
    · have e : cnD P (k + 1) = cnD P k + 1 := by rw [cnD, hp]; rfl
      have n2 : 2 ^ (cnD P k + 1) = 2 ^ cnD P k + 2 ^ cnD P k := by rw [Nat.pow_succ]; omega
      rw [e, n2, smL_add]
      rw [smL_cg (f := fun j => G (mkF P (k + 1) j)) (g := fun j => G (mkF P k j)) (fun j hj => by simp only [mkF, hp, if_true, Nat.testBit_lt_two_pow hj, Bool.false_eq_true, if_false])]
      rw [smL_cg (f := fun i => G (mkF P (k + 1) (2 ^ cnD P k + i))) (g := fun i => G (2 ^ k + mkF P k i)) (fun j hj => by
        have e1 : (2 ^ cnD P k + j).testBit (cnD P k) = true := by rw [Nat.testBit_two_pow_add_eq, Nat.testBit_lt_two_pow hj]; rfl
        have e2 : mkF P k (2 ^ cnD P k + j) = mkF P k j := mkF_cg k (fun i hi => Nat.testBit_two_pow_add_gt hi j)
        simp only [mkF, hp, if_true, e1, e2])]
      rw [ih G, ih (fun x => G (2 ^ k + x))]
      congr 1
      exact smL_cg (fun y hy => by simp only [up y hy, hp, Bool.and_true])
def myF (P : Nat → Bool) : Nat → Nat
  | 0 => 0
  | k + 1 => if P k = true then 2 ^ k + myF P k else myF P k
theorem myF_lt (P : Nat → Bool) : ∀ k, myF P k < 2 ^ k := by
  intro k
  induction k with
  | zero => show 0 < 1; omega
  | succ k ih => rw [myF, Nat.pow_succ]; split <;> omega
theorem sbF_le {P : Nat → Bool} : ∀ (k x : Nat), x < 2 ^ k → sbF P k x = true → x ≤ myF P k := by
  intro k
  induction k with
  | zero => intro x hx _; have : x < 1 := hx; omega
  | succ k ih =>
    intro x hx h
    rw [sbF_s, Bool.and_eq_true] at h
    rw [Nat.pow_succ] at hx
    rcases Nat.lt_or_ge x (2 ^ k) with q | q
    · have := ih x q h.1
      rw [myF]; split <;> omega
    · obtain ⟨y, rfl⟩ : ∃ y, x = 2 ^ k + y := ⟨x - 2 ^ k, by omega⟩
      have hy : y < 2 ^ k := by omega
      have h1 := h.2
      rw [Nat.testBit_two_pow_add_eq, Nat.testBit_lt_two_pow hy] at h1
      have hp : P k = true := by simpa using h1
      have h2 := ih y hy (by rw [← sbF_cg k (fun l hl => Nat.testBit_two_pow_add_gt hl y)]; exact h.1)
      rw [myF, if_pos hp]; omega
theorem myF_bit (P : Nat → Bool) : ∀ k l, l < k → (myF P k).testBit l = P l := by
  intro k
  induction k with
  | zero => intro l h; omega
  | succ k ih =>
    intro l hl
    have lt := myF_lt P k
    rw [myF]
    by_cases e : l = k
    · subst e
      have z : (myF P l).testBit l = false := Nat.testBit_lt_two_pow lt
      cases hp : P l
      · simpa using z
      · rw [if_pos rfl, Nat.testBit_two_pow_add_eq, z]; rfl
    · have h2 := ih l (by omega)
      split
      · rw [Nat.testBit_two_pow_add_gt (by omega)]; exact h2
      · exact h2
theorem tb_nI {x l : Nat} (hl : l < 32) : tb (nI x) l = x.testBit l := by
  show (BitVec.ofNat 32 x).getLsbD l = _
  rw [BitVec.getLsbD_ofNat]; simp [hl]
theorem pow12 {L : Nat} (hL : L ≤ 12) : 2 ^ L ≤ 4096 := by
  have : 2 ^ L ≤ 2 ^ 12 := Nat.pow_le_pow_right (by decide) hL
  simpa using this
theorem orS_my {P : Nat → Bool} {L : Nat} (hL : L ≤ 12) : orS P L = nI (myF P L) := by
  apply tb_ext
  intro l hl
  rw [orS_tb P hl L (by omega), tb_nI hl]
  by_cases q : l < L
  · rw [myF_bit P L l q]; simp [q]
  · have h1 : (myF P L).testBit l = false := Nat.testBit_lt_two_pow (Nat.lt_of_lt_of_le (myF_lt P L) (Nat.pow_le_pow_right (by decide) (by omega)))
    rw [h1]; simp [q]
theorem bc_my {P : Nat → Bool} {L : Nat} (hL : L ≤ 12) : bcF (orS P L) = nI (cnD P L) := by
  have key : ∀ n, n ≤ 12 → smS (fun k => bI (tb (orS P L) k)) n = nI (cnD (fun l => decide (l < L) && P l) n) := by
    intro n
    induction n with
    | zero => intro _; rfl
    | succ n ih =>
      intro hn
      rw [smS, ih (by omega), cnD, orS_tb P (by omega) L (by omega)]
      cases q : (decide (n < L) && P n)
      · exact nI_add _ 0
      · exact nI_add _ 1
  have e1 : ∀ n, n ≤ L → cnD (fun l => decide (l < L) && P l) n = cnD P n := by
    intro n
    induction n with
    | zero => intro _; rfl
    | succ n ih => intro hn; rw [cnD, cnD, ih (by omega)]; simp [show n < L by omega]
  have e2 : ∀ n, L ≤ n → cnD (fun l => decide (l < L) && P l) n = cnD P L := by
    intro n
    induction n with
    | zero => intro h; have : L = 0 := by omega
              rw [this]; rfl
    | succ n ih =>
      intro h
      by_cases e : L = n + 1
      · have := e1 L (Nat.le_refl L)
        rw [← e]; exact this
      · rw [cnD, ih (by omega)]
        simp [show ¬ n < L by omega]
  unfold bcF
  rw [key 12 (Nat.le_refl 12), e2 12 hL]
theorem mask0 {P : Nat → Bool} {L x : Nat} (hL : L ≤ 12) (hx : x < 2 ^ L) : (nI x &&& (orS P L ^^^ Int32.ofInt (-1)) = 0) ↔ sbF P L x = true := by
  constructor
  · intro h
    unfold sbF
    rw [List.all_eq_true]
    intro l hl
    have hl2 := List.mem_range.mp hl
    have h1 : tb (nI x &&& (orS P L ^^^ Int32.ofInt (-1))) l = false := by rw [h]; exact tb_0 l
    rw [tb_and, tb_xor, tb_m1 l (by omega), orS_tb P (by omega) L (by omega), tb_nI (by omega)] at h1
    cases q1 : x.testBit l
    · rfl
    · rw [q1] at h1
      cases q2 : P l
      · rw [q2] at h1; simp at h1
      · rfl
  · intro h
    apply tb_ext
    intro l hl
    rw [tb_0, tb_and, tb_xor, tb_m1 l hl, orS_tb P hl L (by omega), tb_nI hl]
    cases q1 : x.testBit l
    · rfl
    · by_cases q : l < L
      · rw [sbF_P h q q1]; simp [q]
      · rw [Nat.testBit_lt_two_pow (Nat.lt_of_lt_of_le hx (Nat.pow_le_pow_right (by decide) (by omega)))] at q1
        cases q1
/-! how likely -/
def puF (B : Nat → Int32) (l : Nat) : Bool := dB B (B 22) l && decide (0 < B (10 + l))
def tnF : Nat → Int64
  | 0 => 1
  | n + 1 => tnF n * 10
def wtF (B : Nat → Int32) (P : Nat → Bool) (x : Nat) : Nat → Int64
  | 0 => 1
  | l + 1 => if P l = true then (if x.testBit l = true then wtF B P x l * (B (10 + l)).toInt64 else wtF B P x l * ((10 : Int32) - B (10 + l)).toInt64) else wtF B P x l
def cdF (B : Nat → Int32) (m : Option Nat) (y : Int32) : Bool := match m with
  | none => decide (y = B 24)
  | some k => tb y k
def mvF (m : Option Nat) : Int32 := match m with
  | none => Int32.ofInt (-1)
  | some k => nI k
def odG (M L : Nat) (B : Nat → Int32) (m : Option Nat) (x : Nat) : Int64 := if cdF B m (lbB M L B (nI x)) = true then wtF B (puF B) x L else 0
def odR (M L : Nat) (B : Nat → Int32) (m : Option Nat) : Int32 := ((smL (fun x => if sbF (puF B) L x = true then odG M L B m x else 0) (2 ^ L) * 10000) / tnF (cnD (puF B) L)).toInt32
theorem tnF_0 : ∀ n, n < 13 → ¬ tnF n = 0 := by decide +kernel
theorem bt_pow : ∀ n, n < 13 → bt n = nI (2 ^ n) := by decide +kernel
theorem cnD_surj {P : Nat → Bool} {i : Nat} : ∀ {k : Nat}, i < cnD P k → ∃ l, l < k ∧ P l = true ∧ cnD P l = i := by
  intro k
  induction k with
  | zero => intro h; exact absurd h (by show ¬ i < 0; omega)
  | succ k ih =>
    intro h
    by_cases q : i < cnD P k
    · obtain ⟨l, h1, h2, h3⟩ := ih q
      exact ⟨l, by omega, h2, h3⟩
    · by_cases hp : P k = true
      · rw [cnD, if_pos hp] at h
        exact ⟨k, by omega, hp, by omega⟩
      · rw [cnD, if_neg hp] at h
        omega
section ODDSM
variable {S : am_S} {d : Nat} {σ : bm_S} {M L : Nat} {B : Nat → Int32}
theorem m267 (h : MR M L σ) (hB : σ.1 219 = B) (hg : GA M L B) (m : Option Nat) (hm : ∀ k, m = some k → k < M) : ∃ σ1, bm_call S (d + 8) 267 [.ref 218, .int (mvF m)] σ = some (some (.int (odR M L B m)), σ1) ∧ Kp σ σ1 := by
  have hM := h.M6
  have hL := h.L12
  have m25 := h.l
  have m3 := h.m
  rw [hB] at m25 m3
  have p12 := pow12 hL
  have mm := m207 (S := S) (d := d + 6) h (B 22)
  rw [hB] at mm
  -- the mask
  have s1 := loop_eq (fun k => bm_run S (d + 8) 267 17 [some (.ref 218), some (.int (mvF m)), some (.int (orS (dB B (B 22)) L)), some (.int (orS (puF B) k)), some (.int (nI k)), none, none, none, none, none, none, none, none] [] σ) L (by
    intro k hk
    have tk : tb (orS (dB B (B 22)) L) k = dB B (B 22) k := by rw [orS_tb _ (by omega) L (by omega)]; simp [hk]
    have bk : (1 : Int32) <<< (nI k &&& 31) = bt k := rfl
    rw [g267_17, orS]
    cases hd : dB B (B 22) k
    · have hp : puF B k = false := by unfold puF; rw [hd]; rfl
      rw [hd] at tk
      rw [hp]
      simp (disch := omega) only [bm_run_ite, Option.toList_some, Option.bind_some, Option.toList_some, Option.toList_none, List.cons_append, List.nil_append, List.append_nil, eq_self, not_true_eq_false, not_false_eq_true, ite_true, ite_false, ↓reduceIte, Nat.reduceLT, Nat.reduceEqDiff, Nat.reduceAdd, or_true, true_or, or_false, false_or, nI_clamp2, nI_lt0F, nI_leT, nI_leF, nI_ltT, nI_ltF, n_leF, n_leT, nI_1, kA6, kA8, kA10, kA22, kA26, kA32, kA44, kA56, kA68, kA80, kA93, kA163, kA794, not_or, or_self, and_self, and_true, true_and, hB, m25, g267_29, m176 _ (show k < 32 by omega), tk, g267_37, bI_ite, Bool.false_eq_true, g267_60, g267_61]
    · rw [hd] at tk
      by_cases q : 0 < B (10 + k)
      · have hp : puF B k = true := by unfold puF; rw [hd]; simp [q]
        have q1 : ¬ B (10 + k) ≤ 0 := Int32.not_le.mpr q
        rw [hp]
        simp (disch := omega) only [bm_run_ite, Option.toList_some, Option.bind_some, Option.toList_some, Option.toList_none, List.cons_append, List.nil_append, List.append_nil, eq_self, not_true_eq_false, not_false_eq_true, ite_true, ite_false, ↓reduceIte, Nat.reduceLT, Nat.reduceEqDiff, Nat.reduceAdd, or_true, true_or, or_false, false_or, nI_clamp2, nI_lt0F, nI_leT, nI_leF, nI_ltT, nI_ltF, n_leF, n_leT, nI_1, kA6, kA8, kA10, kA22, kA26, kA32, kA44, kA56, kA68, kA80, kA93, kA163, kA794, not_or, or_self, and_self, and_true, true_and, hB, m25, g267_29, m176 _ (show k < 32 by omega), tk, g267_37, bI_ite, g267_40, q1, g267_53, bk, g267_61]
      · have hp : puF B k = false := by unfold puF; rw [hd]; simp [q]
        have q1 : B (10 + k) ≤ 0 := Int32.not_lt.mp q
        rw [hp]
        simp (disch := omega) only [bm_run_ite, Option.toList_some, Option.bind_some, Option.toList_some, Option.toList_none, List.cons_append, List.nil_append, List.append_nil, eq_self, not_true_eq_false, not_false_eq_true, ite_true, ite_false, ↓reduceIte, Nat.reduceLT, Nat.reduceEqDiff, Nat.reduceAdd, or_true, true_or, or_false, false_or, nI_clamp2, nI_lt0F, nI_leT, nI_leF, nI_ltT, nI_ltF, n_leF, n_leT, nI_1, kA6, kA8, kA10, kA22, kA26, kA32, kA44, kA56, kA68, kA80, kA93, kA163, kA794, not_or, or_self, and_self, and_true, true_and, hB, m25, g267_29, m176 _ (show k < 32 by omega), tk, g267_37, bI_ite, g267_40, q1, g267_60, g267_61, Bool.false_eq_true])
  -- the whole
  have bcm := bc_my (P := puF B) hL
  have cnl := cnD_n (puF B) L
  have s2 := loop_eq (fun k => bm_run S (d + 8) 267 78 [some (.ref 218), some (.int (mvF m)), some (.int (orS (dB B (B 22)) L)), some (.int (orS (puF B) L)), some (.long 0), none, some (.long (tnF k)), none, some (.int (nI k)), none, none, none, none] [] σ) (cnD (puF B) L) (by
    intro k hk
    rw [g267_78]
    simp (disch := omega) only [bm_run_ite, Option.toList_some, Option.bind_some, Option.toList_some, Option.toList_none, List.cons_append, List.nil_append, List.append_nil, eq_self, not_true_eq_false, not_false_eq_true, ite_true, ite_false, ↓reduceIte, Nat.reduceLT, Nat.reduceEqDiff, Nat.reduceAdd, or_true, true_or, or_false, false_or, nI_clamp2, nI_lt0F, nI_leT, nI_leF, nI_ltT, nI_ltF, n_leF, n_leT, nI_1, kA6, kA8, kA10, kA22, kA26, kA32, kA44, kA56, kA68, kA80, kA93, kA163, kA794, not_or, or_self, and_self, and_true, true_and, m197, bcm, g267_84, g267_87]
    rfl)
  -- all that may be late
  obtain ⟨⟨⟨o9, o10, o12⟩, σ3⟩, e3, k3⟩ := loop_ex (fun x (s : (Option Value × Option Value × Option Value) × bm_S) => bm_run S (d + 8) 267 104 [some (.ref 218), some (.int (mvF m)), some (.int (orS (dB B (B 22)) L)), some (.int (orS (puF B) L)), some (.long (smL (fun x => if sbF (puF B) L x = true then odG M L B m x else 0) x)), none, some (.long (tnF (cnD (puF B) L))), none, some (.int (nI x)), s.1.1, s.1.2.1, none, s.1.2.2] [] s.2) (fun _ s => Kp σ s.2) (myF (puF B) L + 1) ((none, none, none), σ) (Kp.rfl σ) (by
    intro x s hx ks
    have b2 : s.2.1 219 = B := (ks.at (by unfold Sc; omega) (by omega)).trans hB
    have mr : MR M L s.2 := ⟨h.1, by rw [b2]; exact m3, by rw [b2]; exact m25⟩
    have lt := myF_lt (puF B) L
    have hx2 : x < 2 ^ L := by omega
    have nlt : ¬ orS (puF B) L < nI x := by rw [orS_my hL]; exact nI_nlt (by omega) (by omega)
    have es : smL (fun x => if sbF (puF B) L x = true then odG M L B m x else 0) (x + 1) = smL (fun x => if sbF (puF B) L x = true then odG M L B m x else 0) x + (if sbF (puF B) L x = true then odG M L B m x else 0) := rfl
    rw [es]
    generalize smL (fun x => if sbF (puF B) L x = true then odG M L B m x else 0) x = acc
    cases hs : sbF (puF B) L x
    · have mk : ¬ (nI x &&& (orS (puF B) L ^^^ Int32.ofInt (-1)) = 0) := fun z => by rw [(mask0 hL hx2).mp z] at hs; cases hs
      refine ⟨s, ?_, ks⟩
      rw [g267_104]
      have ad : acc + (if (false : Bool) = true then odG M L B m x else 0) = acc := by simp
      rw [ad]
      simp (disch := omega) only [bm_run_ite, Option.toList_some, Option.bind_some, Option.toList_some, Option.toList_none, List.cons_append, List.nil_append, List.append_nil, eq_self, not_true_eq_false, not_false_eq_true, ite_true, ite_false, ↓reduceIte, Nat.reduceLT, Nat.reduceEqDiff, Nat.reduceAdd, or_true, true_or, or_false, false_or, nI_clamp2, nI_lt0F, nI_leT, nI_leF, nI_ltT, nI_ltF, n_leF, n_leT, nI_1, kA6, kA8, kA10, kA22, kA26, kA32, kA44, kA56, kA68, kA80, kA93, kA163, kA794, not_or, or_self, and_self, and_true, true_and, nlt, g267_110, mk, g267_119, g267_248]
    · have mk : nI x &&& (orS (puF B) L ^^^ Int32.ofInt (-1)) = 0 := (mask0 hL hx2).mpr hs
      rw [if_pos rfl]
      obtain ⟨σ1, k1, f1⟩ := m266 (S := S) (d := d + 1) mr b2 hg (nI x)
      have b3 : σ1.1 219 = B := (f1.1 219 (by decide) (by decide)).trans b2
      have k1k := ks.tr f1.kp
      -- the weight
      obtain ⟨o9b, e9, _⟩ := loop_ex (fun l (o : Option Value) => bm_run S (d + 8) 267 169 [some (.ref 218), some (.int (mvF m)), some (.int (orS (dB B (B 22)) L)), some (.int (orS (puF B) L)), some (.long acc), none, some (.long (tnF (cnD (puF B) L))), none, some (.int (nI x)), o, some (.long (wtF B (puF B) x l)), none, some (.int (nI l))] [] σ1) (fun _ _ => True) L (am_clr (some (.int (lbB M L B (nI x))))) trivial (by
        intro l o hl _
        have tp : tb (orS (puF B) L) l = puF B l := by rw [orS_tb _ (by omega) L (by omega)]; simp [hl]
        have tx : tb (nI x) l = x.testBit l := tb_nI (by omega)
        rw [g267_169, wtF]
        cases hp : puF B l
        · rw [hp] at tp
          refine ⟨o, ?_, trivial⟩
          simp (disch := omega) only [bm_run_ite, Option.toList_some, Option.bind_some, Option.toList_some, Option.toList_none, List.cons_append, List.nil_append, List.append_nil, eq_self, not_true_eq_false, not_false_eq_true, ite_true, ite_false, ↓reduceIte, Nat.reduceLT, Nat.reduceEqDiff, Nat.reduceAdd, or_true, true_or, or_false, false_or, nI_clamp2, nI_lt0F, nI_leT, nI_leF, nI_ltT, nI_ltF, n_leF, n_leT, nI_1, kA6, kA8, kA10, kA22, kA26, kA32, kA44, kA56, kA68, kA80, kA93, kA163, kA794, not_or, or_self, and_self, and_true, true_and, b3, m25, g267_181, m176 _ (show l < 32 by omega), tp, g267_188, bI_ite, Bool.false_eq_true, g267_235]
        · rw [hp] at tp
          refine ⟨am_clr o, ?_, trivial⟩
          cases hb : x.testBit l
          · rw [hb] at tx
            simp (disch := omega) only [bm_run_ite, Option.toList_some, Option.bind_some, Option.toList_some, Option.toList_none, List.cons_append, List.nil_append, List.append_nil, eq_self, not_true_eq_false, not_false_eq_true, ite_true, ite_false, ↓reduceIte, Nat.reduceLT, Nat.reduceEqDiff, Nat.reduceAdd, or_true, true_or, or_false, false_or, nI_clamp2, nI_lt0F, nI_leT, nI_leF, nI_ltT, nI_ltF, n_leF, n_leT, nI_1, kA6, kA8, kA10, kA22, kA26, kA32, kA44, kA56, kA68, kA80, kA93, kA163, kA794, not_or, or_self, and_self, and_true, true_and, b3, m25, g267_181, m176 _ (show l < 32 by omega), tp, tx, g267_188, bI_ite, Bool.false_eq_true, g267_191, g267_201, g267_218, g267_232, g267_235]
          · rw [hb] at tx
            simp (disch := omega) only [bm_run_ite, Option.toList_some, Option.bind_some, Option.toList_some, Option.toList_none, List.cons_append, List.nil_append, List.append_nil, eq_self, not_true_eq_false, not_false_eq_true, ite_true, ite_false, ↓reduceIte, Nat.reduceLT, Nat.reduceEqDiff, Nat.reduceAdd, or_true, true_or, or_false, false_or, nI_clamp2, nI_lt0F, nI_leT, nI_leF, nI_ltT, nI_ltF, n_leF, n_leT, nI_1, kA6, kA8, kA10, kA22, kA26, kA32, kA44, kA56, kA68, kA80, kA93, kA163, kA794, not_or, or_self, and_self, and_true, true_and, b3, m25, g267_181, m176 _ (show l < 32 by omega), tp, tx, g267_188, bI_ite, g267_191, g267_201, g267_204, g267_232, g267_235])
      have fin : bm_run S (d + 8) 267 163 [some (.ref 218), some (.int (mvF m)), some (.int (orS (dB B (B 22)) L)), some (.int (orS (puF B) L)), some (.long acc), none, some (.long (tnF (cnD (puF B) L))), none, some (.int (nI x)), some (.int (lbB M L B (nI x))), s.1.2.1, none, s.1.2.2] [] σ1 = bm_run S (d + 8) 267 104 [some (.ref 218), some (.int (mvF m)), some (.int (orS (dB B (B 22)) L)), some (.int (orS (puF B) L)), some (.long (acc + wtF B (puF B) x L)), none, some (.long (tnF (cnD (puF B) L))), none, some (.int (nI (x + 1))), o9b, some (.long (wtF B (puF B) x L)), none, some (.int (nI L))] [] σ1 := by
        rw [g267_163]
        refine (show bm_run S (d + 8) 267 169 [some (.ref 218), some (.int (mvF m)), some (.int (orS (dB B (B 22)) L)), some (.int (orS (puF B) L)), some (.long acc), none, some (.long (tnF (cnD (puF B) L))), none, some (.int (nI x)), am_clr (some (.int (lbB M L B (nI x)))), some (.long (wtF B (puF B) x 0)), none, some (.int (nI 0))] [] σ1 = _ from e9).trans ?_
        rw [g267_169]
        simp (disch := omega) only [bm_run_ite, Option.toList_some, Option.bind_some, Option.toList_some, Option.toList_none, List.cons_append, List.nil_append, List.append_nil, eq_self, not_true_eq_false, not_false_eq_true, ite_true, ite_false, ↓reduceIte, Nat.reduceLT, Nat.reduceEqDiff, Nat.reduceAdd, or_true, true_or, or_false, false_or, nI_clamp2, nI_lt0F, nI_leT, nI_leF, nI_ltT, nI_ltF, n_leF, n_leT, nI_1, kA6, kA8, kA10, kA22, kA26, kA32, kA44, kA56, kA68, kA80, kA93, kA163, kA794, not_or, or_self, and_self, and_true, true_and, b3, m25, g267_241, g267_248]
      have go : bm_run S (d + 8) 267 104 [some (.ref 218), some (.int (mvF m)), some (.int (orS (dB B (B 22)) L)), some (.int (orS (puF B) L)), some (.long acc), none, some (.long (tnF (cnD (puF B) L))), none, some (.int (nI x)), s.1.1, s.1.2.1, none, s.1.2.2] [] s.2 = bm_run S (d + 8) 267 (if cdF B m (lbB M L B (nI x)) = true then 163 else 248) [some (.ref 218), some (.int (mvF m)), some (.int (orS (dB B (B 22)) L)), some (.int (orS (puF B) L)), some (.long acc), none, some (.long (tnF (cnD (puF B) L))), none, some (.int (nI x)), some (.int (lbB M L B (nI x))), s.1.2.1, none, s.1.2.2] [] σ1 := by
        rw [g267_104]
        cases m with
        | none =>
          have e0 : mvF none = Int32.ofInt (-1) := rfl
          have e1 : cdF B none (lbB M L B (nI x)) = decide (lbB M L B (nI x) = B 24) := rfl
          rw [e0, e1]
          by_cases q : lbB M L B (nI x) = B 24
          · simp (disch := omega) only [bm_run_ite, Option.toList_some, Option.bind_some, Option.toList_some, Option.toList_none, List.cons_append, List.nil_append, List.append_nil, eq_self, not_true_eq_false, not_false_eq_true, ite_true, ite_false, ↓reduceIte, Nat.reduceLT, Nat.reduceEqDiff, Nat.reduceAdd, or_true, true_or, or_false, false_or, nI_clamp2, nI_lt0F, nI_leT, nI_leF, nI_ltT, nI_ltF, n_leF, n_leT, nI_1, kA6, kA8, kA10, kA22, kA26, kA32, kA44, kA56, kA68, kA80, kA93, kA163, kA794, not_or, or_self, and_self, and_true, true_and, nlt, g267_110, mk, g267_122, k1, g267_128, g267_135, b3, q, decide_true]
          · simp (disch := omega) only [bm_run_ite, Option.toList_some, Option.bind_some, Option.toList_some, Option.toList_none, List.cons_append, List.nil_append, List.append_nil, eq_self, not_true_eq_false, not_false_eq_true, ite_true, ite_false, ↓reduceIte, Nat.reduceLT, Nat.reduceEqDiff, Nat.reduceAdd, or_true, true_or, or_false, false_or, nI_clamp2, nI_lt0F, nI_leT, nI_leF, nI_ltT, nI_ltF, n_leF, n_leT, nI_1, kA6, kA8, kA10, kA22, kA26, kA32, kA44, kA56, kA68, kA80, kA93, kA163, kA794, not_or, or_self, and_self, and_true, true_and, nlt, g267_110, mk, g267_122, k1, g267_128, g267_135, g267_147, b3, q, decide_false, Bool.false_eq_true]
        | some k =>
          have hk := hm k rfl
          have e0 : mvF (some k) = nI k := rfl
          have e1 : cdF B (some k) (lbB M L B (nI x)) = tb (lbB M L B (nI x)) k := rfl
          have n1 := nm1 (show k < 2147483648 by omega)
          rw [e0, e1]
          cases q : tb (lbB M L B (nI x)) k
          · simp (disch := omega) only [bm_run_ite, Option.toList_some, Option.bind_some, Option.toList_some, Option.toList_none, List.cons_append, List.nil_append, List.append_nil, eq_self, not_true_eq_false, not_false_eq_true, ite_true, ite_false, ↓reduceIte, Nat.reduceLT, Nat.reduceEqDiff, Nat.reduceAdd, or_true, true_or, or_false, false_or, nI_clamp2, nI_lt0F, nI_leT, nI_leF, nI_ltT, nI_ltF, n_leF, n_leT, nI_1, kA6, kA8, kA10, kA22, kA26, kA32, kA44, kA56, kA68, kA80, kA93, kA163, kA794, not_or, or_self, and_self, and_true, true_and, nlt, g267_110, mk, g267_122, k1, g267_128, n1, g267_150, m176 _ (show k < 32 by omega), q, g267_157, g267_160, bI_itn, Bool.false_eq_true]
          · simp (disch := omega) only [bm_run_ite, Option.toList_some, Option.bind_some, Option.toList_some, Option.toList_none, List.cons_append, List.nil_append, List.append_nil, eq_self, not_true_eq_false, not_false_eq_true, ite_true, ite_false, ↓reduceIte, Nat.reduceLT, Nat.reduceEqDiff, Nat.reduceAdd, or_true, true_or, or_false, false_or, nI_clamp2, nI_lt0F, nI_leT, nI_leF, nI_ltT, nI_ltF, n_leF, n_leT, nI_1, kA6, kA8, kA10, kA22, kA26, kA32, kA44, kA56, kA68, kA80, kA93, kA163, kA794, not_or, or_self, and_self, and_true, true_and, nlt, g267_110, mk, g267_122, k1, g267_128, n1, g267_150, m176 _ (show k < 32 by omega), q, g267_157, bI_itn]
      unfold odG
      cases hc : cdF B m (lbB M L B (nI x))
      · rw [hc] at go
        refine ⟨((some (.int (lbB M L B (nI x))), s.1.2.1, s.1.2.2), σ1), ?_, k1k⟩
        have ad : acc + (if (false : Bool) = true then wtF B (puF B) x L else 0) = acc := by simp
        rw [ad]
        refine go.trans ?_
        rw [if_neg Bool.false_ne_true, g267_248]
        simp (disch := omega) only [bm_run_ite, Option.toList_some, Option.bind_some, Option.toList_some, Option.toList_none, List.cons_append, List.nil_append, List.append_nil, eq_self, not_true_eq_false, not_false_eq_true, ite_true, ite_false, ↓reduceIte, Nat.reduceLT, Nat.reduceEqDiff, Nat.reduceAdd, or_true, true_or, or_false, false_or, nI_clamp2, nI_lt0F, nI_leT, nI_leF, nI_ltT, nI_ltF, n_leF, n_leT, nI_1, kA6, kA8, kA10, kA22, kA26, kA32, kA44, kA56, kA68, kA80, kA93, kA163, kA794, not_or, or_self, and_self, and_true, true_and]
      · rw [hc] at go
        refine ⟨((o9b, some (.long (wtF B (puF B) x L)), some (.int (nI L))), σ1), ?_, k1k⟩
        rw [if_pos rfl]
        refine go.trans ?_
        rw [if_pos rfl]
        exact fin)
  replace k3 : Kp σ σ3 := k3
  have tot : smL (fun x => if sbF (puF B) L x = true then odG M L B m x else 0) (myF (puF B) L + 1) = smL (fun x => if sbF (puF B) L x = true then odG M L B m x else 0) (2 ^ L) := by
    have lt := myF_lt (puF B) L
    obtain ⟨r, hr⟩ : ∃ r, 2 ^ L = (myF (puF B) L + 1) + r := ⟨2 ^ L - (myF (puF B) L + 1), by omega⟩
    rw [hr, smL_add _ (myF (puF B) L + 1) r, smL_0 (f := fun i => if sbF (puF B) L (myF (puF B) L + 1 + i) = true then odG M L B m (myF (puF B) L + 1 + i) else 0) ?_, Int64.add_zero]
    intro i hi
    have q : sbF (puF B) L (myF (puF B) L + 1 + i) = false := by
      cases q : sbF (puF B) L (myF (puF B) L + 1 + i)
      · rfl
      · have := sbF_le L _ (by omega) q
        omega
    simp only [q, Bool.false_eq_true, if_false]
  refine ⟨σ3, ?_, k3⟩
  simp only [e267, g267_0, bm_run_ite, Option.toList_some, Option.bind_some, Option.toList_some, Option.toList_none, List.cons_append, List.nil_append, List.append_nil, eq_self, not_true_eq_false, not_false_eq_true, ite_true, ite_false, ↓reduceIte, Nat.reduceLT, Nat.reduceEqDiff, Nat.reduceAdd, or_true, true_or, or_false, false_or, hB, mm, g267_11]
  refine (show bm_run S (d + 8) 267 17 [some (.ref 218), some (.int (mvF m)), some (.int (orS (dB B (B 22)) L)), some (.int 0), some (.int 0), none, none, none, none, none, none, none, none] [] σ = _ from s1).trans ?_
  rw [g267_17]
  simp (disch := omega) only [bm_run_ite, Option.toList_some, Option.bind_some, Option.toList_some, Option.toList_none, List.cons_append, List.nil_append, List.append_nil, eq_self, not_true_eq_false, not_false_eq_true, ite_true, ite_false, ↓reduceIte, Nat.reduceLT, Nat.reduceEqDiff, Nat.reduceAdd, or_true, true_or, or_false, false_or, nI_clamp2, nI_lt0F, nI_leT, nI_leF, nI_ltT, nI_ltF, n_leF, n_leT, nI_1, kA6, kA8, kA10, kA22, kA26, kA32, kA44, kA56, kA68, kA80, kA93, kA163, kA794, not_or, or_self, and_self, and_true, true_and, hB, m25, g267_69]
  refine (show bm_run S (d + 8) 267 78 [some (.ref 218), some (.int (mvF m)), some (.int (orS (dB B (B 22)) L)), some (.int (orS (puF B) L)), some (.long 0), none, some (.long 1), none, some (.int 0), none, none, none, none] [] σ = _ from s2).trans ?_
  rw [g267_78]
  simp (disch := omega) only [bm_run_ite, Option.toList_some, Option.bind_some, Option.toList_some, Option.toList_none, List.cons_append, List.nil_append, List.append_nil, eq_self, not_true_eq_false, not_false_eq_true, ite_true, ite_false, ↓reduceIte, Nat.reduceLT, Nat.reduceEqDiff, Nat.reduceAdd, or_true, true_or, or_false, false_or, nI_clamp2, nI_lt0F, nI_leT, nI_leF, nI_ltT, nI_ltF, n_leF, n_leT, nI_1, kA6, kA8, kA10, kA22, kA26, kA32, kA44, kA56, kA68, kA80, kA93, kA163, kA794, not_or, or_self, and_self, and_true, true_and, m197, bcm, g267_84, g267_101]
  refine (show bm_run S (d + 8) 267 104 [some (.ref 218), some (.int (mvF m)), some (.int (orS (dB B (B 22)) L)), some (.int (orS (puF B) L)), some (.long 0), none, some (.long (tnF (cnD (puF B) L))), none, some (.int 0), none, none, none, none] [] σ = _ from e3).trans ?_
  have lt := myF_lt (puF B) L
  have l9 : orS (puF B) L < nI (myF (puF B) L + 1) := by rw [orS_my hL]; exact nI_lt (by omega) (by omega)
  have t0 := tnF_0 (cnD (puF B) L) (by omega)
  rw [g267_104]
  simp (disch := omega) only [bm_run_ite, Option.toList_some, Option.bind_some, Option.toList_some, Option.toList_none, List.cons_append, List.nil_append, List.append_nil, eq_self, not_true_eq_false, not_false_eq_true, ite_true, ite_false, ↓reduceIte, Nat.reduceLT, Nat.reduceEqDiff, Nat.reduceAdd, or_true, true_or, or_false, false_or, nI_clamp2, nI_lt0F, nI_leT, nI_leF, nI_ltT, nI_ltF, n_leF, n_leT, nI_1, kA6, kA8, kA10, kA22, kA26, kA32, kA44, kA56, kA68, kA80, kA93, kA163, kA794, not_or, or_self, and_self, and_true, true_and, l9, g267_254, t0, tot]
  rfl
end ODDSM
