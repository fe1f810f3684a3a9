/-! rows of the flat memory, reads and writes within bounds -/
def rd (g : Nat → Int32) (n : Nat) (i : Int32) : Int32 := if i < 0 then 0 else if Int32.ofNat n ≤ i then 0 else g i.toNatClampNeg
def wr (g : Nat → Int32) (n : Nat) (i : Int32) (v : Int32) : Nat → Int32 := if i < 0 then g else if Int32.ofNat n ≤ i then g else upd g i.toNatClampNeg v
theorem ix_lt {n : Nat} {i : Int32} (h0 : ¬ i < 0) (h : ¬ Int32.ofNat n ≤ i) (hn : n < 2 ^ 31) : i.toNatClampNeg < n := by
  obtain ⟨j, hj, rfl⟩ := nI_of h0
  rw [nI_clamp hj]
  rcases Nat.lt_or_ge j n with q | q
  · exact q
  · exact absurd (nI_le q hj) h
theorem rd_nI {g : Nat → Int32} {n k : Nat} (h : k < n) (hn : n < 2 ^ 31) : rd g n (nI k) = g k := by
  unfold rd
  have e : Int32.ofNat n = nI n := rfl
  rw [e, if_neg (nI_pos (by omega)), if_neg (nI_ge h hn), nI_clamp (by omega)]
theorem wr_nI {g : Nat → Int32} {n k : Nat} {v : Int32} (h : k < n) (hn : n < 2 ^ 31) : wr g n (nI k) v = upd g k v := by
  unfold wr
  have e : Int32.ofNat n = nI n := rfl
  rw [e, if_neg (nI_pos (by omega)), if_neg (nI_ge h hn), nI_clamp (by omega)]
theorem bm_row_self (σ : bm_S) (a : Nat) : bm_row σ a (σ.1 a) = σ := by
  unfold bm_row
  refine Prod.ext ?_ rfl
  funext b
  simp only
  split
  · next h => rw [h]
  · rfl
theorem bm_row_1 (σ : bm_S) (a b : Nat) (g : Nat → Int32) : (bm_row σ a g).1 b = if b = a then g else σ.1 b := rfl
theorem bm_row_1s (σ : bm_S) (a : Nat) (g : Nat → Int32) : (bm_row σ a g).1 a = g := by simp [bm_row]
theorem bm_row_1n (σ : bm_S) {a b : Nat} (g : Nat → Int32) (h : b ≠ a) : (bm_row σ a g).1 b = σ.1 b := by simp [bm_row, h]
theorem bm_row_2 (σ : bm_S) (a : Nat) (g : Nat → Int32) : (bm_row σ a g).2 = σ.2 := rfl
theorem bm_rowL_1 (σ : bm_S) (a : Nat) (g : Nat → Int64) : (bm_rowL σ a g).1 = σ.1 := rfl
theorem bm_rowL_2s (σ : bm_S) (a : Nat) (g : Nat → Int64) : (bm_rowL σ a g).2 a = g := by simp [bm_rowL]
theorem bm_rowL_2n (σ : bm_S) {a b : Nat} (g : Nat → Int64) (h : b ≠ a) : (bm_rowL σ a g).2 b = σ.2 b := by simp [bm_rowL, h]
theorem bm_row_row (σ : bm_S) (a : Nat) (f g : Nat → Int32) : bm_row (bm_row σ a f) a g = bm_row σ a g := by
  unfold bm_row
  refine Prod.ext ?_ rfl
  funext b
  simp only
  split <;> rfl
theorem bm_row_comm (σ : bm_S) {a b : Nat} (f g : Nat → Int32) (h : a ≠ b) : bm_row (bm_row σ a f) b g = bm_row (bm_row σ b g) a f := by
  unfold bm_row
  refine Prod.ext ?_ rfl
  funext q
  simp only
  by_cases h1 : q = a
  · subst h1; simp [h]
  · simp [h1]
theorem bm_wi_def (σ : bm_S) (k b : Nat) (x : Int32) : bm_wi σ k b x = bm_row σ k (upd (σ.1 k) b x) := rfl
theorem bm_wl_def (σ : bm_S) (k b : Nat) (x : Int64) : bm_wl σ k b x = bm_rowL σ k (vp_updL (σ.2 k) b x) := rfl
theorem upd_s (f : Nat → Int32) (k : Nat) (x : Int32) : upd f k x k = x := by simp [upd]
theorem upd_n (f : Nat → Int32) {k j : Nat} (x : Int32) (h : j ≠ k) : upd f k x j = f j := by simp [upd, h]
theorem upd_upd (f : Nat → Int32) (k : Nat) (x y : Int32) : upd (upd f k x) k y = upd f k y := by
  funext j; simp only [upd]; split <;> rfl
/-- one step a turn, as often as there are turns -/
theorem loop_eq {β : Type} (F : Nat → β) (L : Nat) (h : ∀ k, k < L → F k = F (k + 1)) : F 0 = F L := by
  induction L with
  | zero => rfl
  | succ n ih => exact (ih (fun k hk => h k (by omega))).trans (h n (by omega))
theorem loop_from {β : Type} (F : Nat → β) (a L : Nat) (ha : a ≤ L) (h : ∀ k, a ≤ k → k < L → F k = F (k + 1)) : F a = F L := by
  obtain ⟨n, rfl⟩ : ∃ n, L = a + n := ⟨L - a, by omega⟩
  clear ha
  induction n with
  | zero => rfl
  | succ n ih => exact (ih (fun k h1 h2 => h k h1 (by omega))).trans (h (a + n) (by omega) (by omega))
def bI (b : Bool) : Int32 := if b then 1 else 0
theorem bI_01 (b : Bool) : bI b = 0 ∨ bI b = 1 := by cases b <;> simp [bI]
theorem bI_0 {b : Bool} : bI b = 0 ↔ b = false := by cases b <;> simp [bI]
theorem i_m1 : Int32.ofInt (-1) = -1 := by decide
/-! what an index is -/
theorem nI_clamp2 {n : Nat} (h : n < 2147483648) : (nI n).toNatClampNeg = n := nI_clamp h
theorem nI_lt0F {n : Nat} (h : n < 2147483648) : (nI n < 0) = False := eq_false (nI_pos h)
theorem nI_leT {a b : Nat} (h : a ≤ b) (hb : b < 2147483648) : (nI a ≤ nI b) = True := eq_true (nI_le h hb)
theorem nI_leF {a b : Nat} (h : b < a) (ha : a < 2147483648) : (nI a ≤ nI b) = False := eq_false (nI_ge h ha)
theorem nI_ltT {a b : Nat} (h : a < b) (hb : b < 2147483648) : (nI a < nI b) = True := eq_true (nI_lt h hb)
theorem nI_ltF {a b : Nat} (h : b ≤ a) (ha : a < 2147483648) : (nI a < nI b) = False := eq_false (nI_nlt h ha)
theorem n_leF {a b : Nat} (h : b < a) : (a ≤ b) = False := eq_false (Nat.not_le.mpr h)
theorem n_leT {a b : Nat} (h : a ≤ b) : (a ≤ b) = True := eq_true h
theorem kA6 (a : Nat) : (6 : Int32) + nI a = nI (6 + a) := nI_add 6 a
theorem kA8 (a : Nat) : (8 : Int32) + nI a = nI (8 + a) := nI_add 8 a
theorem kA10 (a : Nat) : (10 : Int32) + nI a = nI (10 + a) := nI_add 10 a
theorem kA22 (a : Nat) : (22 : Int32) + nI a = nI (22 + a) := nI_add 22 a
theorem kA26 (a : Nat) : (26 : Int32) + nI a = nI (26 + a) := nI_add 26 a
theorem kA32 (a : Nat) : (32 : Int32) + nI a = nI (32 + a) := nI_add 32 a
theorem kA44 (a : Nat) : (44 : Int32) + nI a = nI (44 + a) := nI_add 44 a
theorem kA56 (a : Nat) : (56 : Int32) + nI a = nI (56 + a) := nI_add 56 a
theorem kA68 (a : Nat) : (68 : Int32) + nI a = nI (68 + a) := nI_add 68 a
theorem kA80 (a : Nat) : (80 : Int32) + nI a = nI (80 + a) := nI_add 80 a
theorem kA93 (a : Nat) : (93 : Int32) + nI a = nI (93 + a) := nI_add 93 a
theorem kA163 (a : Nat) : (163 : Int32) + nI a = nI (163 + a) := nI_add 163 a
theorem kA794 (a : Nat) : (794 : Int32) + nI a = nI (794 + a) := nI_add 794 a
theorem kI0 : (0 : Int32) = nI 0 := rfl
theorem kI1 : (1 : Int32) = nI 1 := rfl
theorem kI2 : (2 : Int32) = nI 2 := rfl
theorem kI6 : (6 : Int32) = nI 6 := rfl
theorem kI9 : (9 : Int32) = nI 9 := rfl
theorem kI10 : (10 : Int32) = nI 10 := rfl
theorem kI12 : (12 : Int32) = nI 12 := rfl
theorem kI20 : (20 : Int32) = nI 20 := rfl
theorem kI30 : (30 : Int32) = nI 30 := rfl
theorem kI70 : (70 : Int32) = nI 70 := rfl
theorem kI630 : (630 : Int32) = nI 630 := rfl
/-- turns that change what is looked at -/
theorem loop_ex {β γ : Type} (F : Nat → γ → β) (P : Nat → γ → Prop) (L : Nat) (s0 : γ) (h0 : P 0 s0) (hs : ∀ k s, k < L → P k s → ∃ s1, F k s = F (k + 1) s1 ∧ P (k + 1) s1) : ∃ s1, F 0 s0 = F L s1 ∧ P L s1 := by
  induction L with
  | zero => exact ⟨s0, rfl, h0⟩
  | succ n ih =>
    obtain ⟨s1, e1, p1⟩ := ih (fun k s hk => hs k s (by omega))
    obtain ⟨s2, e2, p2⟩ := hs n s1 (by omega) p1
    exact ⟨s2, e1.trans e2, p2⟩
/-! bits -/
def tb (x : Int32) (l : Nat) : Bool := x.toBitVec.getLsbD l
theorem sh_amt : ∀ l, l < 32 → ((nI l &&& 31).toBitVec.smod 32).toNat = l := by decide +kernel
theorem tb_0 (l : Nat) : tb 0 l = false := by simp [tb]
theorem tb_or (x y : Int32) (l : Nat) : tb (x ||| y) l = (tb x l || tb y l) := by simp [tb]
theorem tb_and (x y : Int32) (l : Nat) : tb (x &&& y) l = (tb x l && tb y l) := by simp [tb]
theorem tb_xor (x y : Int32) (l : Nat) : tb (x ^^^ y) l = (tb x l ^^ tb y l) := by simp [tb]
theorem tb_m1 : ∀ l, l < 32 → tb (Int32.ofInt (-1)) l = true := by decide +kernel
def bt (k : Nat) : Int32 := (1 : Int32) <<< (nI k &&& 31)
theorem tb_bt : ∀ k, k < 32 → ∀ l, l < 32 → tb (bt k) l = decide (l = k) := by decide +kernel
theorem tb_ext {x y : Int32} (h : ∀ l, l < 32 → tb x l = tb y l) : x = y := by
  apply Int32.toBitVec_inj.mp
  exact BitVec.eq_of_getLsbD_eq h
theorem sh1 (x : Int32) {l : Nat} (h : l < 32) : ((x >>> (nI l &&& 31)) &&& 1) = bI (tb x l) := by
  apply tb_ext
  intro i hi
  have e : (x >>> (nI l &&& 31)).toBitVec = x.toBitVec.sshiftRight l := by
    rw [Int32.toBitVec_shiftRight]
    show x.toBitVec.sshiftRight ((nI l &&& 31).toBitVec.smod 32).toNat = _
    rw [sh_amt l h]
  have e1 : ∀ i, i < 32 → tb 1 i = decide (i = 0) := by decide +kernel
  rw [tb_and, e1 i hi]
  show ((x >>> (nI l &&& 31)).toBitVec.getLsbD i && _) = _
  rw [e]
  by_cases hz : i = 0
  · subst hz
    rw [BitVec.getLsbD_sshiftRight, if_pos (show l + 0 < 32 from h)]
    have e3 : x.toBitVec.getLsbD (l + 0) = tb x l := rfl
    rw [e3]
    cases tb x l
    · rfl
    · rfl
  · simp only [hz, decide_false, Bool.and_false]
    cases tb x l
    · simp [bI, tb]
    · simp only [bI, if_true]
      rw [e1 i hi]; simp [hz]
theorem sh1l (x : Int32) {l : Nat} (h : l < 32) : ((x.toInt64 >>> ((nI l).toInt64 &&& 63)) &&& 1) = if tb x l then 1 else 0 := by
  have ha : ∀ l, l < 32 → (((nI l).toInt64 &&& 63).toBitVec.smod 64).toNat = l := by decide +kernel
  apply Int64.toBitVec_inj.mp
  have e : (x.toInt64 >>> ((nI l).toInt64 &&& 63)).toBitVec = x.toInt64.toBitVec.sshiftRight l := by
    rw [Int64.toBitVec_shiftRight]
    show x.toInt64.toBitVec.sshiftRight (((nI l).toInt64 &&& 63).toBitVec.smod 64).toNat = _
    rw [ha l h]
  apply BitVec.eq_of_getLsbD_eq
  intro i hi
  rw [Int64.toBitVec_and, e, BitVec.getLsbD_and, BitVec.getLsbD_sshiftRight]
  have e1 : ∀ i, i < 64 → (1 : Int64).toBitVec.getLsbD i = decide (i = 0) := by decide +kernel
  rw [e1 i hi]
  by_cases hz : i = 0
  · subst hz
    have e2 : x.toInt64.toBitVec.getLsbD l = tb x l := by
      simp only [Int32.toBitVec_toInt64, tb]
      rw [BitVec.getLsbD_signExtend]
      simp [h]
      intro h9; omega
    rw [if_pos (show l + 0 < 64 by omega), Nat.add_zero, e2]
    cases tb x l
    · rfl
    · rfl
  · simp only [hz, decide_false, Bool.and_false]
    cases tb x l
    · simp
    · rw [if_pos rfl, e1 i hi]; simp [hz]
/-! the layout's worlds, books, trays -/
def isW (w : Nat) : Prop := w ∈ ([5, 15, 29, 44, 54, 64, 74, 84, 94, 104, 114, 124, 134, 149, 162, 186, 200] : List Nat)
def isB (w : Nat) : Prop := w ∈ ([2, 26, 183, 197] : List Nat)
def isT (w : Nat) : Prop := w ∈ ([210, 212, 214, 216] : List Nat)
theorem isW_all : ∀ w ∈ ([5, 15, 29, 44, 54, 64, 74, 84, 94, 104, 114, 124, 134, 149, 162, 186, 200] : List Nat), bm_tag w = 110 ∧ (bm_tag (w + 1) = 0 ∧ bm_tag (w + 2) = 0 ∧ bm_tag (w + 3) = 0 ∧ bm_tag (w + 4) = 0 ∧ bm_tag (w + 5) = 0 ∧ bm_tag (w + 6) = 0 ∧ bm_tag (w + 7) = 0 ∧ bm_tag (w + 8) = 0 ∧ bm_tag (w + 9) = 0) ∧ (bm_len (w + 1) = 6 ∧ bm_len (w + 2) = 12 ∧ bm_len (w + 3) = 12 ∧ bm_len (w + 4) = 12 ∧ bm_len (w + 5) = 12 ∧ bm_len (w + 6) = 12 ∧ bm_len (w + 7) = 12 ∧ bm_len (w + 8) = 6 ∧ bm_len (w + 9) = 6) := by decide +kernel
section ISW
variable {w : Nat}
theorem isW.t0 (h : isW w) : bm_tag w = 110 := (isW_all w h).1
theorem isW.t1 (h : isW w) : bm_tag (w + 1) = 0 := (isW_all w h).2.1.1
theorem isW.t2 (h : isW w) : bm_tag (w + 2) = 0 := (isW_all w h).2.1.2.1
theorem isW.t3 (h : isW w) : bm_tag (w + 3) = 0 := (isW_all w h).2.1.2.2.1
theorem isW.t4 (h : isW w) : bm_tag (w + 4) = 0 := (isW_all w h).2.1.2.2.2.1
theorem isW.t5 (h : isW w) : bm_tag (w + 5) = 0 := (isW_all w h).2.1.2.2.2.2.1
theorem isW.t6 (h : isW w) : bm_tag (w + 6) = 0 := (isW_all w h).2.1.2.2.2.2.2.1
theorem isW.t7 (h : isW w) : bm_tag (w + 7) = 0 := (isW_all w h).2.1.2.2.2.2.2.2.1
theorem isW.t8 (h : isW w) : bm_tag (w + 8) = 0 := (isW_all w h).2.1.2.2.2.2.2.2.2.1
theorem isW.t9 (h : isW w) : bm_tag (w + 9) = 0 := (isW_all w h).2.1.2.2.2.2.2.2.2.2
theorem isW.l1 (h : isW w) : bm_len (w + 1) = 6 := (isW_all w h).2.2.1
theorem isW.l2 (h : isW w) : bm_len (w + 2) = 12 := (isW_all w h).2.2.2.1
theorem isW.l3 (h : isW w) : bm_len (w + 3) = 12 := (isW_all w h).2.2.2.2.1
theorem isW.l4 (h : isW w) : bm_len (w + 4) = 12 := (isW_all w h).2.2.2.2.2.1
theorem isW.l5 (h : isW w) : bm_len (w + 5) = 12 := (isW_all w h).2.2.2.2.2.2.1
theorem isW.l6 (h : isW w) : bm_len (w + 6) = 12 := (isW_all w h).2.2.2.2.2.2.2.1
theorem isW.l7 (h : isW w) : bm_len (w + 7) = 12 := (isW_all w h).2.2.2.2.2.2.2.2.1
theorem isW.l8 (h : isW w) : bm_len (w + 8) = 6 := (isW_all w h).2.2.2.2.2.2.2.2.2.1
theorem isW.l9 (h : isW w) : bm_len (w + 9) = 6 := (isW_all w h).2.2.2.2.2.2.2.2.2.2
end ISW
theorem isB_all : ∀ w ∈ ([2, 26, 183, 197] : List Nat), bm_tag w = 100 ∧ bm_tag (w + 1) = 0 ∧ bm_tag (w + 2) = 0 ∧ bm_len (w + 1) = 900 ∧ bm_len (w + 2) = 64 := by decide +kernel
theorem isT_all : ∀ w ∈ ([210, 212, 214, 216] : List Nat), bm_tag w = 109 ∧ bm_tag (w + 1) = 2 ∧ bm_len (w + 1) = 40 := by decide +kernel
