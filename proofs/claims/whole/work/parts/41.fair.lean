/-! A FAIR, as both hold it -/
abbrev fS : Type := (Nat → Int32) × (Nat → Bool)
def itR (f : (Nat → Int32) → Nat → Nat → Int32) (B : Nat → Int32) : Nat → Nat → Int32
  | 0 => B
  | l + 1 => f (itR f B l) l
def tou (C : Nat → Int32) (m : Int32) (l : Nat) : Bool := decide (C (32 + l) = m) || decide (C (44 + l) = m)
def brS (m : Int32) (C : Nat → Int32) (l : Nat) : Nat → Int32 := if (oB C l && tou C m l) = true then upd C (80 + l) 2 else C
def brB (B : Nat → Int32) (m L : Nat) : Nat → Int32 := itR (brS (nI m)) (upd B 24 (B 24 ||| bt m)) L
def brD (B : Nat → Int32) (m : Nat) (D : Nat → Bool) : Nat → Bool := fun l => D l && !(oB B l && tou B (nI m) l)
def ptS (D : Nat → Bool) (m : Int32) (C : Nat → Int32) (l : Nat) : Nat → Int32 := if (D l && decide (C (32 + l) = m)) = true then upd C (68 + l) (C (68 + l) + 1) else C
def ptB (B : Nat → Int32) (D : Nat → Bool) (m L : Nat) : Nat → Int32 := itR (ptS D (nI m)) B L
def ptD (B : Nat → Int32) (m : Nat) (D : Nat → Bool) : Nat → Bool := fun l => D l && !(decide (B (32 + l) = nI m))
def shF (B g : Nat → Int32) (m : Nat) : Int32 := if tb (B 24) m = true then 0 else -(B (26 + m) + g m)
def seS (L : Nat) (B g : Nat → Int32) (s : fS) (m : Nat) : fS := if 0 < shF B g m then (if tmB s.1 (nI m) (B (26 + m)) (shF B g m) = true then (ptB s.1 s.2 m L, ptD s.1 m s.2) else (brB s.1 m L, brD s.1 m s.2)) else s
def seF (L : Nat) (B g : Nat → Int32) (s : fS) : Nat → fS
  | 0 => s
  | m + 1 => seS L B g (seF L B g s m) m
def anS (B g : Nat → Int32) : Nat → Bool
  | 0 => false
  | m + 1 => anS B g m || decide (0 < shF B g m)
def anF (M L : Nat) (s : fS) : Bool := anS s.1 (netF s.2 s.1 L) M
def tuS (M L : Nat) (s : fS) : fS := seF L s.1 (netF s.2 s.1 L) s M
def tuF (M L : Nat) : Nat → fS → fS
  | 0, s => s
  | n + 1, s => if anF M L s = true then tuF M L n (tuS M L s) else s
def caF (g : Nat → Int32) (C : Nat → Int32) (m : Nat) : Nat → Int32 := upd C (26 + m) (mn (C (26 + m) + g m))
def paF (D : Nat → Bool) (C : Nat → Int32) (l : Nat) : Nat → Int32 := if D l = true then upd C (80 + l) 1 else C
def enB (M L : Nat) (s : fS) : Nat → Int32 := itR (paF s.2) (itR (caF (netF s.2 s.1 L)) s.1 M) L
def faB (M L : Nat) (B : Nat → Int32) (D : Nat → Bool) : Nat → Int32 := upd (enB M L (tuF M L 13 (B, D))) 22 (enB M L (tuF M L 13 (B, D)) 22 + 1)
/-! what stays -/
theorem itR_out {f : (Nat → Int32) → Nat → Nat → Int32} {B : Nat → Int32} {i : Nat} : ∀ {n : Nat}, (∀ C l, l < n → f C l i = C i) → itR f B n i = B i := by
  intro n
  induction n with
  | zero => intro _; rfl
  | succ n ih => intro h; rw [itR, h _ n (by omega)]; exact ih (fun C l hl => h C l (by omega))
theorem brB_out {B : Nat → Int32} {m L i : Nat} (h : i ≠ 24) (h1 : i < 80 ∨ 80 + L ≤ i) : brB B m L i = B i := by
  unfold brB
  rw [itR_out]
  · rw [upd_n _ _ h]
  · intro C l hl
    unfold brS
    split
    · rw [upd_n _ _ (by omega)]
    · rfl
theorem brB_24 {B : Nat → Int32} {m L : Nat} : brB B m L 24 = B 24 ||| bt m := by
  unfold brB
  rw [itR_out]
  · rw [upd_s]
  · intro C l hl
    unfold brS
    split
    · rw [upd_n _ _ (by omega)]
    · rfl
theorem ptB_out {B : Nat → Int32} {D : Nat → Bool} {m L i : Nat} (h1 : i < 68 ∨ 68 + L ≤ i) : ptB B D m L i = B i := by
  unfold ptB
  rw [itR_out]
  intro C l hl
  unfold ptS
  split
  · rw [upd_n _ _ (by omega)]
  · rfl
theorem itR_at {f : (Nat → Int32) → Nat → Nat → Int32} {B : Nat → Int32} {i l : Nat} : ∀ {n : Nat}, l < n → (∀ C k, k < n → k ≠ l → f C k i = C i) → itR f B n i = f (itR f B l) l i := by
  intro n
  induction n with
  | zero => intro h; omega
  | succ n ih =>
    intro hl h
    by_cases e : l = n
    · subst e; rfl
    · rw [itR, h _ n (by omega) (fun q => e q.symm)]
      exact ih (by omega) (fun C k hk => h C k (by omega))
theorem brB_80 {B : Nat → Int32} {m L l : Nat} (hL : L ≤ 12) (hl : l < L) : brB B m L (80 + l) = if (oB B l && tou B (nI m) l) = true then 2 else B (80 + l) := by
  unfold brB
  rw [itR_at hl]
  · have e : ∀ i, i ≠ 24 → (i < 80 ∨ 80 + l ≤ i) → itR (brS (nI m)) (upd B 24 (B 24 ||| bt m)) l i = B i := fun i h h1 => brB_out (L := l) h h1
    generalize itR (brS (nI m)) (upd B 24 (B 24 ||| bt m)) l = C at e ⊢
    unfold brS oB tou
    rw [e _ (by omega) (by omega), e _ (by omega) (by omega), e _ (by omega) (by omega)]
    split
    · rw [upd_s]
    · exact e _ (by omega) (by omega)
  · intro C k hk hne
    unfold brS
    split
    · rw [upd_n _ _ (by omega)]
    · rfl
theorem ptB_68 {B : Nat → Int32} {D : Nat → Bool} {m L l : Nat} (hL : L ≤ 12) (hl : l < L) : ptB B D m L (68 + l) = if (D l && decide (B (32 + l) = nI m)) = true then B (68 + l) + 1 else B (68 + l) := by
  unfold ptB
  rw [itR_at hl]
  · have e : ∀ i, (i < 68 ∨ 68 + l ≤ i) → itR (ptS D (nI m)) B l i = B i := fun i h1 => ptB_out (L := l) h1
    generalize itR (ptS D (nI m)) B l = C at e ⊢
    unfold ptS
    rw [e _ (by omega), e _ (by omega)]
    split
    · rw [upd_s]
    · exact e _ (by omega)
  · intro C k hk hne
    unfold ptS
    split
    · rw [upd_n _ _ (by omega)]
    · rfl
/-- what no settling touches: all but who is broken, when and how -/
def eqS (B C : Nat → Int32) : Prop := ∀ i, i ≠ 24 → (i < 68 ∨ 92 ≤ i) → C i = B i
theorem eqS.rfl (B : Nat → Int32) : eqS B B := fun _ _ _ => Eq.refl _
theorem eqS.tr {A B C : Nat → Int32} (h : eqS A B) (h1 : eqS B C) : eqS A C := fun i a b => (h1 i a b).trans (h i a b)
theorem eqS_br {B : Nat → Int32} {m L : Nat} (hL : L ≤ 12) : eqS B (brB B m L) := fun i a b => brB_out a (by omega)
theorem eqS_pt {B : Nat → Int32} {D : Nat → Bool} {m L : Nat} (hL : L ≤ 12) : eqS B (ptB B D m L) := fun i a b => ptB_out (by omega)
theorem eqS_seS {L : Nat} (hL : L ≤ 12) (B g : Nat → Int32) (s : fS) (m : Nat) : eqS s.1 (seS L B g s m).1 := by
  unfold seS
  split
  · split
    · exact eqS_pt hL
    · exact eqS_br hL
  · exact eqS.rfl _
theorem eqS_seF {L : Nat} (hL : L ≤ 12) (B g : Nat → Int32) (s : fS) : ∀ m, eqS s.1 (seF L B g s m).1 := by
  intro m
  induction m with
  | zero => exact eqS.rfl _
  | succ m ih => exact ih.tr (eqS_seS hL B g _ m)
theorem eqS_tuF {M L : Nat} (hL : L ≤ 12) : ∀ n (s : fS), eqS s.1 (tuF M L n s).1 := by
  intro n
  induction n with
  | zero => intro s; exact eqS.rfl _
  | succ n ih =>
    intro s
    rw [tuF]
    split
    · exact (eqS_seF hL _ _ s M).tr (ih _)
    · exact eqS.rfl _
theorem seS_24 {L : Nat} (B g : Nat → Int32) (s : fS) {m k : Nat} (hm : m < 32) (hk : k < 32) (hne : k ≠ m) : tb ((seS L B g s m).1 24) k = tb (s.1 24) k := by
  unfold seS
  split
  · split
    · show tb (ptB s.1 s.2 m L 24) k = _
      rw [ptB_out (by omega)]
    · show tb (brB s.1 m L 24) k = _
      rw [brB_24, tb_or, tb_bt m hm k hk]; simp [hne]
  · rfl
theorem seF_24 {L : Nat} (B g : Nat → Int32) (s : fS) : ∀ {m k : Nat}, m ≤ k → k < 32 → tb ((seF L B g s m).1 24) k = tb (s.1 24) k := by
  intro m
  induction m with
  | zero => intro k _ _; rfl
  | succ m ih => intro k h1 h2; rw [seF, seS_24 B g _ (by omega) h2 (by omega)]; exact ih (by omega) h2
/-- who is due stays so or is it no more -/
theorem seS_le {L : Nat} (B g : Nat → Int32) (s : fS) (m l : Nat) (h : (seS L B g s m).2 l = true) : s.2 l = true := by
  unfold seS at h
  split at h
  · split at h
    · simp only [ptD, Bool.and_eq_true] at h; exact h.1
    · simp only [brD, Bool.and_eq_true] at h; exact h.1
  · exact h
theorem seF_le {L : Nat} (B g : Nat → Int32) (s : fS) (l : Nat) : ∀ m, (seF L B g s m).2 l = true → s.2 l = true := by
  intro m
  induction m with
  | zero => exact id
  | succ m ih => intro h; exact ih (seS_le B g _ m l h)
/-- what is due is owed -/
def duO (L : Nat) (s : fS) : Prop := ∀ l, l < L → s.2 l = true → oB s.1 l = true
theorem duO_seS {L : Nat} (hL : L ≤ 12) (B g : Nat → Int32) {s : fS} (h : duO L s) (m : Nat) : duO L (seS L B g s m) := by
  intro l hl hq
  have h0 := h l hl (seS_le B g s m l hq)
  unfold seS at hq ⊢
  split
  · next q =>
    rw [if_pos q] at hq
    split
    · unfold oB at h0 ⊢
      simp only [ptB_out (show 80 + l < 68 ∨ 68 + L ≤ 80 + l by omega)]
      exact h0
    · next q1 =>
      rw [if_neg q1] at hq
      simp only [brD, Bool.and_eq_true, Bool.not_eq_true'] at hq
      unfold oB at h0 ⊢
      simp only [brB_80 hL hl]
      rw [hq.2]
      exact h0
  · exact h0
theorem duO_seF {L : Nat} (hL : L ≤ 12) (B g : Nat → Int32) {s : fS} (h : duO L s) : ∀ m, duO L (seF L B g s m) := by
  intro m
  induction m with
  | zero => exact h
  | succ m ih => exact duO_seS hL B g ih m
