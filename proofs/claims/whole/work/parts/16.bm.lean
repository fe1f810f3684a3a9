/-! THE FLAT MACHINE: the same instructions over a memory that is two functions (ints, longs), for a layout that stays -/
abbrev bm_S : Type := (Nat → Nat → Int32) × (Nat → Nat → Int64)
abbrev bm_R : Type := Option (Option Value × bm_S)
def bm_fill (σ : bm_S) (k : Nat) : am_C → am_C
  | .inl (t, (n, .inl _)) => .inl (t, (n, .inl (σ.1 k)))
  | .inl (t, (n, .inr (.inl _))) => .inl (t, (n, .inr (.inl (σ.2 k))))
  | .inl (t, (n, .inr (.inr x))) => .inl (t, (n, .inr (.inr x)))
  | .inr (ci, fs) => .inr (ci, fs.mapIdx (fun j v => match v with | .int _ => .int (σ.1 k j) | .long _ => .long (σ.2 k j) | v => v))
def bm_mk (σ : bm_S) : am_M := bm_ly.mapIdx (bm_fill σ)
def bm_tag (k : Nat) : Nat := match bm_ly[k]? with
  | some (.inl (t, _)) => t
  | some (.inr (ci, _)) => 100 + ci
  | none => 99
def bm_len (k : Nat) : Nat := match bm_ly[k]? with
  | some (.inl (_, (n, _))) => n
  | _ => 0
def bm_rfa (k : Nat) : Nat → Option Nat := match bm_ly[k]? with
  | some (.inl (_, (_, .inr (.inr (.inr (.inr f)))))) => f
  | _ => fun _ => none
def bm_rf (ci k b : Nat) : Value :=
  if ci = 10 then .ref (k + (b - 4)) else if ci = 0 then (if b = 3 then .ref (k + 1) else .ref (k + 2)) else if ci = 9 then .ref (k + 1) else if ci = 4 then (if b = 0 then .ref (k + 1) else .ref (k + 4)) else match bm_ly[k]? with
  | some (.inr (_, fs)) => fs.getD b .null
  | _ => .null
def bm_fk (a b : Nat) : Nat := match (am_df a)[b]? with
  | some (.int _) => 0
  | some (.long _) => 1
  | some .null => 2
  | _ => 3
def bm_row (σ : bm_S) (k : Nat) (g : Nat → Int32) : bm_S := (fun a => if a = k then g else σ.1 a, σ.2)
def bm_rowL (σ : bm_S) (k : Nat) (g : Nat → Int64) : bm_S := (σ.1, fun a => if a = k then g else σ.2 a)
def bm_wi (σ : bm_S) (k b : Nat) (x : Int32) : bm_S := bm_row σ k (upd (σ.1 k) b x)
def bm_wl (σ : bm_S) (k b : Nat) (x : Int64) : bm_S := bm_rowL σ k (vp_updL (σ.2 k) b x)
def bm_isr : Value → Bool
  | .ref _ => true
  | .null => true
  | _ => false
/-- where a switch goes, as a chain of questions -/
def bm_ch : List (Int32 × Nat) → Nat → Int32 → Nat
  | [], d, _ => d
  | (v, t) :: r, d, x => if x = v then t else bm_ch r d x
def bm_tab (pc : Nat) : Int → List Int → List (Int32 × Nat)
  | _, [] => []
  | lo, o :: r => (Int32.ofInt lo, ((pc : Int) + o).toNat) :: bm_tab pc (lo + 1) r
def bm_lk (pc : Nat) (ps : List (Int × Int)) : List (Int32 × Nat) := ps.map (fun q => (Int32.ofInt q.1, ((pc : Int) + q.2).toNat))
def bm_k {ρ : Type} (S : am_S) (rt : Option FieldType) (r : am_Row) (L : am_Lo) (st : List Value) (σ : bm_S) (K : Nat → am_Lo → List Value → bm_S → Option ρ) (E : Option Value → Option ρ) (C : Nat → List Value → List Value → Option ρ) : Option ρ :=
  match r with
  | (pc, _, i, a, b, c) =>
    match i with
    | .return_ => match rt, st with
      | none, [] => E none
      | _, _ => none
    | .ireturn => match rt, st with
      | some .int, [.int v] => E (some (.int v))
      | some .boolean, [.int v] => if v = 0 ∨ v = 1 then E (some (.int v)) else none
      | some ty, [.int v] => if narrow ty (.int v) = .int v then E (some (.int v)) else none
      | _, _ => none
    | .lreturn => match rt, st with
      | some .long, [.long v] => E (some (.long v))
      | _, _ => none
    | .areturn => match rt, st with
      | some (.object _), [v] => if bm_isr v = true then E (some v) else none
      | _, _ => none
    | .invokestatic _ => if b = 8 then (match st with
        | .int n :: .int dp :: .ref kd :: .int sp :: .ref ks :: rest => if bm_tag ks = 0 ∧ bm_tag kd = 0 ∧ ¬ sp < 0 ∧ ¬ dp < 0 ∧ ¬ n < 0 ∧ sp.toNatClampNeg + n.toNatClampNeg ≤ bm_len ks ∧ dp.toNatClampNeg + n.toNatClampNeg ≤ bm_len kd then (if am_cat rest ≤ 8 then K (pc + 3) L rest (bm_row σ kd (va_cpy (σ.1 ks) (σ.1 kd) sp.toNatClampNeg dp.toNatClampNeg n.toNatClampNeg)) else none) else none
        | _ => none)
      else if (b = 0 ∨ b = 3) ∧ c.toNat % 1000 ≤ st.length ∧ am_cat (st.drop (c.toNat % 1000)) ≤ 8 then C a (st.take (c.toNat % 1000)).reverse (st.drop (c.toNat % 1000)) else none
    | .invokevirtual _ => if (b = 1 ∨ b = 4) ∧ c.toNat % 1000 ≤ st.length then (match st.drop (c.toNat % 1000) with
      | .ref k :: rest => if bm_tag k = 100 + c.toNat / 1000 then (if am_cat rest ≤ 8 then C a (.ref k :: (st.take (c.toNat % 1000)).reverse) rest else none) else none
      | .retAddr k :: rest => if b = 1 ∧ c.toNat / 1000 = 100 ∧ k % 2 = 0 ∧ k < 8 ∧ am_cat rest ≤ 8 then C a (.retAddr k :: (st.take (c.toNat % 1000)).reverse) rest else none
      | _ => none) else none
    | .idiv => match st with
      | .int y :: .int x :: q => if y = 0 then none else K (pc + 1) L (.int (x / y) :: q) σ
      | _ => none
    | .irem => match st with
      | .int y :: .int x :: q => if y = 0 then none else K (pc + 1) L (.int (am_rem x y) :: q) σ
      | _ => none
    | .ldiv => match st with
      | .long y :: .long x :: q => if y = 0 then none else K (pc + 1) L (.long (x / y) :: q) σ
      | _ => none
    | .lrem => match st with
      | .long y :: .long x :: q => if y = 0 then none else K (pc + 1) L (.long (x - x / y * y) :: q) σ
      | _ => none
    | .tableswitch df lo hi offs => match st with
      | .int x :: q => if (-2147483648 ≤ lo ∧ hi ≤ 2147483647 ∧ lo + offs.toList.length = hi + 1 ∧ 0 ≤ (pc : Int) + df) ∧ offs.toList.all (fun o => decide (0 ≤ (pc : Int) + o)) = true then K (bm_ch (bm_tab pc lo offs.toList) ((pc : Int) + df).toNat x) L q σ else none
      | _ => none
    | .lookupswitch df ps => match st with
      | .int x :: q => if (ps.toList.zip (ps.toList.drop 1)).all (fun (a, next) => a.1 < next.1) = true ∧ ps.toList.all (fun p => decide (-2147483648 ≤ p.1) && decide (p.1 ≤ 2147483647) && decide (0 ≤ (pc : Int) + p.2)) = true ∧ 0 ≤ (pc : Int) + df then K (bm_ch (bm_lk pc ps.toList) ((pc : Int) + df).toNat x) L q σ else none
      | _ => none
    | .getfield _ => match st with
      | .retAddr k :: rest => if a = 100 ∧ k % 2 = 0 ∧ k < 8 then (if b = 0 then K (pc + 3) L (.retAddr (k + 1) :: rest) σ else if b = 1 then K (pc + 3) L (.int 0 :: rest) σ else none) else none
      | .ref k :: rest => if a = 100 then none else if bm_tag k = 100 + a then (if bm_fk a b = 0 then K (pc + 3) L (.int (σ.1 k b) :: rest) σ else if bm_fk a b = 1 then K (pc + 3) L (.long (σ.2 k b) :: rest) σ else if bm_fk a b = 2 then K (pc + 3) L (bm_rf a k b :: rest) σ else none) else none
      | _ => none
    | .putfield _ => match st with
      | .int x :: .ref k :: rest => if a = 100 then none else if bm_tag k = 100 + a then (if bm_fk a b = 0 then (if (am_cn a).2.2.2 b = .int then K (pc + 3) L rest (bm_wi σ k b x) else if (am_cn a).2.2.2 b = .boolean then (if x = 0 ∨ x = 1 then K (pc + 3) L rest (bm_wi σ k b x) else none) else none) else none) else none
      | .long x :: .ref k :: rest => if a = 100 then none else if bm_tag k = 100 + a then (if bm_fk a b = 1 then (if (am_cn a).2.2.2 b = .long then K (pc + 3) L rest (bm_wl σ k b x) else none) else none) else none
      | _ => none
    | .getstatic _ => if a = 0 then K (pc + 3) L (.int 1 :: st) σ else if a = 1 then K (pc + 3) L (.retAddr 1001 :: st) σ else none
    | .arraylength => match st with
      | .retAddr k :: rest => if k = 1000 then K (pc + 1) L (.int (Int32.ofNat S.1) :: rest) σ else if k % 2 = 1 ∧ k < 8 then K (pc + 1) L (.int (Int32.ofNat (am_len (k / 2))) :: rest) σ else none
      | .ref k :: rest => if bm_tag k < 7 then K (pc + 1) L (.int (Int32.ofNat (bm_len k)) :: rest) σ else none
      | _ => none
    | .iaload => match st with
      | .int j :: .retAddr k :: rest => if k = 1000 then (if ¬ (j < 0 ∨ S.1 ≤ j.toNatClampNeg) then K (pc + 1) L (.int (S.2 j.toNatClampNeg) :: rest) σ else none) else none
      | .int j :: .ref k :: rest => if bm_tag k = 0 then (if ¬ (j < 0 ∨ bm_len k ≤ j.toNatClampNeg) then K (pc + 1) L (.int (σ.1 k j.toNatClampNeg) :: rest) σ else none) else none
      | _ => none
    | .baload => match st with
      | .int j :: .retAddr k :: rest => if k % 2 = 1 ∧ k < 8 then (if ¬ (j < 0 ∨ am_len (k / 2) ≤ j.toNatClampNeg) then K (pc + 1) L (.int (am_byt (k / 2) j.toNatClampNeg) :: rest) σ else none) else none
      | .int j :: .ref k :: rest => if bm_tag k = 1 ∨ bm_tag k = 3 then (if ¬ (j < 0 ∨ bm_len k ≤ j.toNatClampNeg) then K (pc + 1) L (.int (σ.1 k j.toNatClampNeg) :: rest) σ else none) else none
      | _ => none
    | .laload => match st with
      | .int j :: .ref k :: rest => if bm_tag k = 2 then (if ¬ (j < 0 ∨ bm_len k ≤ j.toNatClampNeg) then K (pc + 1) L (.long (σ.2 k j.toNatClampNeg) :: rest) σ else none) else none
      | _ => none
    | .aaload => match st with
      | .int j :: .ref k :: rest => if bm_tag k = 4 ∨ bm_tag k = 5 ∨ bm_tag k = 6 then (if ¬ (j < 0 ∨ bm_len k ≤ j.toNatClampNeg) then K (pc + 1) L (am_rf (bm_rfa k j.toNatClampNeg) :: rest) σ else none) else none
      | _ => none
    | .iastore => match st with
      | .int x :: .int j :: .ref k :: rest => if bm_tag k = 0 then (if ¬ (j < 0 ∨ bm_len k ≤ j.toNatClampNeg) then K (pc + 1) L rest (bm_wi σ k j.toNatClampNeg x) else none) else none
      | _ => none
    | .bastore => match st with
      | .int x :: .int j :: .ref k :: rest => if bm_tag k = 1 then (if ¬ (j < 0 ∨ bm_len k ≤ j.toNatClampNeg) then K (pc + 1) L rest (bm_wi σ k j.toNatClampNeg x.toInt8.toInt32) else none) else if bm_tag k = 3 then (if ¬ (j < 0 ∨ bm_len k ≤ j.toNatClampNeg) then K (pc + 1) L rest (bm_wi σ k j.toNatClampNeg (vp_nar .boolean x)) else none) else none
      | _ => none
    | .lastore => match st with
      | .long x :: .int j :: .ref k :: rest => if bm_tag k = 2 then (if ¬ (j < 0 ∨ bm_len k ≤ j.toNatClampNeg) then K (pc + 1) L rest (bm_wl σ k j.toNatClampNeg x) else none) else none
      | _ => none
    | .bipush n => if -128 ≤ n ∧ n < 128 then K (pc + 2) L (.int (Int32.ofInt n) :: st) σ else none
    | .sipush n => if -32768 ≤ n ∧ n < 32768 then K (pc + 3) L (.int (Int32.ofInt n) :: st) σ else none
    | .invokespecial _ => none
    | .new _ => none
    | .newarray _ => none
    | .anewarray _ => none
    | .aastore => none
    | _ => match am_pure r L st with
      | some (pc1, L1, st1) => K pc1 L1 st1 σ
      | none => none
def bm_ex (S : am_S) : Nat → Nat → Nat → Nat → am_Lo → List Value → bm_S → bm_R
  | 0, _, _, _, _, _, _ => none
  | n + 1, d, m, pc, L, st, σ => match am_fetch m pc with
    | none => none
    | some r => bm_k S (am_rt m) r L st σ (fun pc1 L1 st1 σ1 => bm_ex S n d m pc1 L1 st1 σ1) (fun v => some (v, σ)) (fun m1 As rest => match d with
      | 0 => none
      | d1 + 1 => if (am_sl As).length ≤ am_ml m1 then (match bm_ex S n d1 m1 0 (am_in m1 As) [] σ with
        | none => none
        | some (v, σ1) => bm_ex S n (d1 + 1) m (pc + 3) L (v.toList ++ rest) σ1) else none)
abbrev bm_Q : Type := (Nat × am_Lo × List Value × bm_S) ⊕ (Option Value ⊕ (Nat × List Value × List Value))
def bm_st (S : am_S) (rt : Option FieldType) (r : am_Row) (L : am_Lo) (st : List Value) (σ : bm_S) : Option bm_Q := bm_k S rt r L st σ (fun a b c d => some (.inl (a, b, c, d))) (fun v => some (.inr (.inl v))) (fun m As rest => some (.inr (.inr (m, As, rest))))
def bm_dis {ρ : Type} (K : Nat → am_Lo → List Value → bm_S → Option ρ) (E : Option Value → Option ρ) (C : Nat → List Value → List Value → Option ρ) : bm_Q → Option ρ
  | .inl (a, b, c, d) => K a b c d
  | .inr (.inl v) => E v
  | .inr (.inr (m, As, rest)) => C m As rest
set_option maxHeartbeats 4000000 in
theorem bm_k_nat {ρ : Type} (S : am_S) (rt : Option FieldType) (r : am_Row) (L : am_Lo) (st : List Value) (σ : bm_S) (K : Nat → am_Lo → List Value → bm_S → Option ρ) (E : Option Value → Option ρ) (C : Nat → List Value → List Value → Option ρ) : bm_k S rt r L st σ K E C = (bm_st S rt r L st σ).bind (bm_dis K E C) := by
  obtain ⟨pc, len, i, a, b, cv⟩ := r
  unfold bm_st bm_k
  cases i <;> simp only [] <;> (repeat' split) <;> (try rfl) <;> simp_all [bm_dis]
