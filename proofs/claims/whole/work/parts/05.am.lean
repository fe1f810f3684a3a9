/-! THE SMALL MACHINE: the class's instructions over a plain memory. A reference is the number of its cell; .retAddr k stands for a constant text (2i), its bytes (2i+1), the script (1000), a formatter that is never called (1001). -/
abbrev am_Lo : Type := List (Option Value)
abbrev am_C : Type := (Nat × vp_A) ⊕ (Nat × List Value)
abbrev am_M : Type := List am_C
abbrev am_PS : Type := Nat × am_Lo × List Value
abbrev am_S : Type := Nat × (Nat → Int32)
def am_kd (m : Nat) : am_Meth := am_ms.getD m am_m0
def am_tb (m : Nat) : List am_Row := am_ts.getD m []
def am_fetch (m pc : Nat) : Option am_Row := (am_tb m).find? (fun r => r.1 == pc)
def am_rt (m : Nat) : Option FieldType := (am_kd m).2.2.2.1
def am_ml (m : Nat) : Nat := (am_kd m).2.2.1
/-- the bytes of the constant texts -/
def am_tx (i : Nat) : String := ([";:+-*()[]=<>", " fairs moneys merchant letter to of at late worth time fair year money who cash short not and or ", " fairs moneys merchant letter to of at late worth time fair year money who cash short and or not ", ";:+-*()[]=<>"] : List String).getD i ""
def am_by : List (List Int32) := [[59, 58, 43, 45, 42, 40, 41, 91, 93, 61, 60, 62],
 [32, 102, 97, 105, 114, 115, 32, 109, 111, 110, 101, 121, 115, 32, 109, 101, 114, 99, 104, 97, 110, 116, 32, 108, 101, 116, 116, 101, 114, 32, 116, 111, 32, 111, 102, 32, 97, 116, 32, 108, 97, 116, 101, 32, 119, 111, 114, 116, 104, 32, 116, 105, 109, 101, 32, 102, 97, 105, 114, 32, 121, 101, 97, 114, 32, 109, 111, 110, 101, 121, 32, 119, 104, 111, 32, 99, 97, 115, 104, 32, 115, 104, 111, 114, 116, 32, 110, 111, 116, 32, 97, 110, 100, 32, 111, 114, 32],
 [32, 102, 97, 105, 114, 115, 32, 109, 111, 110, 101, 121, 115, 32, 109, 101, 114, 99, 104, 97, 110, 116, 32, 108, 101, 116, 116, 101, 114, 32, 116, 111, 32, 111, 102, 32, 97, 116, 32, 108, 97, 116, 101, 32, 119, 111, 114, 116, 104, 32, 116, 105, 109, 101, 32, 102, 97, 105, 114, 32, 121, 101, 97, 114, 32, 109, 111, 110, 101, 121, 32, 119, 104, 111, 32, 99, 97, 115, 104, 32, 115, 104, 111, 114, 116, 32, 97, 110, 100, 32, 111, 114, 32, 110, 111, 116, 32],
 [59, 58, 43, 45, 42, 40, 41, 91, 93, 61, 60, 62]]
def am_len (i : Nat) : Nat := (am_by.getD i []).length
def am_byt (i : Nat) (j : Nat) : Int32 := (am_by.getD i []).getD j 0
def am_clr : Option Value → Option Value
  | some (.long _) => none
  | some (.double _) => none
  | o => o
def am_st1 : am_Lo → Nat → Value → am_Lo
  | [], _, _ => []
  | _ :: t, 0, v => some v :: t
  | o :: t, 1, v => am_clr o :: am_st1 t 0 v
  | o :: t, n + 2, v => o :: am_st1 t (n + 1) v
def am_st2 : am_Lo → Nat → Value → am_Lo
  | [], _, _ => []
  | _ :: t, 0, v => some v :: (match t with | [] => [] | _ :: u => none :: u)
  | o :: t, 1, v => am_clr o :: am_st2 t 0 v
  | o :: t, n + 2, v => o :: am_st2 t (n + 1) v
def am_cat (st : List Value) : Nat := (st.map fun v => v.category).sum
def am_ldI (L : am_Lo) (k n pc : Nat) (st : List Value) : Option am_PS := match L[k]? with
  | some (some (.int x)) => some (pc + n, L, .int x :: st)
  | _ => none
def am_ldL (L : am_Lo) (k n pc : Nat) (st : List Value) : Option am_PS := match L[k]? with
  | some (some (.long x)) => some (pc + n, L, .long x :: st)
  | _ => none
def am_ldA (L : am_Lo) (k n pc : Nat) (st : List Value) : Option am_PS := match L[k]? with
  | some (some (.ref x)) => some (pc + n, L, .ref x :: st)
  | some (some .null) => some (pc + n, L, .null :: st)
  | some (some (.retAddr x)) => some (pc + n, L, .retAddr x :: st)
  | _ => none
def am_sI (L : am_Lo) (k n pc : Nat) (st : List Value) : Option am_PS := match st with
  | .int x :: r => if k < L.length then some (pc + n, am_st1 L k (.int x), r) else none
  | _ => none
def am_sL (L : am_Lo) (k n pc : Nat) (st : List Value) : Option am_PS := match st with
  | .long x :: r => if k + 1 < L.length then some (pc + n, am_st2 L k (.long x), r) else none
  | _ => none
def am_sA (L : am_Lo) (k n pc : Nat) (st : List Value) : Option am_PS := match st with
  | .ref x :: r => if k < L.length then some (pc + n, am_st1 L k (.ref x), r) else none
  | .null :: r => if k < L.length then some (pc + n, am_st1 L k .null, r) else none
  | .retAddr x :: r => if k < L.length then some (pc + n, am_st1 L k (.retAddr x), r) else none
  | _ => none
def am_b (f : Int32 → Int32 → Int32) (L : am_Lo) (pc : Nat) (st : List Value) : Option am_PS := match st with
  | .int y :: .int x :: r => some (pc + 1, L, .int (f x y) :: r)
  | _ => none
def am_bl (f : Int64 → Int64 → Int64) (L : am_Lo) (pc : Nat) (st : List Value) : Option am_PS := match st with
  | .long y :: .long x :: r => some (pc + 1, L, .long (f x y) :: r)
  | _ => none
def am_u (f : Int32 → Int32) (L : am_Lo) (pc : Nat) (st : List Value) : Option am_PS := match st with
  | .int x :: r => some (pc + 1, L, .int (f x) :: r)
  | _ => none
def am_rem (x y : Int32) : Int32 := x - x / y * y
def am_ush (x y : Int32) : Int32 := (x.toUInt32 >>> (y.toUInt32 &&& Int32.toUInt32 31)).toInt32
def am_off (pc : Nat) (off : Int) : Option Nat := if 0 ≤ (pc : Int) + off then some ((pc : Int) + off).toNat else none
/-- the instructions that touch no memory, call nothing and end nothing -/
def am_pure (r : am_Row) (L : am_Lo) (st : List Value) : Option am_PS :=
  match r with
  | (pc, _, i, a, b, c) =>
    match i with
    | .aconst_null => some (pc + 1, L, .null :: st)
    | .iconst n => some (pc + 1, L, .int (Int32.ofInt n) :: st)
    | .bipush n => some (pc + 2, L, .int (Int8.ofInt n).toInt32 :: st)
    | .sipush n => some (pc + 3, L, .int (Int16.ofInt n).toInt32 :: st)
    | .lconst n => some (pc + 1, L, .long (Int64.ofNat (n : Nat)) :: st)
    | .ldc _ => if a = 0 then some (pc + 2, L, .int (Int32.ofInt c) :: st) else if a = 1 then some (pc + 2, L, .retAddr (2 * b) :: st) else none
    | .ldc_w _ => if a = 0 then some (pc + 3, L, .int (Int32.ofInt c) :: st) else none
    | .ldc2_w _ => some (pc + 3, L, .long (Int64.ofInt c) :: st)
    | .iload k => am_ldI L k 2 pc st
    | .iload_n k => am_ldI L k 1 pc st
    | .lload k => am_ldL L k 2 pc st
    | .lload_n k => am_ldL L k 1 pc st
    | .aload k => am_ldA L k 2 pc st
    | .aload_n k => am_ldA L k 1 pc st
    | .istore k => am_sI L k 2 pc st
    | .istore_n k => am_sI L k 1 pc st
    | .lstore k => am_sL L k 2 pc st
    | .lstore_n k => am_sL L k 1 pc st
    | .astore k => am_sA L k 2 pc st
    | .astore_n k => am_sA L k 1 pc st
    | .iinc k n => match L[k]? with
      | some (some (.int x)) => some (pc + 3, am_st1 L k (.int (x + Int32.ofInt n)), st)
      | _ => none
    | .pop => match st with
      | .int _ :: r => some (pc + 1, L, r)
      | _ => none
    | .pop2 => match st with
      | .long _ :: r => some (pc + 1, L, r)
      | _ => none
    | .dup => match st with
      | .int x :: r => some (pc + 1, L, .int x :: .int x :: r)
      | .ref x :: r => some (pc + 1, L, .ref x :: .ref x :: r)
      | _ => none
    | .dup2 => match st with
      | .int x :: .int y :: r => some (pc + 1, L, .int x :: .int y :: .int x :: .int y :: r)
      | .int x :: .ref y :: r => some (pc + 1, L, .int x :: .ref y :: .int x :: .ref y :: r)
      | .long x :: r => some (pc + 1, L, .long x :: .long x :: r)
      | _ => none
    | .iadd => am_b (fun x y => x + y) L pc st
    | .isub => am_b (fun x y => x - y) L pc st
    | .imul => am_b (fun x y => x * y) L pc st
    | .iand => am_b (fun x y => x &&& y) L pc st
    | .ior => am_b (fun x y => x ||| y) L pc st
    | .ixor => am_b (fun x y => x ^^^ y) L pc st
    | .ishl => am_b (fun x y => x <<< (y &&& 31)) L pc st
    | .ishr => am_b (fun x y => x >>> (y &&& 31)) L pc st
    | .iushr => am_b am_ush L pc st
    | .idiv => match st with
      | .int y :: .int x :: r => if y = 0 then none else some (pc + 1, L, .int (x / y) :: r)
      | _ => none
    | .irem => match st with
      | .int y :: .int x :: r => if y = 0 then none else some (pc + 1, L, .int (am_rem x y) :: r)
      | _ => none
    | .ladd => am_bl (fun x y => x + y) L pc st
    | .lsub => am_bl (fun x y => x - y) L pc st
    | .lmul => am_bl (fun x y => x * y) L pc st
    | .land => am_bl (fun x y => x &&& y) L pc st
    | .lor => am_bl (fun x y => x ||| y) L pc st
    | .ldiv => match st with
      | .long y :: .long x :: r => if y = 0 then none else some (pc + 1, L, .long (x / y) :: r)
      | _ => none
    | .lshl => match st with
      | .int y :: .long x :: r => some (pc + 1, L, .long (x <<< (y.toInt64 &&& 63)) :: r)
      | _ => none
    | .lshr => match st with
      | .int y :: .long x :: r => some (pc + 1, L, .long (x >>> (y.toInt64 &&& 63)) :: r)
      | _ => none
    | .lrem => match st with
      | .long y :: .long x :: r => if y = 0 then none else some (pc + 1, L, .long (x - x / y * y) :: r)
      | _ => none
    | .ineg => am_u (fun x => -x) L pc st
    | .i2b => am_u (fun x => x.toInt8.toInt32) L pc st
    | .i2s => am_u (fun x => x.toInt16.toInt32) L pc st
    | .i2c => am_u (fun x => (x.toUInt32 % 65536).toInt32) L pc st
    | .i2l => match st with
      | .int x :: r => some (pc + 1, L, .long x.toInt64 :: r)
      | _ => none
    | .l2i => match st with
      | .long x :: r => some (pc + 1, L, .int x.toInt32 :: r)
      | _ => none
    | .lcmp => match st with
      | .long y :: .long x :: r => some (pc + 1, L, .int (lg_cmp x y) :: r)
      | _ => none
    | .ifCond cd off => if (pc : Int) + off = (a : Int) then (match st with
      | .int x :: r => (match cd with
        | .eq => some (if x = 0 then a else pc + 3, L, r)
        | .ne => some (if ¬ x = 0 then a else pc + 3, L, r)
        | .lt => some (if x < 0 then a else pc + 3, L, r)
        | .ge => some (if 0 ≤ x then a else pc + 3, L, r)
        | .gt => some (if 0 < x then a else pc + 3, L, r)
        | .le => some (if x ≤ 0 then a else pc + 3, L, r))
      | _ => none) else none
    | .if_icmp cd off => if (pc : Int) + off = (a : Int) then (match st with
      | .int y :: .int x :: r => (match cd with
        | .eq => some (if x = y then a else pc + 3, L, r)
        | .ne => some (if ¬ x = y then a else pc + 3, L, r)
        | .lt => some (if x < y then a else pc + 3, L, r)
        | .ge => some (if y ≤ x then a else pc + 3, L, r)
        | .gt => some (if y < x then a else pc + 3, L, r)
        | .le => some (if x ≤ y then a else pc + 3, L, r))
      | _ => none) else none
    | .goto off => if (pc : Int) + off = (a : Int) then some (a, L, st) else none
    | .ifnull off => if (pc : Int) + off = (a : Int) then (match st with
      | .null :: r => some (a, L, r)
      | .ref _ :: r => some (pc + 3, L, r)
      | _ => none) else none
    | .ifnonnull off => if (pc : Int) + off = (a : Int) then (match st with
      | .null :: r => some (pc + 3, L, r)
      | .ref _ :: r => some (a, L, r)
      | _ => none) else none
    | .tableswitch df lo hi offs => match st with
      | .int x :: r => if x.toInt < lo ∨ hi < x.toInt then (am_off pc df).map (fun t => (t, L, r)) else (match offs[(x.toInt - lo).toNat]? with
        | some off => (am_off pc off).map (fun t => (t, L, r))
        | none => none)
      | _ => none
    | .lookupswitch df ps => match st with
      | .int x :: r => if (ps.toList.zip (ps.toList.drop 1)).all (fun (a, next) => a.1 < next.1) = true then (am_off pc (Op.lookupswitch.offset ps.toList df x.toInt)).map (fun t => (t, L, r)) else none
      | _ => none
    | .invokespecial _ => if b = 9 then (match st with
      | .ref _ :: r => if am_cat r ≤ 8 then some (pc + 3, L, r) else none
      | _ => none) else none
    | _ => none
/-- an end: the answer -/
def am_end (rt : Option FieldType) (i : Instr) (st : List Value) : Option (Option Value) :=
  match i with
  | .return_ => match rt, st with
    | none, [] => some none
    | _, _ => none
  | .ireturn => match rt, st with
    | some ty, [.int v] => if narrow ty (.int v) = .int v then some (some (.int v)) else none
    | _, _ => none
  | .lreturn => match rt, st with
    | some .long, [.long v] => some (some (.long v))
    | _, _ => none
  | .areturn => match rt, st with
    | some (.object _), [.ref k] => some (some (.ref k))
    | some (.object _), [.null] => some (some .null)
    | _, _ => none
  | _ => none
/-- a call: the callee, its arguments, what is left -/
def am_call {Mem : Type} (isO : Mem → Nat → Nat → Bool) (r : am_Row) (st : List Value) (M : Mem) : Option (Nat × List Value × List Value) :=
  match r with
  | (_, _, i, a, b, c) =>
    match i with
    | .invokestatic _ => if (b = 0 ∨ b = 3) ∧ c.toNat % 1000 ≤ st.length ∧ am_cat (st.drop (c.toNat % 1000)) ≤ 8 then some (a, (st.take (c.toNat % 1000)).reverse, st.drop (c.toNat % 1000)) else none
    | .invokevirtual _ => if (b = 1 ∨ b = 4) ∧ c.toNat % 1000 ≤ st.length then (match st.drop (c.toNat % 1000) with
      | .ref k :: rest => if isO M k (c.toNat / 1000) = true ∧ am_cat rest ≤ 8 then some (a, .ref k :: (st.take (c.toNat % 1000)).reverse, rest) else none
      | .retAddr k :: rest => if b = 1 ∧ c.toNat / 1000 = 100 ∧ k % 2 = 0 ∧ k < 8 ∧ am_cat rest ≤ 8 then some (a, .retAddr k :: (st.take (c.toNat % 1000)).reverse, rest) else none
      | _ => none) else none
    | .invokespecial _ => if (b = 2 ∨ b = 5) ∧ c.toNat % 1000 ≤ st.length then (match st.drop (c.toNat % 1000) with
      | .ref k :: rest => if isO M k (c.toNat / 1000) = true ∧ am_cat rest ≤ 8 then some (a, .ref k :: (st.take (c.toNat % 1000)).reverse, rest) else none
      | _ => none) else none
    | _ => none
abbrev am_Mem (Mem : Type) : Type := am_Row → am_Lo → List Value → Mem → Option (Nat × am_Lo × List Value × Mem)
abbrev am_Res (Mem : Type) : Type := Option ((Nat × am_Lo × List Value × Mem) ⊕ (Option Value ⊕ (Nat × List Value × List Value)))
def am_step {Mem : Type} (mem : am_Mem Mem) (isO : Mem → Nat → Nat → Bool) (rt : Option FieldType) (r : am_Row) (L : am_Lo) (st : List Value) (M : Mem) : am_Res Mem :=
  match am_end rt r.2.2.1 st with
  | some v => some (.inr (.inl v))
  | none => match am_call isO r st M with
    | some q => some (.inr (.inr q))
    | none => match am_pure r L st with
      | some (pc, L1, st1) => some (.inl (pc, L1, st1, M))
      | none => (mem r L st M).map .inl
/-- arguments as locals -/
def am_sl : List Value → am_Lo
  | [] => []
  | v :: r => if v.category = 2 then some v :: none :: am_sl r else some v :: am_sl r
def am_in (m : Nat) (As : List Value) : am_Lo := am_sl As ++ List.replicate (am_ml m - (am_sl As).length) none
def am_ex {Mem : Type} (mem : am_Mem Mem) (isO : Mem → Nat → Nat → Bool) : Nat → Nat → Nat → Nat → am_Lo → List Value → Mem → Option (Option Value × Mem)
  | 0, _, _, _, _, _, _ => none
  | n + 1, d, m, pc, L, st, M => match am_fetch m pc with
    | none => none
    | some r => match am_step mem isO (am_rt m) r L st M with
      | none => none
      | some (.inl (pc1, L1, st1, M1)) => am_ex mem isO n d m pc1 L1 st1 M1
      | some (.inr (.inl v)) => some (v, M)
      | some (.inr (.inr (m1, As, rest))) => match d with
        | 0 => none
        | d1 + 1 => if (am_sl As).length ≤ am_ml m1 then (match am_ex mem isO n d1 m1 0 (am_in m1 As) [] M with
          | none => none
          | some (v, M1) => am_ex mem isO n (d1 + 1) m (pc + 3) L (v.toList ++ rest) M1) else none
/-- the memory as a list of cells -/
def am_oty (t : Nat) : Nat := if t = 4 then 10 else if t = 5 then 4 else if t = 6 then 9 else 99
def am_rf : Option Nat → Value
  | some k => .ref k
  | none => .null
def am_cl : List (String × u_T × Nat × (Nat → FieldType)) := [(RX0, TX0, 10, tyX0), (RX1, TX1, 2, tyX1), (RX2, TX2, 7, tyX2), (RX3, TX3, 3, tyX3), (RX4, TX4, 3, tyX4), (RX5, TX5, 4, tyX5), (RX6, TX6, 3, tyX6), (RX7, TX7, 12, tyX7), (RX8, TX8, 5, tyX8), (RX9, TX9, 3, tyX9), (RX10, TX10, 14, tyX10), (RX11, TX11, 16, tyX11), (RX12, TX12, 38, tyX12)]
def am_cn (ci : Nat) : String × u_T × Nat × (Nat → FieldType) := am_cl.getD ci ("", TX0, 0, tyX0)
def am_df (ci : Nat) : List Value := (List.range (am_cn ci).2.2.1).map (fun k => defaultValue ((am_cn ci).2.2.2 k))
def am_isO (M : am_M) (k ci : Nat) : Bool := match M[k]? with
  | some (.inr (cj, _)) => cj == ci
  | _ => false
def am_zero (t : Nat) (n : Nat) : am_C := if t = 2 then .inl (t, (n, .inr (.inl (fun _ => 0)))) else .inl (t, (n, .inl (fun _ => 0)))
def am_mem (S : am_S) : am_Mem am_M := fun r L st M =>
  match r with
  | (pc, _, i, a, b, c) =>
    match i with
    | .getfield _ => match st with
      | .retAddr k :: rest => if a = 100 ∧ k % 2 = 0 ∧ k < 8 then (if b = 0 then some (pc + 3, L, .retAddr (k + 1) :: rest, M) else if b = 1 then some (pc + 3, L, .int 0 :: rest, M) else none) else none
      | .ref k :: rest => if a = 100 then none else (match M[k]? with
        | some (.inr (ci, fs)) => if ci = a then (match fs[b]? with
          | some v => some (pc + 3, L, v :: rest, M)
          | none => none) else none
        | _ => none)
      | _ => none
    | .putfield _ => match st with
      | v :: .ref k :: rest => if a = 100 then none else (match M[k]? with
        | some (.inr (ci, fs)) => if ci = a ∧ b < fs.length ∧ narrow ((am_cn a).2.2.2 b) v = v ∧ fits ((am_cn a).2.2.2 b) v = true then some (pc + 3, L, rest, M.set k (.inr (ci, fs.set b v))) else none
        | _ => none)
      | _ => none
    | .getstatic _ => if a = 0 then some (pc + 3, L, .int 1 :: st, M) else if a = 1 then some (pc + 3, L, .retAddr 1001 :: st, M) else none
    | .arraylength => match st with
      | .retAddr k :: rest => if k = 1000 then some (pc + 1, L, .int (Int32.ofNat S.1) :: rest, M) else if k % 2 = 1 ∧ k < 8 then some (pc + 1, L, .int (Int32.ofNat (am_len (k / 2))) :: rest, M) else none
      | .ref k :: rest => match M[k]? with
        | some (.inl (t, (n, _))) => if t < 7 then some (pc + 1, L, .int (Int32.ofNat n) :: rest, M) else none
        | _ => none
      | _ => none
    | .iaload => match st with
      | .int j :: .retAddr k :: rest => if k = 1000 ∧ ¬ (j < 0 ∨ S.1 ≤ j.toNatClampNeg) then some (pc + 1, L, .int (S.2 j.toNatClampNeg) :: rest, M) else none
      | .int j :: .ref k :: rest => match M[k]? with
        | some (.inl (t, (n, .inl f))) => if t = 0 ∧ ¬ (j < 0 ∨ n ≤ j.toNatClampNeg) then some (pc + 1, L, .int (f j.toNatClampNeg) :: rest, M) else none
        | _ => none
      | _ => none
    | .baload => match st with
      | .int j :: .retAddr k :: rest => if k % 2 = 1 ∧ k < 8 ∧ ¬ (j < 0 ∨ am_len (k / 2) ≤ j.toNatClampNeg) then some (pc + 1, L, .int (am_byt (k / 2) j.toNatClampNeg) :: rest, M) else none
      | .int j :: .ref k :: rest => match M[k]? with
        | some (.inl (t, (n, .inl f))) => if (t = 1 ∨ t = 3) ∧ ¬ (j < 0 ∨ n ≤ j.toNatClampNeg) then some (pc + 1, L, .int (f j.toNatClampNeg) :: rest, M) else none
        | _ => none
      | _ => none
    | .laload => match st with
      | .int j :: .ref k :: rest => match M[k]? with
        | some (.inl (t, (n, .inr (.inl f)))) => if t = 2 ∧ ¬ (j < 0 ∨ n ≤ j.toNatClampNeg) then some (pc + 1, L, .long (f j.toNatClampNeg) :: rest, M) else none
        | _ => none
      | _ => none
    | .aaload => match st with
      | .int j :: .ref k :: rest => match M[k]? with
        | some (.inl (t, (n, .inr (.inr (.inr (.inr f)))))) => if (t = 4 ∨ t = 5 ∨ t = 6) ∧ ¬ (j < 0 ∨ n ≤ j.toNatClampNeg) then some (pc + 1, L, am_rf (f j.toNatClampNeg) :: rest, M) else none
        | _ => none
      | _ => none
    | .iastore => match st with
      | .int x :: .int j :: .ref k :: rest => match M[k]? with
        | some (.inl (t, (n, .inl f))) => if t = 0 ∧ ¬ (j < 0 ∨ n ≤ j.toNatClampNeg) then some (pc + 1, L, rest, M.set k (.inl (t, (n, .inl (upd f j.toNatClampNeg x))))) else none
        | _ => none
      | _ => none
    | .bastore => match st with
      | .int x :: .int j :: .ref k :: rest => match M[k]? with
        | some (.inl (t, (n, .inl f))) => if ¬ (j < 0 ∨ n ≤ j.toNatClampNeg) then (if t = 1 then some (pc + 1, L, rest, M.set k (.inl (t, (n, .inl (upd f j.toNatClampNeg (vp_nar .byte x)))))) else if t = 3 then some (pc + 1, L, rest, M.set k (.inl (t, (n, .inl (upd f j.toNatClampNeg (vp_nar .boolean x)))))) else none) else none
        | _ => none
      | _ => none
    | .lastore => match st with
      | .long x :: .int j :: .ref k :: rest => match M[k]? with
        | some (.inl (t, (n, .inr (.inl f)))) => if t = 2 ∧ ¬ (j < 0 ∨ n ≤ j.toNatClampNeg) then some (pc + 1, L, rest, M.set k (.inl (t, (n, .inr (.inl (vp_updL f j.toNatClampNeg x)))))) else none
        | _ => none
      | _ => none
    | .aastore => match st with
      | .ref v :: .int j :: .ref k :: rest => match M[k]? with
        | some (.inl (t, (n, .inr (.inr (.inr (.inr f)))))) => if (t = 4 ∨ t = 5 ∨ t = 6) ∧ ¬ (j < 0 ∨ n ≤ j.toNatClampNeg) ∧ am_isO M v (am_oty t) = true then some (pc + 1, L, rest, M.set k (.inl (t, (n, .inr (.inr (.inr (.inr (va_up f j.toNatClampNeg (some v))))))))) else none
        | _ => none
      | _ => none
    | .newarray _ => match st with
      | .int n :: rest => if a < 4 ∧ ¬ n < 0 ∧ n.toNatClampNeg * 8 ≤ 536870912 then some (pc + 2, L, .ref M.length :: rest, M ++ [am_zero a n.toNatClampNeg]) else none
      | _ => none
    | .anewarray _ => match st with
      | .int n :: rest => if (a = 4 ∨ a = 5 ∨ a = 6) ∧ ¬ n < 0 ∧ n.toNatClampNeg * 4 ≤ 536870912 then some (pc + 3, L, .ref M.length :: rest, M ++ [.inl (a, (n.toNatClampNeg, .inr (.inr (.inr (.inr (fun _ => none))))))]) else none
      | _ => none
    | .new _ => if a < 13 then some (pc + 3, L, .ref M.length :: st, M ++ [.inr (a, am_df a)]) else none
    | .invokestatic _ => if b = 8 then (match st with
      | .int n :: .int dp :: .ref kd :: .int sp :: .ref ks :: rest => match M[ks]?, M[kd]? with
        | some (.inl (t0, (n0, .inl f))), some (.inl (t1, (n1, .inl g))) => if t0 = 0 ∧ t1 = 0 ∧ ¬ sp < 0 ∧ ¬ dp < 0 ∧ ¬ n < 0 ∧ sp.toNatClampNeg + n.toNatClampNeg ≤ n0 ∧ dp.toNatClampNeg + n.toNatClampNeg ≤ n1 ∧ am_cat rest ≤ 8 then some (pc + 3, L, rest, M.set kd (.inl (t1, (n1, .inl (va_cpy f g sp.toNatClampNeg dp.toNatClampNeg n.toNatClampNeg))))) else none
        | _, _ => none
      | _ => none) else none
    | _ => none
