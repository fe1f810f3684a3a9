/-! what words of the tables a row needs, and what else must hold of it -/
def am_cm (a : Nat) : Cond := .code (am_kd a).1 (am_kd a).2.1 (am_kd a).2.2.1 (am_kd a).2.2.2.1
def am_T (a b : Nat) : String × String × String × Bool := (am_cn a).2.1 b
def am_ccn (ci : Nat) : String := if ci = 100 then "java/lang/String" else (am_cn ci).1
def am_need (own : String) (r : am_Row) : List Cond := match r with
  | (_, _, i, a, b, c) => match i with
    | .getfield k => if a = 100 then [if b = 0 then .fieldLink own k "java/lang/String" "value" "[B" else .fieldLink own k "java/lang/String" "coder" "B"] else [.fieldLink own k (am_T a b).1 (am_T a b).2.1 (am_T a b).2.2.1]
    | .putfield k => [.fieldLink own k (am_T a b).1 (am_T a b).2.1 (am_T a b).2.2.1]
    | .getstatic k => if a = 0 then [.fieldLink own k "java/lang/String" "COMPACT_STRINGS" "Z"] else [.fieldLink own k "jdk/internal/util/Preconditions" "SIOOBE_FORMATTER" "Ljava/util/function/BiFunction;"]
    | .ldc k => if a = 0 then [.constant own k (Int32.ofInt c)] else []
    | .ldc_w k => if a = 0 then [.constant own k (Int32.ofInt c)] else []
    | .ldc2_w k => [.constantLong own k (Int64.ofInt c)]
    | .invokestatic k => if b = 0 then [.methodLink own k (am_kd a).1, .static (am_kd a).1, .initialized (am_kd a).1.cls, am_cm a] else if b = 3 then [.methodLinkNest own k (am_kd a).1 "NextFair", .static (am_kd a).1, .initialized (am_kd a).1.cls, am_cm a] else if b = 8 then [.methodLink own k arraycopyName, .native arraycopyName, .static arraycopyName, .initialized "java/lang/System"] else []
    | .invokevirtual k => if b = 1 then [.methodLink own k (am_kd a).1, .instanceMethod (am_kd a).1, .selects (am_kd a).1.cls (am_kd a).1 (am_kd a).1, .initialized (am_kd a).1.cls, am_cm a] else if b = 4 then [.methodLinkNest own k (am_kd a).1 "NextFair", .instanceMethod (am_kd a).1, .selects (am_kd a).1.cls (am_kd a).1 (am_kd a).1, .initialized (am_kd a).1.cls, am_cm a] else []
    | .invokespecial k => if b = 2 then [.methodLink own k (am_kd a).1, .instanceMethod (am_kd a).1, .initialized (am_kd a).1.cls, am_cm a] else if b = 5 then [.methodLinkNest own k (am_kd a).1 "NextFair", .instanceMethod (am_kd a).1, .initialized (am_kd a).1.cls, am_cm a] else if b = 9 then [.methodLink own k objectInit, .instanceMethod objectInit, .code objectInit ⟨#[0xb1]⟩ 1 none] else []
    | .new k => if a < 13 then [.classLink own k (am_cn a).1, .instantiable (am_cn a).1 (am_cn a).2.2.1, .initialized (am_cn a).1] else []
    | .newarray t => [.arrayClass (newarray.typeOf t)]
    | .anewarray k => [.classLink own k (am_cn (am_oty a)).1, .arrayOver (.object (am_cn (am_oty a)).1)]
    | _ => []
def am_aty (t : Nat) : FieldType := if t = 0 then .int else if t = 1 then .byte else if t = 2 then .long else .boolean
def am_ln (i : Instr) (len : Nat) : Nat := match i with
  | .bipush _ => 2
  | .sipush _ => 3
  | .ldc _ => 2
  | .ldc_w _ => 3
  | .ldc2_w _ => 3
  | .iload _ => 2
  | .lload _ => 2
  | .aload _ => 2
  | .istore _ => 2
  | .lstore _ => 2
  | .astore _ => 2
  | .iinc _ _ => 3
  | .ifCond _ _ => 3
  | .if_icmp _ _ => 3
  | .goto _ => 3
  | .ifnull _ => 3
  | .ifnonnull _ => 3
  | .tableswitch _ _ _ _ => len
  | .lookupswitch _ _ => len
  | .getfield _ => 3
  | .putfield _ => 3
  | .getstatic _ => 3
  | .invokestatic _ => 3
  | .invokevirtual _ => 3
  | .invokespecial _ => 3
  | .new _ => 3
  | .newarray _ => 2
  | .anewarray _ => 3
  | _ => 1
def am_goodM (a : Nat) (c : Int) : Bool := decide (a < 305) && decide ((am_kd a).1.cls ≠ "java/lang/invoke/MethodHandle") && decide ((am_kd a).1.cls ≠ "java/lang/invoke/VarHandle") && decide ((parseMethodDescriptor (am_kd a).1.desc).map (fun d => d.parameters.length) = some (c.toNat % 1000))
def am_side (x : MethodName) (r : am_Row) : Bool := match r with
  | (_, len, i, a, b, c) => decide (len = am_ln i len) && (match i with
    | .getfield _ => decide (a = 100) || (decide (a < 13) && decide (b < (am_cn a).2.2.1))
    | .putfield _ => decide (a < 13) && decide (b < (am_cn a).2.2.1) && ((decide (c = 0) && decide ((am_T a b).2.2.2 = false)) || (decide (c = 1) && decide ((am_T a b).2.2.2 = true) && decide (x.name = "<init>") && decide ((am_T a b).1 = x.cls)))
    | .invokestatic _ => if b = 0 ∨ b = 3 then am_goodM a c else true
    | .invokevirtual _ => if b = 1 ∨ b = 4 then am_goodM a c && decide ((am_kd a).1.cls = am_ccn (c.toNat / 1000)) && decide (c.toNat / 1000 < 13 ∨ c.toNat / 1000 = 100) else true
    | .invokespecial _ => if b = 2 ∨ b = 5 then am_goodM a c && decide ((am_kd a).1.name = "<init>") && decide ((am_kd a).2.2.2.1 = none) else true
    | .newarray t => decide (a < 4) && decide (newarray.typeOf t = am_aty a)
    | .ldc k => if a = 1 then decide ((x.cls, k, b) ∈ [("NextFair$Reader", 118, 0), ("NextFair$Reader", 130, 1), ("NextFairModel", 86, 2), ("NextFairModel", 124, 3)]) else true
    | _ => true)
def am_wk (x : MethodName) (h : List Nat) (t : List am_Row) : Bool := decide ((t.flatMap (am_need x.cls)).map some = h.map (fun i => lw_tbl[i]?)) && t.all (am_side x)
theorem am_wk_spec {x : MethodName} {h : List Nat} {t : List am_Row} (hw : am_wk x h t = true) : ∀ r ∈ t, (∀ w ∈ am_need x.cls r, w ∈ lw_tbl) ∧ am_side x r = true := by
  intro r hr
  unfold am_wk at hw
  simp only [Bool.and_eq_true, decide_eq_true_eq] at hw
  refine ⟨fun w hw1 => ?_, List.all_eq_true.mp hw.2 r hr⟩
  have h1 : some w ∈ (t.flatMap (am_need x.cls)).map some := List.mem_map.mpr ⟨w, List.mem_flatMap.mpr ⟨r, hr, hw1⟩, rfl⟩
  rw [hw.1] at h1
  obtain ⟨i, -, hi⟩ := List.mem_map.mp h1
  exact List.mem_of_getElem? hi
theorem am_wk_app {P : am_Row → Prop} {a b : List am_Row} (ha : ∀ r ∈ a, P r) (hb : ∀ r ∈ b, P r) : ∀ r ∈ a ++ b, P r := fun r h => (List.mem_append.mp h).elim (ha r) (hb r)
def am_WS (x : MethodName) (t : List am_Row) : Prop := ∀ r ∈ t, (∀ w ∈ am_need x.cls r, w ∈ lw_tbl) ∧ am_side x r = true
