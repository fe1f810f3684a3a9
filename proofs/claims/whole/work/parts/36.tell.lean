/-! laws: how a code is reckoned -/
def clp (v : Int64) : Int32 := if v ≤ 1000000 then (if Int64.ofInt (-1000000) ≤ v then v.toInt32 else (Int64.ofInt (-1000000)).toInt32) else (1000000 : Int64).toInt32
def btw (c a b : Int32) : Int32 := if c = 3003 then (if a = b then 1 else 0) else if c = 3004 then (if a < b then 1 else 0) else if c = 3005 then (if b < a then 1 else 0) else if c = 3007 then a &&& b else if c = 3008 then a ||| b else if c = 3000 then clp (a.toInt64 + b.toInt64) else if c = 3001 then clp (a.toInt64 - b.toInt64) else clp (a.toInt64 * b.toInt64)
def trI (c : Int32) : Int32 := if c < 1000 then c else if c = 1000 then -1 else if c = 1001 then -2 else if c = 1002 then -3 else if c = 1003 then -3 else if c = 1004 then -4 else if c = 1005 then -5 else if c = 3000 then -10 else if c = 3001 then -11 else if c = 3002 then -12 else if c = 3003 then -13 else if c = 3004 then -14 else if c = 3005 then -15 else if c = 3006 then -6 else if c = 3007 then -16 else -17
def isJ (c : Int32) : Prop := c = 3000 ∨ c = 3001 ∨ c = 3002 ∨ c = 3003 ∨ c = 3004 ∨ c = 3005 ∨ c = 3007 ∨ c = 3008
theorem year_eq (a b : Int32) : (a.toInt64 / b.toInt64).toInt32 = a / b := by
  apply Int32.toInt_inj.mp
  rw [Int64.toInt_toInt32, Int64.toInt_div, Int32.toInt_div, Int32.toInt_toInt64, Int32.toInt_toInt64, Int.bmod_bmod_of_dvd (by decide)]
section TELL
variable {S : am_S} {d : Nat} {σ : bm_S}
theorem clp_min (v : Int64) : (if Int64.ofInt (-1000000) < (if v < 1000000 then v else 1000000) then (if v < 1000000 then v else 1000000) else Int64.ofInt (-1000000)).toInt32 = clp v := by
  have q1 : (1000000 : Int64).toInt = 1000000 := by decide +kernel
  have q2 : (Int64.ofInt (-1000000)).toInt = -1000000 := by decide +kernel
  unfold clp
  by_cases h : v < 1000000
  · have h1 : v ≤ 1000000 := Int64.le_of_lt h
    simp only [h, h1, if_true]
    by_cases h2 : Int64.ofInt (-1000000) < v
    · rw [if_pos h2, if_pos (Int64.le_of_lt h2)]
    · rw [if_neg h2]
      by_cases h3 : Int64.ofInt (-1000000) ≤ v
      · rw [if_pos h3, Int64.le_antisymm h3 (Int64.not_lt.mp h2)]
      · rw [if_neg h3]
  · have h0 : Int64.ofInt (-1000000) < 1000000 := by decide
    simp only [h, if_false, h0, if_true]
    by_cases h1 : v ≤ 1000000
    · have h2 : v = 1000000 := Int64.le_antisymm h1 (Int64.not_lt.mp h)
      subst h2
      rfl
    · rw [if_neg h1]
theorem c9 {c : Int32} (hc : isJ c) (a b : Int32) : bm_call S (d + 1) 9 [.int (trI c), .int a, .int b] σ = some (some (.int (btw c a b)), σ) := by
  rcases hc with rfl | rfl | rfl | rfl | rfl | rfl | rfl | rfl
  · simp (decide := true) only [trI, e9, g9_0, g9_44, g9_53, g9_62, g9_71, g9_76, g9_80, g9_81, g9_82, g9_87, g9_91, g9_92, g9_93, g9_98, g9_102, g9_103, g9_104, g9_108, g9_112, g9_122, g9_125, bm_run_ite, Option.toList_some, Option.bind_some, Option.toList_some, Option.toList_none, List.cons_append, List.nil_append, List.append_nil, eq_self, not_true_eq_false, not_false_eq_true, ite_true, ite_false, ↓reduceIte, Nat.reduceLT, Nat.reduceEqDiff, Nat.reduceAdd, or_true, true_or, or_false, false_or, c292, c290, clp_min]; rfl
  · simp (decide := true) only [trI, e9, g9_0, g9_44, g9_53, g9_62, g9_71, g9_76, g9_80, g9_81, g9_82, g9_87, g9_91, g9_92, g9_93, g9_98, g9_102, g9_103, g9_104, g9_108, g9_112, g9_122, g9_125, bm_run_ite, Option.toList_some, Option.bind_some, Option.toList_some, Option.toList_none, List.cons_append, List.nil_append, List.append_nil, eq_self, not_true_eq_false, not_false_eq_true, ite_true, ite_false, ↓reduceIte, Nat.reduceLT, Nat.reduceEqDiff, Nat.reduceAdd, or_true, true_or, or_false, false_or, c292, c290, clp_min]; rfl
  · simp (decide := true) only [trI, e9, g9_0, g9_44, g9_53, g9_62, g9_71, g9_76, g9_80, g9_81, g9_82, g9_87, g9_91, g9_92, g9_93, g9_98, g9_102, g9_103, g9_104, g9_108, g9_112, g9_122, g9_125, bm_run_ite, Option.toList_some, Option.bind_some, Option.toList_some, Option.toList_none, List.cons_append, List.nil_append, List.append_nil, eq_self, not_true_eq_false, not_false_eq_true, ite_true, ite_false, ↓reduceIte, Nat.reduceLT, Nat.reduceEqDiff, Nat.reduceAdd, or_true, true_or, or_false, false_or, c292, c290, clp_min]; rfl
  · simp (decide := true) only [trI, btw, e9, g9_0, g9_44, g9_53, g9_62, g9_71, g9_76, g9_80, g9_81, g9_82, g9_87, g9_91, g9_92, g9_93, g9_98, g9_102, g9_103, g9_104, g9_108, g9_112, g9_122, g9_125, bm_run_ite, Option.toList_some, Option.bind_some, Option.toList_some, Option.toList_none, List.cons_append, List.nil_append, List.append_nil, eq_self, not_true_eq_false, not_false_eq_true, ite_true, ite_false, ↓reduceIte, Nat.reduceLT, Nat.reduceEqDiff, Nat.reduceAdd, or_true, true_or, or_false, false_or]
    by_cases q : a = b <;> simp [q]
  · simp (decide := true) only [trI, btw, e9, g9_0, g9_44, g9_53, g9_62, g9_71, g9_76, g9_80, g9_81, g9_82, g9_87, g9_91, g9_92, g9_93, g9_98, g9_102, g9_103, g9_104, g9_108, g9_112, g9_122, g9_125, bm_run_ite, Option.toList_some, Option.bind_some, Option.toList_some, Option.toList_none, List.cons_append, List.nil_append, List.append_nil, eq_self, not_true_eq_false, not_false_eq_true, ite_true, ite_false, ↓reduceIte, Nat.reduceLT, Nat.reduceEqDiff, Nat.reduceAdd, or_true, true_or, or_false, false_or]
    by_cases q : a < b
    · simp [q, Int32.not_le.mpr q]
    · simp [q, Int32.not_lt.mp q]
  · simp (decide := true) only [trI, btw, e9, g9_0, g9_44, g9_53, g9_62, g9_71, g9_76, g9_80, g9_81, g9_82, g9_87, g9_91, g9_92, g9_93, g9_98, g9_102, g9_103, g9_104, g9_108, g9_112, g9_122, g9_125, bm_run_ite, Option.toList_some, Option.bind_some, Option.toList_some, Option.toList_none, List.cons_append, List.nil_append, List.append_nil, eq_self, not_true_eq_false, not_false_eq_true, ite_true, ite_false, ↓reduceIte, Nat.reduceLT, Nat.reduceEqDiff, Nat.reduceAdd, or_true, true_or, or_false, false_or]
    by_cases q : b < a
    · simp [q, Int32.not_le.mpr q]
    · simp [q, Int32.not_lt.mp q]
  · simp (decide := true) only [trI, btw, e9, g9_0, g9_44, g9_53, g9_62, g9_71, g9_76, g9_80, g9_81, g9_82, g9_87, g9_91, g9_92, g9_93, g9_98, g9_102, g9_103, g9_104, g9_108, g9_112, g9_122, g9_125, bm_run_ite, Option.toList_some, Option.bind_some, Option.toList_some, Option.toList_none, List.cons_append, List.nil_append, List.append_nil, eq_self, not_true_eq_false, not_false_eq_true, ite_true, ite_false, ↓reduceIte, Nat.reduceLT, Nat.reduceEqDiff, Nat.reduceAdd, or_true, true_or, or_false, false_or]
  · simp (decide := true) only [trI, btw, e9, g9_0, g9_44, g9_53, g9_62, g9_71, g9_76, g9_80, g9_81, g9_82, g9_87, g9_91, g9_92, g9_93, g9_98, g9_102, g9_103, g9_104, g9_108, g9_112, g9_122, g9_125, bm_run_ite, Option.toList_some, Option.bind_some, Option.toList_some, Option.toList_none, List.cons_append, List.nil_append, List.append_nil, eq_self, not_true_eq_false, not_false_eq_true, ite_true, ite_false, ↓reduceIte, Nat.reduceLT, Nat.reduceEqDiff, Nat.reduceAdd, or_true, true_or, or_false, false_or]
theorem lg_clp (v : Int64) : (if lg_cmp v 1000000 ≤ 0 then (if 0 ≤ lg_cmp v (Int64.ofInt (-1000000)) then some (some (Value.int v.toInt32), σ) else some (some (Value.int (Int64.ofInt (-1000000)).toInt32), σ)) else some (some (Value.int (1000000 : Int64).toInt32), σ)) = some (some (Value.int (clp v)), σ) := by
  have e1 : lg_cmp v 1000000 ≤ 0 ↔ v ≤ 1000000 := by
    rw [← Int32.not_lt, ← Int64.not_lt, lg_gt0]
  have e2 : 0 ≤ lg_cmp v (Int64.ofInt (-1000000)) ↔ Int64.ofInt (-1000000) ≤ v := by
    rw [← Int32.not_lt, ← Int64.not_lt, lg_lt0]
  unfold clp
  simp only [e1, e2]
  by_cases h1 : v ≤ 1000000
  · by_cases h2 : Int64.ofInt (-1000000) ≤ v <;> simp only [h1, h2, if_true, if_false]
  · simp only [h1, if_false]
theorem m198 {c : Int32} (hc : isJ c) (a b : Int32) : bm_call S d 198 [.int c, .int a, .int b] σ = some (some (.int (btw c a b)), σ) := by
  rcases hc with rfl | rfl | rfl | rfl | rfl | rfl | rfl | rfl
  · simp (decide := true) only [btw, e198, g198_0, g198_40, g198_45, g198_49, g198_50, g198_51, g198_56, g198_60, g198_61, g198_62, g198_67, g198_71, g198_72, g198_73, g198_77, g198_81, g198_88, g198_96, g198_103, g198_111, g198_116, g198_125, g198_131, g198_139, g198_145, g198_146, bm_run_ite, Option.toList_some, Option.bind_some, Option.toList_some, Option.toList_none, List.cons_append, List.nil_append, List.append_nil, eq_self, not_true_eq_false, not_false_eq_true, ite_true, ite_false, ↓reduceIte, Nat.reduceLT, Nat.reduceEqDiff, Nat.reduceAdd, or_true, true_or, or_false, false_or]; exact lg_clp _
  · simp (decide := true) only [btw, e198, g198_0, g198_40, g198_45, g198_49, g198_50, g198_51, g198_56, g198_60, g198_61, g198_62, g198_67, g198_71, g198_72, g198_73, g198_77, g198_81, g198_88, g198_96, g198_103, g198_111, g198_116, g198_125, g198_131, g198_139, g198_145, g198_146, bm_run_ite, Option.toList_some, Option.bind_some, Option.toList_some, Option.toList_none, List.cons_append, List.nil_append, List.append_nil, eq_self, not_true_eq_false, not_false_eq_true, ite_true, ite_false, ↓reduceIte, Nat.reduceLT, Nat.reduceEqDiff, Nat.reduceAdd, or_true, true_or, or_false, false_or]; exact lg_clp _
  · simp (decide := true) only [btw, e198, g198_0, g198_40, g198_45, g198_49, g198_50, g198_51, g198_56, g198_60, g198_61, g198_62, g198_67, g198_71, g198_72, g198_73, g198_77, g198_81, g198_88, g198_96, g198_103, g198_111, g198_116, g198_125, g198_131, g198_139, g198_145, g198_146, bm_run_ite, Option.toList_some, Option.bind_some, Option.toList_some, Option.toList_none, List.cons_append, List.nil_append, List.append_nil, eq_self, not_true_eq_false, not_false_eq_true, ite_true, ite_false, ↓reduceIte, Nat.reduceLT, Nat.reduceEqDiff, Nat.reduceAdd, or_true, true_or, or_false, false_or]; exact lg_clp _
  · simp (decide := true) only [btw, e198, g198_0, g198_40, g198_45, g198_49, g198_50, g198_51, g198_56, g198_60, g198_61, g198_62, g198_67, g198_71, g198_72, g198_73, g198_77, g198_81, g198_88, g198_96, g198_103, g198_111, g198_116, g198_125, g198_131, g198_139, g198_145, g198_146, bm_run_ite, Option.toList_some, Option.bind_some, Option.toList_some, Option.toList_none, List.cons_append, List.nil_append, List.append_nil, eq_self, not_true_eq_false, not_false_eq_true, ite_true, ite_false, ↓reduceIte, Nat.reduceLT, Nat.reduceEqDiff, Nat.reduceAdd, or_true, true_or, or_false, false_or]
    by_cases q : a = b <;> simp [q]
  · simp (decide := true) only [btw, e198, g198_0, g198_40, g198_45, g198_49, g198_50, g198_51, g198_56, g198_60, g198_61, g198_62, g198_67, g198_71, g198_72, g198_73, g198_77, g198_81, g198_88, g198_96, g198_103, g198_111, g198_116, g198_125, g198_131, g198_139, g198_145, g198_146, bm_run_ite, Option.toList_some, Option.bind_some, Option.toList_some, Option.toList_none, List.cons_append, List.nil_append, List.append_nil, eq_self, not_true_eq_false, not_false_eq_true, ite_true, ite_false, ↓reduceIte, Nat.reduceLT, Nat.reduceEqDiff, Nat.reduceAdd, or_true, true_or, or_false, false_or]
    by_cases q : a < b
    · simp [q, Int32.not_le.mpr q]
    · simp [q, Int32.not_lt.mp q]
  · simp (decide := true) only [btw, e198, g198_0, g198_40, g198_45, g198_49, g198_50, g198_51, g198_56, g198_60, g198_61, g198_62, g198_67, g198_71, g198_72, g198_73, g198_77, g198_81, g198_88, g198_96, g198_103, g198_111, g198_116, g198_125, g198_131, g198_139, g198_145, g198_146, bm_run_ite, Option.toList_some, Option.bind_some, Option.toList_some, Option.toList_none, List.cons_append, List.nil_append, List.append_nil, eq_self, not_true_eq_false, not_false_eq_true, ite_true, ite_false, ↓reduceIte, Nat.reduceLT, Nat.reduceEqDiff, Nat.reduceAdd, or_true, true_or, or_false, false_or]
    by_cases q : b < a
    · simp [q, Int32.not_le.mpr q]
    · simp [q, Int32.not_lt.mp q]
  · simp (decide := true) only [btw, e198, g198_0, g198_40, g198_45, g198_49, g198_50, g198_51, g198_56, g198_60, g198_61, g198_62, g198_67, g198_71, g198_72, g198_73, g198_77, g198_81, g198_88, g198_96, g198_103, g198_111, g198_116, g198_125, g198_131, g198_139, g198_145, g198_146, bm_run_ite, Option.toList_some, Option.bind_some, Option.toList_some, Option.toList_none, List.cons_append, List.nil_append, List.append_nil, eq_self, not_true_eq_false, not_false_eq_true, ite_true, ite_false, ↓reduceIte, Nat.reduceLT, Nat.reduceEqDiff, Nat.reduceAdd, or_true, true_or, or_false, false_or]
  · simp (decide := true) only [btw, e198, g198_0, g198_40, g198_45, g198_49, g198_50, g198_51, g198_56, g198_60, g198_61, g198_62, g198_67, g198_71, g198_72, g198_73, g198_77, g198_81, g198_88, g198_96, g198_103, g198_111, g198_116, g198_125, g198_131, g198_139, g198_145, g198_146, bm_run_ite, Option.toList_some, Option.bind_some, Option.toList_some, Option.toList_none, List.cons_append, List.nil_append, List.append_nil, eq_self, not_true_eq_false, not_false_eq_true, ite_true, ite_false, ↓reduceIte, Nat.reduceLT, Nat.reduceEqDiff, Nat.reduceAdd, or_true, true_or, or_false, false_or]
end TELL
