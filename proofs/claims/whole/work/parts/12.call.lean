/-! calls, returns, and the walk of a whole method -/
theorem am_need_good (own : String) (r : am_Row) : ∀ w ∈ am_need own r, goodWord w = true ∨ am_isN w = true := by
  obtain ⟨pc, len, i, a, b, cv⟩ := r
  have h : (am_need own (pc, len, i, a, b, cv)).all (fun w => goodWord w || am_isN w) = true := by
    unfold am_need am_cm
    cases i <;> (try rfl) <;> (repeat' split) <;> first | rfl | (simp only [List.all_cons, List.all_nil]; (repeat' split) <;> rfl)
  intro w hw
  have := List.all_eq_true.mp h w hw
  simpa using this
theorem am_mem_mono {S : am_S} {r : am_Row} {L L1 : am_Lo} {st st1 : List Value} {M M1 : am_M} {pc1 : Nat} (h : am_mem S r L st M = some (pc1, L1, st1, M1)) : M.length ≤ M1.length ∧ am_sz M ≤ am_sz M1 ∧ L1 = L := by
  obtain ⟨pc, len, i, a, b, cv⟩ := r
  have hs : ∀ {k : Nat} {c0 c1 : am_C}, M[k]? = some c0 → am_cs c0 = am_cs c1 → M.length ≤ (M.set k c1).length ∧ am_sz M ≤ am_sz (M.set k c1) := fun h1 h2 => ⟨by rw [List.length_set]; exact Nat.le_refl _, by rw [am_sz_set h1 h2]; exact Nat.le_refl _⟩
  unfold am_mem at h
  cases i <;> simp only at h <;> (repeat' split at h) <;> first
    | (cases h; done)
    | (cases h; exact ⟨Nat.le_refl _, Nat.le_refl _, rfl⟩)
    | (cases h; exact ⟨by rw [List.length_append]; omega, by rw [am_sz_app]; omega, rfl⟩)
    | (cases h; rename_i hm _; exact ⟨(hs hm (by simp [am_cs])).1, (hs hm (by simp [am_cs])).2, rfl⟩)
    | (cases h; rename_i hm _ _; exact ⟨(hs hm (by simp [am_cs])).1, (hs hm (by simp [am_cs])).2, rfl⟩)
    | (cases h; rename_i hm _ _ _; exact ⟨(hs hm (by simp [am_cs])).1, (hs hm (by simp [am_cs])).2, rfl⟩)
theorem am_ex_mono {S : am_S} : ∀ {n d m pc : Nat} {L : am_Lo} {st : List Value} {M M1 : am_M} {v : Option Value}, am_ex (am_mem S) am_isO n d m pc L st M = some (v, M1) → M.length ≤ M1.length ∧ am_sz M ≤ am_sz M1 := by
  intro n
  induction n with
  | zero => intro d m pc L st M M1 v h; cases h
  | succ n ih =>
    intro d m pc L st M M1 v h
    rw [am_ex] at h
    split at h
    · cases h
    · next r hr =>
      split at h
      · cases h
      · next pc1 L1 st1 M2 hs =>
        have h2 := ih h
        have h1 : M.length ≤ M2.length ∧ am_sz M ≤ am_sz M2 := by
          unfold am_step at hs
          split at hs
          · cases hs
          · split at hs
            · cases hs
            · split at hs
              · cases hs; exact ⟨Nat.le_refl _, Nat.le_refl _⟩
              · obtain ⟨q, hq, he⟩ := Option.map_eq_some_iff.mp hs
                cases he
                have := am_mem_mono hq
                exact ⟨this.1, this.2.1⟩
        exact ⟨Nat.le_trans h1.1 h2.1, Nat.le_trans h1.2 h2.2⟩
      · cases h; exact ⟨Nat.le_refl _, Nat.le_refl _⟩
      · split at h
        · cases h
        · split at h
          · split at h
            · cases h
            · next v2 M2 h1 =>
              have h3 := ih h1
              have h2 := ih h
              exact ⟨Nat.le_trans h3.1 h2.1, Nat.le_trans h3.2 h2.2⟩
          · cases h
theorem am_sl_map {X : am_X} (hF : am_hF X) (As : List Value) : lg_sl (As.map (am_tv X)) = (am_sl As).map (fun o => match o with | some v => Slot.val (am_tv X v) | none => Slot.second) := by
  induction As with
  | nil => rfl
  | cons v r ih =>
    have e : lg_sl (am_tv X v :: r.map (am_tv X)) = (if (am_tv X v).category = 2 then [Slot.val (am_tv X v), .second] else [Slot.val (am_tv X v)]) ++ lg_sl (r.map (am_tv X)) := by simp [lg_sl]
    have e2 : am_sl (v :: r) = if v.category = 2 then some v :: none :: am_sl r else some v :: am_sl r := rfl
    rw [List.map_cons, e, ih, am_tv_cat hF, e2]
    by_cases h : v.category = 2
    · simp [h]
    · simp [h]
theorem am_in_LR {X : am_X} (hF : am_hF X) {As : List Value} {m : Nat} (h : (am_sl As).length ≤ am_ml m) : am_LR X (am_in m As) ((lg_sl (As.map (am_tv X)) ++ List.replicate (am_ml m - (lg_sl (As.map (am_tv X))).length) Slot.unset).toArray) (am_ml m) := by
  have hlen : (lg_sl (As.map (am_tv X))).length = (am_sl As).length := by rw [am_sl_map hF, List.length_map]
  have h1 := lv_entry (As.map (am_tv X)) (n := am_ml m) (by rw [hlen]; exact h)
  refine ⟨h1.1, ?_, h1.2.1, fun i v hv => ?_⟩
  · unfold am_in
    rw [List.length_append, List.length_replicate]
    omega
  · unfold am_in at hv
    rw [List.getElem?_append] at hv
    split at hv
    · next hi =>
      simp only [List.getElem?_toArray]
      rw [List.getElem?_append_left (by rw [hlen]; exact hi), am_sl_map hF, List.getElem?_map, hv]
      rfl
    · rw [List.getElem?_replicate] at hv
      split at hv <;> cases hv
def am_Pc (X : am_X) (As : List Value) (M : am_M) : Array Value → State → Prop := fun v U => v = (As.map (am_tv X)).toArray ∧ U.heap.size = xh X + M.length ∧ va_P (xD X) am_vcl (am_ws X M) U.heap ∧ am_K X U U.heap
def am_Qc (X : am_X) (r : Option Value) (M : am_M) : Array Value → State → Outcome → State → Prop := fun _ st oc t => oc = .returned (r.map (am_tv X)) ∧ t.heap.size = xh X + M.length ∧ va_P (xD X) am_vcl (am_ws X M) t.heap ∧ va_F (am_A X) st t
theorem am_Pc_blind (X : am_X) (As : List Value) (M : am_M) : FrameBlind (am_Pc X As M) := fun a U g mk q => ⟨q.1, q.2.1, q.2.2.1, am_K.same (U := U.calling g mk a) q.2.2.2 rfl⟩
def am_rm (d mc ms : Nat) : Room := { frames := d + 1, cells := mc, slots := ms, locals := 60 * (d + 1) }
def am_Pd (X : am_X) (l : Launch) (d : Nat) : Prop := ∀ (n m : Nat) (As : List Value) (M : am_M) (r : Option Value) (M1 : am_M), m < 308 → (am_sl As).length ≤ am_ml m → am_ex (am_mem (xS X)) am_isO n d m 0 (am_in m As) [] M = some (r, M1) →
  Met l (am_kd m).1 (am_cm m :: am_gd) (am_rm d (M1.length - M.length) (am_sz M1 - am_sz M)) (am_Pc X As M) (am_Qc X r M1) (M1.length - M.length) (am_sz M1 - am_sz M) (am_A X)
section AMC
variable {p : Program} {l : Launch} {e : Env} {R : Room} {s : State} {m : MethodId} {args : Array Value} {below : List Frame} {meth : Method} {c : Code} {H : Heap} {locs : List Loc} {cells slots : Nat} {Q : State → Prop} {X : am_X} {cc : ByteArray} {x : MethodName} {M M1 : am_M} {ls : Array Slot} {pc : Nat} {rest : List Value}
theorem am_after {a : Array Value} {r : Option Value} {mc ms : Nat} {st0 : List Value} (hr : va_Run p l e R s m args below meth c H locs cells slots mc ms (F0 m pc ls st0) rest (am_Qc X r M1 a) (am_A X)) (hS : va_S (am_A X) s.heap H locs)
    (kk : ∀ (H1 : Heap) (locs1 : List Loc), va_P (xD X) am_vcl (am_ws X M1) H1 → H1.size = xh X + M1.length → va_S (am_A X) s.heap H1 locs1 → W p l e R s m args below meth c H1 locs1 (cells + mc) (slots + ms) Q (F0 m (pc + 3) ls ((r.map (am_tv X)).toList ++ rest))) : W p l e R s m args below meth c H locs cells slots Q (F0 m pc ls st0) := by
  intro T hT X1
  obtain ⟨v, st₀, t, T', L, h0, X', hL, e1, e2, ⟨hv, hz, hP, hF⟩, st⟩ := hr T hT X1
  cases hv
  obtain ⟨hz1, hk⟩ := hF
  rw [h0] at hz1 hk
  obtain ⟨t2, a1, b1⟩ := kk T'.heap (locs ++ L) (by rw [e1]; exact hP) (by rw [e1]; exact hz) ⟨Nat.le_trans hS.1 (by rw [e1]; exact hz1), fun q h1 h2 => by rw [e1, hk q (Nat.lt_of_lt_of_le h1 hS.1) h2]; exact hS.2.1 q h1 h2, fun q hq => by
      rcases List.mem_append.mp hq with h | h
      · exact hS.2.2 q h
      · exact hL q h⟩ T' rfl X'
  exact ⟨t2, st t2 a1, b1⟩
theorem am_ret_ok {Qc : Array Value → State → Outcome → State → Prop} {free : Addr → Prop} {rt : Option FieldType} {i : Instr} {st : List Value} {r : Option Value} (hx : p.tables.exec = Jvm.exec) (hb : c.code = cc) (hr : meth.sig.returnType = rt) (hlocks : meth.locks = false) (hdec : decode cc pc = .ok (i, 1)) (h : am_end rt i st = some r)
    (hq : ∀ t : State, t.heap = H → s.WarmedH t.vm → Qc args s (.returned (r.map (am_tv X))) t) (hf : ∀ q ∈ locs, free q.base) : W p l e R s m args below meth c H locs cells slots (MQ below Qc args s cells slots free) (F0 m pc ls (st.map (am_tv X))) := by
  unfold am_end at h
  split at h
  · split at h
    · cases h; exact W.vret hx hb hr hq hf hdec hlocks
    · cases h
  · split at h
    · split at h
      · next hn => cases h; exact W.zret hx hb hr hn hq hf hdec hlocks
      · cases h
    · cases h
  · split at h
    · cases h; exact W.lret hx hb hr hq hf hdec hlocks
    · cases h
  · split at h
    · cases h; exact W.aret hx hb hr (Or.inl ⟨_, rfl⟩) (Or.inr ⟨_, rfl⟩) hq hf hdec hlocks
    · cases h; exact W.aret hx hb hr (Or.inl ⟨_, rfl⟩) (Or.inl rfl) hq hf hdec hlocks
    · cases h
  · cases h
end AMC
