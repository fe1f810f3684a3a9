/-! each instruction that touches the memory -/
section AMN
variable {p : Program} {l : Launch} {e : Env} {R : Room} {s : State} {m : MethodId} {args : Array Value} {below : List Frame} {meth : Method} {c : Code} {H : Heap} {locs : List Loc} {cells slots : Nat} {Q : State → Prop} {X : am_X} {cc : ByteArray} {x : MethodName} {M M1 : am_M} {ls : Array Slot} {pc : Nat} {rest : List Value}
theorem am_copy_ok (hx : p.tables.exec = Jvm.exec) (hb : c.code = cc) (hml : c.maxLocals = ls.size) {own : String} {index : Nat} (hown : s.vm.findClass own = some m.cls) (hlink : (Cond.methodLink own index arraycopyName).before args s = true) (hnat : (Cond.native arraycopyName).before args s = true) (hstat : (Cond.static arraycopyName).before args s = true) (hini : (Cond.initialized "java/lang/System").before args s = true)
    (hK : va_K (xD X) am_vcl (am_tys X) s) (hP : va_P (xD X) am_vcl (am_ws X M) H) (hz : H.size = xh X + M.length) (hS : va_S (am_A X) s.heap H locs) {ks kd n0 n1 : Nat} {f g : Nat → Int32} (ha0 : M[ks]? = some (.inl (0, (n0, .inl f)))) (ha1 : M[kd]? = some (.inl (0, (n1, .inl g))))
    {sp dp n : Int32} (h1 : ¬ sp < 0) (h2 : ¬ dp < 0) (h3 : ¬ n < 0) (h4 : sp.toNatClampNeg + n.toNatClampNeg ≤ n0) (h5 : dp.toNatClampNeg + n.toNatClampNeg ≤ n1)
    (hframes : 1 ≤ R.frames) (hlocals : (rest.map fun v => v.category).sum + (nativeFrameWords "java/lang/System" "arraycopy" 5 + 11) ≤ R.locals) (hdg : decode cc pc = .ok (.invokestatic index, 3))
    (kk : ∀ (H1 : Heap) (locs1 : List Loc), va_P (xD X) am_vcl (am_ws X (M.set kd (.inl (0, (n1, .inl (va_cpy f g sp.toNatClampNeg dp.toNatClampNeg n.toNatClampNeg)))))) H1 → H1.size = xh X + (M.set kd (.inl (0, (n1, .inl (va_cpy f g sp.toNatClampNeg dp.toNatClampNeg n.toNatClampNeg))))).length → va_S (am_A X) s.heap H1 locs1 → W p l e R s m args below meth c H1 locs1 cells slots Q (F0 m (pc + 3) ls rest)) : W p l e R s m args below meth c H locs cells slots Q (F0 m pc ls (.int n :: .int dp :: .ref (xh X + kd) :: .int sp :: .ref (xh X + ks) :: rest)) := by
  have nn : ∀ z : Int32, ¬ z < 0 → z.toInt = (z.toNatClampNeg : Int) := by
    intro z hz
    have hz0 : (0 : Int) ≤ z.toInt := by
      have := Int32.not_lt.mp hz
      simpa using Int32.le_iff_toInt_le.mp this
    show z.toInt = ((z.toInt.toNat : Nat) : Int)
    omega
  intro T hT X1
  have hc0 : H[xh X + ks]? = some (vp_cell (xC X 0) (n0, .inl f)) := hP ks _ (am_ws_get ha0)
  have hc1 : H[xh X + kd]? = some (vp_cell (xC X 0) (n1, .inl g)) := hP kd _ (am_ws_get ha1)
  obtain ⟨-, k0, hk0, cm0, hkk0⟩ := (hK.2 0 _ (am_tys_get X).1).1 n0 (fun j => .int (f j))
  obtain ⟨-, k1, hk1, cm1, hkk1⟩ := (hK.2 0 _ (am_tys_get X).1).1 n1 (fun j => .int (g j))
  obtain ⟨vm', X', step⟩ := X1.arraycopy hx hown hlink hnat hstat hini (src := xh X + ks) (dst := xh X + kd) (cs := vp_cell (xC X 0) (n0, .inl f)) (cd := vp_cell (xC X 0) (n1, .inl g)) (srcPos := sp) (destPos := dp) (n := n) (by rw [hT]; exact hc0) (by rw [hT]; exact hc1)
    (fun _ h => by cases h) (fun _ h => by cases h) (fun h => by cases h) (fun h => by cases h) hk0 hk1 hkk0 hkk1 (by simp [refKind]) h1 h2 h3
    (by rw [nn sp h1, nn n h3]; show ¬ _ > ((arrV (xC X 0) n0 (fun j => .int (f j))).slots.size : Int); rw [arrV_size]; omega)
    (by rw [nn dp h2, nn n h3]; show ¬ _ > ((arrV (xC X 0) n1 (fun j => .int (g j))).slots.size : Int); rw [arrV_size]; omega)
    (fun vm₁ _ i hi => by
      have e : (vp_cell (xC X 0) (n0, .inl f)).slots.getD (sp.toNatClampNeg + i) .null = .int (f (sp.toNatClampNeg + i)) := by
        show (arrV (xC X 0) n0 (fun j => .int (f j))).slots.getD _ _ = _
        rw [Array.getD_eq_getD_getElem?, arrV_read _ _ (by omega)]
        rfl
      refine ⟨?_, ?_⟩
      · rw [e]; rfl
      · rw [e]; exact trivial)
    (g := F0 m pc ls (.int n :: .int dp :: .ref (xh X + kd) :: .int sp :: .ref (xh X + ks) :: rest)) rfl (by rw [hml]) (rest := rest) rfl (by rw [hb]; exact hdg) hframes (by show 2 * 0 + _ + _ ≤ _; omega)
  have e1 : copied (vp_cell (xC X 0) (n0, .inl f)) (vp_cell (xC X 0) (n1, .inl g)) sp dp n = vp_cell (xC X 0) (n1, .inl (va_cpy f g sp.toNatClampNeg dp.toNatClampNeg n.toNatClampNeg)) := va_copied (fun z => .int z) (xC X 0) (xC X 0) f g h4
  rw [e1] at X' step
  have hl : xh X + kd < H.size := (Array.getElem?_eq_some_iff.mp hc1).1
  have hheap : ((T.setVm vm').setCell (xh X + kd) (vp_cell (xC X 0) (n1, .inl (va_cpy f g sp.toNatClampNeg dp.toNatClampNeg n.toNatClampNeg)))).heap = H.setIfInBounds (xh X + kd) (vp_cell (xC X 0) (n1, .inl (va_cpy f g sp.toNatClampNeg dp.toNatClampNeg n.toNatClampNeg))) := by rw [← hT]; rfl
  have oq : ∀ q : Nat, q ≠ xh X + kd → (H.setIfInBounds (xh X + kd) (vp_cell (xC X 0) (n1, .inl (va_cpy f g sp.toNatClampNeg dp.toNatClampNeg n.toNatClampNeg))))[q]? = H[q]? := fun q hq => by simp [Array.getElem?_setIfInBounds, Ne.symm hq]
  have hA : am_A X (xh X + kd) := by show xh X ≤ xh X + kd; omega
  obtain ⟨t, a1, b1⟩ := kk _ _ (am_P_set hP ha1 (show (H.setIfInBounds (xh X + kd) _)[xh X + kd]? = some _ by simp [Array.getElem?_setIfInBounds, hl]) oq) (by rw [List.length_set, ← hz]; simp) ⟨by simp; exact hS.1, fun q g1 g2 => by
      rw [oq q (fun e => g2 (by rw [e]; exact hA))]
      exact hS.2.1 q g1 g2, fun q hq => by
      rcases List.mem_append.mp hq with h | h
      · exact hS.2.2 q h
      · obtain ⟨z, -, hz⟩ := List.mem_map.mp h
        rw [← hz]
        exact hA⟩ _ hheap X'
  exact ⟨t, step t a1, b1⟩
theorem am_nar {X : am_X} {ty : FieldType} {v : Value} (h1 : narrow ty v = v) (h2 : fits ty v = true) : narrow ty (am_tv X v) = am_tv X v ∧ fits ty (am_tv X v) = true := by
  cases v with
  | retAddr n => cases ty <;> cases h2
  | ref k => cases ty <;> first | exact ⟨rfl, rfl⟩ | cases h2
  | int k => exact ⟨h1, h2⟩
  | long k => exact ⟨h1, h2⟩
  | float k => exact ⟨h1, h2⟩
  | double k => exact ⟨h1, h2⟩
  | null => exact ⟨h1, h2⟩
theorem am_strS {n : Nat} (h : n % 2 = 0) (h8 : n < 8) : am_tv X (.retAddr n) = .ref (xK X (n / 2)) := by
  simp only [am_tv]
  rw [if_neg (by omega), if_neg (by omega), if_pos h]
theorem am_strV {n : Nat} (h : n % 2 = 1) (h8 : n < 8) : am_tv X (.retAddr n) = .ref (xV X (n / 2)) := by
  simp only [am_tv]
  rw [if_neg (by omega), if_neg (by omega), if_neg (by omega)]
theorem am_len_eq : ∀ i, i < 4 → am_lens.getD i 0 = am_len i := by decide
theorem am_objty {t : Nat} (h : t = 4 ∨ t = 5 ∨ t = 6) : am_oty t < 13 ∧ (am_tys X)[t]? = some (xC X t, .object (am_cn (am_oty t)).1) := by
  rcases h with rfl | rfl | rfl <;> exact ⟨by decide, rfl⟩
theorem am_prty {t : Nat} (h : t < 4) : (am_tys X)[t]? = some (xC X t, am_aty t) := by
  match t, h with
  | 0, _ => rfl
  | 1, _ => rfl
  | 2, _ => rfl
  | 3, _ => rfl
theorem am_anyty {t : Nat} (h : t < 7) : ∃ ty, (am_tys X)[t]? = some (xC X t, ty) := by
  match t, h with
  | 0, _ => exact ⟨_, rfl⟩
  | 1, _ => exact ⟨_, rfl⟩
  | 2, _ => exact ⟨_, rfl⟩
  | 3, _ => exact ⟨_, rfl⟩
  | 4, _ => exact ⟨_, rfl⟩
  | 5, _ => exact ⟨_, rfl⟩
  | 6, _ => exact ⟨_, rfl⟩
theorem am_isO_inv {M : am_M} {k ci : Nat} (h : am_isO M k ci = true) : ∃ fs, M[k]? = some (.inr (ci, fs)) := by
  unfold am_isO at h
  split at h
  · next cj fs hm => rw [beq_iff_eq] at h; subst h; exact ⟨fs, hm⟩
  · cases h
theorem am_rf_tv (o : Option Nat) : am_tv X (am_rf o) = va_rf (o.map (fun k => xh X + k)) := by cases o <;> rfl
theorem am_df_tv {ci : Nat} (hci : ci < 13) : ∀ j, j < (am_cn ci).2.2.1 → defaultValue ((am_cn ci).2.2.2 j) = vp_V ((am_df ci).map (am_tv X)) j := by
  intro j hj
  have hv : ∀ ty, am_tv X (defaultValue ty) = defaultValue ty := by intro ty; cases ty <;> rfl
  simp [vp_V, am_df, List.getD_eq_getElem?_getD, hj, hv]
set_option maxHeartbeats 4000000 in
set_option maxRecDepth 100000 in
theorem am_mem_ok (hx : p.tables.exec = Jvm.exec) (hb : c.code = cc) (hown : s.vm.findClass x.cls = some m.cls) (hname : meth.name = x.name) (hts : ∀ w ∈ am_gd, w.before args s = true) {r : am_Row} (hdec0 : decode cc r.1 = .ok (r.2.2.1, r.2.1)) (hneed : ∀ w ∈ am_need x.cls r, w.before args s = true) (hside : am_side x r = true) (hml : c.maxLocals = ls.size) (hfr : 1 ≤ R.frames) (hlo : 8 + (nativeFrameWords "java/lang/System" "arraycopy" 5 + 11) ≤ R.locals)
    (KS : am_K X s s.heap) (hP : va_P (xD X) am_vcl (am_ws X M) H) (hz : H.size = xh X + M.length) (hS : va_S (am_A X) s.heap H locs) {L L1 : am_Lo} {st st1 : List Value} {pc1 : Nat} (h : am_mem (xS X) r L st M = some (pc1, L1, st1, M1)) (hcells : cells + (M1.length - M.length) ≤ R.cells) (hslots : slots + (am_sz M1 - am_sz M) ≤ R.slots)
    (k : ∀ (H1 : Heap) (locs1 : List Loc), va_P (xD X) am_vcl (am_ws X M1) H1 → H1.size = xh X + M1.length → va_S (am_A X) s.heap H1 locs1 → W p l e R s m args below meth c H1 locs1 (cells + (M1.length - M.length)) (slots + (am_sz M1 - am_sz M)) Q (F0 m pc1 ls (st1.map (am_tv X)))) : W p l e R s m args below meth c H locs cells slots Q (F0 m r.1 ls (st.map (am_tv X))) := by
  obtain ⟨pc, len, i, a, b, cv⟩ := r
  simp only at hdec0 ⊢
  have hlen : len = am_ln i len := by
    unfold am_side at hside
    simp only [Bool.and_eq_true, decide_eq_true_eq] at hside
    exact hside.1
  have hdec : decode cc pc = .ok (i, am_ln i len) := by rw [← hlen]; exact hdec0
  obtain ⟨hK, hX, hbh, hV, hR, hZ1, hZ2, hF, hhz, hN⟩ := id KS
  have hD := am_ws_D X M
  have same : ∀ {M2 : am_M}, M2 = M → cells + (M2.length - M.length) = cells ∧ slots + (am_sz M2 - am_sz M) = slots := fun h => by subst h; simp
  have sset : ∀ {kq : Nat} {c0 c1 : am_C}, M[kq]? = some c0 → am_cs c0 = am_cs c1 → cells + ((M.set kq c1).length - M.length) = cells ∧ slots + (am_sz (M.set kq c1) - am_sz M) = slots := fun h1 h2 => by rw [List.length_set, am_sz_set h1 h2]; simp
  have bnd : xb X < s.heap.size ∧ ¬ am_A X (xb X) := ⟨by omega, by show ¬ xh X ≤ xb X; omega⟩
  cases i
  case getfield q =>
    simp only [am_mem] at h
    split at h
    · next kk rest =>
      split at h
      · next hc =>
        obtain ⟨ha, h2, h8⟩ := hc
        have hvk := (hV (kk / 2) (by omega)).1 0 (by omega)
        have hl := hneed (if b = 0 then .fieldLink x.cls q "java/lang/String" "value" "[B" else .fieldLink x.cls q "java/lang/String" "coder" "B") (by simp [am_need, ha])
        split at h
        · next hb0 =>
          cases h
          rw [if_pos hb0] at hl
          have k1 := k H locs hP hz hS
          rw [(same rfl).1, (same rfl).2] at k1
          simp only [List.map_cons, am_strS h2 h8, am_strV (show (kk + 1) % 2 = 1 by omega) (by omega)] at k1 ⊢
          rw [show (kk + 1) / 2 = kk / 2 by omega] at k1
          exact vk_getf hx hb hvk.2.2.1 hS hown hl (fun _ h9 => h9) hdec k1
        · split at h
          · next hb0 hb1 =>
            cases h
            rw [if_neg hb0] at hl
            have k1 := k H locs hP hz hS
            rw [(same rfl).1, (same rfl).2] at k1
            simp only [List.map_cons, am_strS h2 h8] at k1 ⊢
            exact vk_getf hx hb hvk.2.1 hS hown hl (fun _ h9 => h9) hdec k1
          · cases h
      · cases h
    · next kk rest =>
      split at h
      · cases h
      · next ha =>
        split at h
        · next ci fs hm =>
          split at h
          · next hci =>
            subst hci
            split at h
            · next v hv =>
              cases h
              have hsd : ci < 13 ∧ b < (am_cn ci).2.2.1 := by
                have h9 := hside
                simp [am_side, ha] at h9
                exact h9.2
              have k1 := k H locs hP hz hS
              rw [(same rfl).1, (same rfl).2] at k1
              simp only [List.map_cons, am_tvR] at k1 ⊢
              exact va_get (D := xD X) (cl := am_vcl) (ci := ci) (v := am_tv X v) (fs := fs.map (am_tv X)) hx hb hts (am_uwg ci hsd.1) hown hK hP kk (am_ws_get hm) (am_vcl_get hsd.1) b hsd.2 (hneed (.fieldLink x.cls q (am_T ci b).1 (am_T ci b).2.1 (am_T ci b).2.2.1) (by simp [am_need, ha])) (fun _ h9 => h9) (by rw [List.getElem?_map, hv]; rfl) hdec k1
            · cases h
          · cases h
        · cases h
    · cases h
  case putfield q =>
    simp only [am_mem] at h
    split at h
    · next v kk rest =>
      split at h
      · cases h
      · next ha =>
        split at h
        · next ci fs hm =>
          split at h
          · next hc =>
            obtain ⟨hci, hl, hn, hfit⟩ := hc
            subst hci
            cases h
            have h9 := hside
            simp only [am_side, Bool.and_eq_true, Bool.or_eq_true, decide_eq_true_eq] at h9
            obtain ⟨-, ⟨h10, h11⟩, h12⟩ := h9
            have hnf := am_nar (X := X) hn hfit
            have he := sset (c1 := .inr (ci, fs.set b v)) hm (by simp [am_cs])
            refine am_put_ok hx hb hown hname hts hK hP hz hS hdec (hneed (.fieldLink x.cls q (am_T ci b).1 (am_T ci b).2.1 (am_T ci b).2.2.1) (by simp [am_need])) h10 h11 (h12.imp (fun z => z) (fun z => ⟨z.1.1.1, z.1.1.2, z.1.2, z.2⟩)) hm hl hnf.1 hnf.2 (fun H1 locs1 g1 g2 g3 => ?_)
            have k1 := k H1 locs1 g1 g2 g3
            rw [he.1, he.2] at k1
            exact k1
          · cases h
        · cases h
    · cases h
  case getstatic q =>
    simp only [am_mem] at h
    split at h
    · next ha =>
      cases h
      have k1 := k H locs hP hz hS
      rw [(same rfl).1, (same rfl).2] at k1
      exact va_gets hx hb hZ1 hS hown (hneed _ (by simp [am_need, ha])) (fun _ h9 => h9) hdec k1
    · next ha =>
      split at h
      · next ha1 =>
        cases h
        have k1 := k H locs hP hz hS
        rw [(same rfl).1, (same rfl).2] at k1
        exact va_gets hx hb hZ2 hS hown (hneed _ (by simp [am_need, ha])) (fun _ h9 => h9) hdec k1
      · cases h
  case arraylength =>
    simp only [am_mem] at h
    split at h
    · next kk rest =>
      split at h
      · next hk =>
        cases h
        subst hk
        have k1 := k H locs hP hz hS
        rw [(same rfl).1, (same rfl).2] at k1
        exact va_slen hx hb hX bnd.1 bnd.2 hS hdec k1
      · split at h
        · next hk =>
          cases h
          have hvk : va_T .byte (xV X (kk / 2)) (am_lens.getD (kk / 2) 0) (fun j => .int ((am_by.getD (kk / 2) []).getD j 0)) (am_A X) s s.heap := ((hV (kk / 2) (by omega)).1 0 (by omega)).2.2.2
          have k1 := k H locs hP hz hS
          rw [(same rfl).1, (same rfl).2] at k1
          simp only [List.map_cons, am_strV hk.1 hk.2] at k1 ⊢
          exact va_tlen hx hb hvk hS (by rw [am_len_eq _ (by omega)]) hdec k1
        · cases h
    · next kk rest =>
      split at h
      · next t n y hm =>
        split at h
        · next ht =>
          cases h
          obtain ⟨ty, hty⟩ := am_anyty (X := X) ht
          have k1 := k H locs hP hz hS
          rw [(same rfl).1, (same rfl).2] at k1
          simp only [List.map_cons, am_tvR] at k1 ⊢
          have hg := am_ws_get (X := X) hm
          rcases y with f | f | f | f | f
          · exact va_alen (x := (n, .inl f)) hx hb hK hP kk t hg hty rfl hdec k1
          · exact va_alen (x := (n, .inr (.inl f))) hx hb hK hP kk t hg hty rfl hdec k1
          · exact va_alen (x := (n, .inr (.inr (.inl f)))) hx hb hK hP kk t hg hty rfl hdec k1
          · exact va_alen (x := (n, .inr (.inr (.inr (.inl f))))) hx hb hK hP kk t hg hty rfl hdec k1
          · exact va_alen (x := (n, .inr (.inr (.inr (.inr (fun i => (f i).map (fun k => xh X + k))))))) hx hb hK hP kk t hg hty rfl hdec k1
        · cases h
      · cases h
    · cases h
  case iaload =>
    simp only [am_mem] at h
    split at h
    · next j kk rest =>
      split at h
      · next hk =>
        cases h
        obtain ⟨hk, hin⟩ := hk
        subst hk
        have k1 := k H locs hP hz hS
        rw [(same rfl).1, (same rfl).2] at k1
        exact va_sld hx hb hX bnd.1 bnd.2 hS hin hdec k1
      · cases h
    · next j kk rest =>
      split at h
      · next t n f hm =>
        split at h
        · next ht =>
          cases h
          obtain ⟨ht, hin⟩ := ht
          subst ht
          have k1 := k H locs hP hz hS
          rw [(same rfl).1, (same rfl).2] at k1
          exact va_iald hx hb hK hP kk 0 (am_ws_get hm) (am_tys_get X).1 hin hdec k1
        · cases h
      · cases h
    · cases h
  case baload =>
    simp only [am_mem] at h
    split at h
    · next j kk rest =>
      split at h
      · next hk =>
        cases h
        obtain ⟨h1, h8, hin⟩ := hk
        have hvk : va_T .byte (xV X (kk / 2)) (am_lens.getD (kk / 2) 0) (fun j => .int ((am_by.getD (kk / 2) []).getD j 0)) (am_A X) s s.heap := ((hV (kk / 2) (by omega)).1 0 (by omega)).2.2.2
        have k1 := k H locs hP hz hS
        rw [(same rfl).1, (same rfl).2] at k1
        simp only [List.map_cons, am_strV h1 h8] at k1 ⊢
        exact va_tb hx hb hvk hS (by rw [am_len_eq _ (by omega)]; exact hin) rfl hdec k1
      · cases h
    · next j kk rest =>
      split at h
      · next t n f hm =>
        split at h
        · next ht =>
          cases h
          obtain ⟨ht, hin⟩ := ht
          have k1 := k H locs hP hz hS
          rw [(same rfl).1, (same rfl).2] at k1
          rcases ht with rfl | rfl
          · exact va_bald hx hb hK hP kk 1 (am_ws_get hm) (am_tys_get X).2.1 hin hdec k1
          · exact va_zald hx hb hK hP kk 3 (am_ws_get hm) (am_tys_get X).2.2.2 hin hdec k1
        · cases h
      · cases h
    · cases h
  case laload =>
    simp only [am_mem] at h
    split at h
    · next j kk rest =>
      split at h
      · next t n f hm =>
        split at h
        · next ht =>
          cases h
          obtain ⟨ht, hin⟩ := ht
          subst ht
          have k1 := k H locs hP hz hS
          rw [(same rfl).1, (same rfl).2] at k1
          exact va_lald hx hb hK hP kk 2 (am_ws_get hm) (am_tys_get X).2.2.1 hin hdec k1
        · cases h
      · cases h
    · cases h
  case aaload =>
    simp only [am_mem] at h
    split at h
    · next j kk rest =>
      split at h
      · next t n f hm =>
        split at h
        · next ht =>
          cases h
          obtain ⟨ht, hin⟩ := ht
          have k1 := k H locs hP hz hS
          rw [(same rfl).1, (same rfl).2] at k1
          simp only [List.map_cons, am_tvR, am_tvI, am_rf_tv] at k1 ⊢
          exact va_aldq (f := fun i => (f i).map (fun k => xh X + k)) hx hb hK hP kk t (am_ws_get hm) (am_objty ht).2 hin hdec k1
        · cases h
      · cases h
    · cases h
  case iastore =>
    simp only [am_mem] at h
    split at h
    · next v j kk rest =>
      split at h
      · next t n f hm =>
        split at h
        · next ht =>
          cases h
          obtain ⟨ht, hin⟩ := ht
          subst ht
          have he := sset (c1 := .inl (0, (n, .inl (upd f j.toNatClampNeg v)))) hm rfl
          refine W.iast hx hb (hP kk _ (am_ws_get hm)) ((hK.2 0 _ (am_tys_get X).1).1 n (fun j => .int (f j))) (fun q => by cases q) (by show ¬ (j < 0 ∨ (arrV _ _ _).slots.size ≤ _); rw [arrV_size]; exact hin) rfl rfl hdec fun H1 e1 e2 e3 => ?_
          obtain ⟨g1, g2, g3⟩ := am_st_i (v := v) rfl hP hz hS hm rfl e1 e2 e3
          have k1 := k H1 _ g1 g2 g3
          rw [he.1, he.2] at k1
          exact k1
        · cases h
      · cases h
    · cases h
  case bastore =>
    simp only [am_mem] at h
    split at h
    · next v j kk rest =>
      split at h
      · next t n f hm =>
        split at h
        · next hin =>
          split at h
          · next ht =>
            cases h
            subst ht
            have he := sset (c1 := .inl (1, (n, .inl (upd f j.toNatClampNeg (vp_nar .byte v))))) hm rfl
            refine W.bast hx hb (hP kk _ (am_ws_get hm)) ((hK.2 1 _ (am_tys_get X).2.1).1 n (fun j => .int (f j))) (fun q => by cases q) (by show ¬ (j < 0 ∨ (arrV _ _ _).slots.size ≤ _); rw [arrV_size]; exact hin) rfl rfl hdec fun H1 e1 e2 e3 => ?_
            obtain ⟨g1, g2, g3⟩ := am_st_i (v := vp_nar .byte v) rfl hP hz hS hm rfl e1 e2 e3
            have k1 := k H1 _ g1 g2 g3
            rw [he.1, he.2] at k1
            exact k1
          · split at h
            · next ht =>
              cases h
              subst ht
              have he := sset (c1 := .inl (3, (n, .inl (upd f j.toNatClampNeg (vp_nar .boolean v))))) hm rfl
              refine W.zast hx hb (hP kk _ (am_ws_get hm)) ((hK.2 3 _ (am_tys_get X).2.2.2).1 n (fun j => .int (f j))) (fun q => by cases q) (by show ¬ (j < 0 ∨ (arrV _ _ _).slots.size ≤ _); rw [arrV_size]; exact hin) rfl rfl hdec fun H1 e1 e2 e3 => ?_
              obtain ⟨g1, g2, g3⟩ := am_st_i (v := vp_nar .boolean v) rfl hP hz hS hm rfl e1 e2 e3
              have k1 := k H1 _ g1 g2 g3
              rw [he.1, he.2] at k1
              exact k1
            · cases h
        · cases h
      · cases h
    · cases h
  case lastore =>
    simp only [am_mem] at h
    split at h
    · next v j kk rest =>
      split at h
      · next t n f hm =>
        split at h
        · next ht =>
          cases h
          obtain ⟨ht, hin⟩ := ht
          subst ht
          have he := sset (c1 := .inl (2, (n, .inr (.inl (vp_updL f j.toNatClampNeg v))))) hm rfl
          refine W.last hx hb (hP kk _ (am_ws_get hm)) ((hK.2 2 _ (am_tys_get X).2.2.1).1 n (fun j => .long (f j))) (fun q => by cases q) (by show ¬ (j < 0 ∨ (arrV _ _ _).slots.size ≤ _); rw [arrV_size]; exact hin) rfl rfl hdec fun H1 e1 e2 e3 => ?_
          obtain ⟨g1, g2, g3⟩ := am_st_l (v := v) hP hz hS hm e1 e2 e3
          have k1 := k H1 _ g1 g2 g3
          rw [he.1, he.2] at k1
          exact k1
        · cases h
      · cases h
    · cases h
  case aastore =>
    simp only [am_mem] at h
    split at h
    · next v j kk rest =>
      split at h
      · next t n f hm =>
        split at h
        · next ht =>
          cases h
          obtain ⟨ht, hin, ho⟩ := ht
          obtain ⟨fs, hv⟩ := am_isO_inv ho
          have hot := am_objty (X := X) ht
          have he := sset (c1 := .inl (t, (n, .inr (.inr (.inr (.inr (va_up f j.toNatClampNeg (some v)))))))) hm rfl
          have hlt : j.toNatClampNeg < n := Nat.not_le.mp fun q => hin (Or.inr q)
          have h0 : ¬ j < 0 := fun q => hin (Or.inl q)
          obtain ⟨r', hr', cellV, g1, g2, g3, -⟩ := hP v _ (am_ws_get hv)
          have hcls := (hK.1 (am_oty t) _ (am_vcl_get hot.1)).2
          obtain ⟨kA, comp, k1, k2, k3, -⟩ := (hK.2 t _ hot.2).2
          have hcomp : comp = (xD X).1 (am_oty t) := Option.some.inj (k3.symm.trans hcls.1)
          subst hcomp
          obtain ⟨kC, hkC, -⟩ := hcls.2
          refine W.aast hx hb (hP kk _ (am_ws_get hm)) (fun q h => by cases h) (fun h => by cases h) k1 k2 rfl hkC ⟨h0, by show _ < (arrV _ _ _).slots.size; rw [arrV_size]; exact hlt⟩ g1 (fun q h => by rw [g3] at h; cases h) (by rw [g2]; exact hkC) (by rw [g2]; exact va_assign hcls) rfl rfl hdec fun H1 e1 e2 e3 => ?_
          obtain ⟨g1, g2, g3⟩ := am_st_q hP hz hS hm e1 e2 e3
          have k1 := k H1 _ g1 g2 g3
          rw [he.1, he.2] at k1
          exact k1
        · cases h
      · cases h
    · cases h
  case newarray ty =>
    simp only [am_mem] at h
    split at h
    · next n rest =>
      split at h
      · next hc =>
        cases h
        obtain ⟨ha, hn, hby⟩ := hc
        have hty : newarray.typeOf ty = am_aty a := by
          have h9 := hside
          simp [am_side] at h9
          exact h9.2.2
        have hcb : componentBytes (newarray.typeOf ty) ≤ 8 := by cases ty <;> decide
        have hcs : am_cs (am_zero a n.toNatClampNeg) = n.toNatClampNeg := by unfold am_zero; split <;> rfl
        simp only [List.length_append, am_sz_app, hcs, List.length_cons, List.length_nil] at hcells hslots k
        refine va_newaK hx hb (hneed _ (by simp [am_need])) rfl hdec rfl hn rfl (Nat.le_trans (Nat.mul_le_mul_left _ hcb) hby) (by omega) (by omega) rfl fun H1 cA e1 z1 o1 hAr hNm => ?_
        have hcA : cA = xC X a := by
          have h7 := (hK.2 a _ (am_prty (X := X) ha)).2
          have h8 : s.vm.findClass ("[" ++ (am_aty a).toString) = some (xC X a) := by
            match a, ha, h7 with
            | 0, _, h7 => exact h7
            | 1, _, h7 => exact h7
            | 2, _, h7 => exact h7
            | 3, _, h7 => exact h7
          rw [hty] at hNm
          exact Option.some.inj (hNm.symm.trans h8)
        have hsz : M.length + (0 + 1) - M.length = 1 := by omega
        have hsz2 : am_sz M + n.toNatClampNeg - am_sz M = n.toNatClampNeg := by omega
        rw [hsz, hsz2] at k
        have k1 := k H1 locs (am_P_app hP hz ?_ o1) (by rw [z1, hz]; omega) (am_S_push hS (by omega) o1)
        · rw [hz]; exact k1
        · rw [hz] at e1
          rw [hty, hcA] at e1
          have hva : va_at (xD X) am_vcl (xh X + M.length, am_cc X (am_zero a n.toNatClampNeg)) H1 := by
            match a, ha, e1 with
            | 0, _, e1 => exact e1
            | 1, _, e1 => exact e1
            | 2, _, e1 => exact e1
            | 3, _, e1 => exact e1
          exact hva
      · cases h
    · cases h
  case anewarray q =>
    simp only [am_mem] at h
    split at h
    · next n rest =>
      split at h
      · next hc =>
        cases h
        obtain ⟨ha, hn, hby⟩ := hc
        have hot := am_objty (X := X) ha
        simp only [List.length_append, am_sz_app, List.length_cons, List.length_nil, am_cs] at hcells hslots k
        refine W.anew hx hb hown (hneed (.classLink x.cls q (am_cn (am_oty a)).1) (by simp [am_need])) (hneed (.arrayOver (.object (am_cn (am_oty a)).1)) (by simp [am_need])) rfl hdec rfl hn hby (by omega) (by omega) fun cA kA comp f1 f2 f3 f4 => ?_
        have hcA : cA = xC X a := by
          obtain ⟨kA', comp', h7, h8, h9, h10⟩ := (hK.2 a _ hot.2).2
          exact Option.some.inj (f1.symm.trans h10)
        subst hcA
        have hsz : M.length + (0 + 1) - M.length = 1 := by omega
        have hsz2 : am_sz M + n.toNatClampNeg - am_sz M = n.toNatClampNeg := by omega
        rw [hsz, hsz2] at k
        generalize hH1 : H.push ({ cls := xC X a, slots := Array.replicate n.toNatClampNeg .null, vm := .none } : Cell) = H1
        have z1 : H1.size = H.size + 1 := by rw [← hH1, Array.size_push]
        have e1 : H1[H.size]? = some (arrV (xC X a) n.toNatClampNeg (fun _ => .null)) := by rw [← hH1, Array.getElem?_push_size, ← arrV_new]
        have o1 : ∀ q : Nat, q < H.size → H1[q]? = H[q]? := fun q hq => by rw [← hH1, Array.getElem?_push, if_neg (Nat.ne_of_lt hq)]
        have k1 := k H1 locs (am_P_app hP hz (by rw [hz] at e1; exact e1) o1) (by rw [z1, hz]; omega) (am_S_push hS (by omega) o1)
        rw [hz]
        exact k1
      · cases h
    · cases h
  case new q =>
    simp only [am_mem] at h
    split at h
    · next ha =>
      cases h
      have hdl : (am_df a).length = (am_cn a).2.2.1 := by simp [am_df]
      simp only [List.length_append, am_sz_app, List.length_cons, List.length_nil, am_cs, hdl] at hcells hslots k
      have hKn := hK.1 a _ (am_vcl_get ha)
      refine W.newcK hx hb hown (hneed (.classLink x.cls q (am_cn a).1) (by simp [am_need, ha])) (hneed (.instantiable (am_cn a).1 (am_cn a).2.2.1) (by simp [am_need, ha])) (hneed (.initialized (am_cn a).1) (by simp [am_need, ha])) rfl hdec (by omega) (by omega) hKn.2.1 rfl fun H1 kC hkC e1 z1 o1 => ?_
      have hsz : M.length + (0 + 1) - M.length = 1 := by omega
      have hsz2 : am_sz M + (am_cn a).2.2.1 - am_sz M = (am_cn a).2.2.1 := by omega
      rw [hsz, hsz2] at k
      have k1 := k H1 locs (am_P_app hP hz ⟨_, am_vcl_get ha, (u_born (am_cn a).2.2.2 hts (am_uwg a ha) hKn hkC (by rw [← hz]; exact e1) (am_tyok a ha)).to (am_df_tv ha)⟩ o1) (by rw [z1, hz]; omega) (am_S_push hS (by omega) o1)
      rw [hz]
      exact k1
    · cases h
  case invokestatic q =>
    simp only [am_mem] at h
    split at h
    · next hb8 =>
      subst hb8
      split at h
      · next n dp kd sp ks rest =>
        split at h
        · next t0 n0 f t1 n1 g hm0 hm1 =>
          split at h
          · next hc =>
            cases h
            obtain ⟨rfl, rfl, c1, c2, c3, c4, c5, c6⟩ := hc
            have he := sset (c1 := .inl (0, (n1, .inl (va_cpy f g sp.toNatClampNeg dp.toNatClampNeg n.toNatClampNeg)))) hm1 rfl
            refine am_copy_ok hx hb hml hown (hneed (.methodLink x.cls q arraycopyName) (by simp [am_need])) (hneed (.native arraycopyName) (by simp [am_need])) (hneed (.static arraycopyName) (by simp [am_need])) (hneed (.initialized "java/lang/System") (by simp [am_need])) hK hP hz hS hm0 hm1 c1 c2 c3 c4 c5 hfr (by rw [am_cat_map hF]; omega) hdec (fun H1 locs1 g1 g2 g3 => ?_)
            have k1 := k H1 locs1 g1 g2 g3
            rw [he.1, he.2] at k1
            exact k1
          · cases h
        · cases h
      · cases h
    · cases h
  all_goals (cases h)
end AMN
