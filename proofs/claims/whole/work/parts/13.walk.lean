/-! a whole method, by the small machine's run of it -/
/-- what holds of every method: its rows are its bytes, its words stand in the tables -/
def am_good : Prop := (∀ q ∈ am_prs, am_ok q.1.2.1 q.2 = true) ∧ (∀ q ∈ am_prs, am_WS q.1.1 q.2) ∧ (∀ q ∈ am_prs, plainFor q.1.1 = true ∧ q.1.2.2.1 ≤ 40)
set_option maxRecDepth 100000 in
theorem am_prs_at {m : Nat} (h : m < 309) : (am_kd m, am_tb m) ∈ am_prs := by
  have e : am_prs = am_ms.zip am_ts := rfl
  rw [e]
  have h1 : m < am_ms.length := h
  have h2 : m < am_ts.length := h
  refine List.mem_of_getElem? (i := m) ?_
  simp only [am_kd, am_tb, List.getD_eq_getElem?_getD, List.getElem?_eq_getElem h1, List.getElem?_eq_getElem h2, Option.getD_some]
  rw [List.getElem?_zip_eq_some]
  exact ⟨List.getElem?_eq_getElem h1, List.getElem?_eq_getElem h2⟩
theorem am_fetch_in {m pc : Nat} {r : am_Row} (h : am_fetch m pc = some r) : r ∈ am_tb m ∧ r.1 = pc := by
  unfold am_fetch at h
  exact ⟨List.mem_of_find?_eq_some h, by simpa using List.find?_some h⟩
theorem am_take (n : Nat) (st : List Value) : st = ((st.take n).reverse).reverse ++ st.drop n := by simp
section AMW
variable {p : Program} {l : Launch} {e : Env} {R : Room} {s : State} {mi : MethodId} {args : Array Value} {below : List Frame} {meth : Method} {c : Code} {Q : State → Prop} {X : am_X}
set_option maxHeartbeats 4000000 in
theorem am_call_ok (G : am_good) {d : Nat} (IH : am_Pd X l d) {m : Nat} (hm : m < 309) (hx : p.tables.exec = Jvm.exec) (hb : c.code = (am_kd m).2.1) (hml : c.maxLocals = am_ml m) (hown : s.vm.findClass (am_kd m).1.cls = some mi.cls) (hts : ∀ w ∈ am_cm m :: am_gd, w.before args s = true) (KS : am_K X s s.heap) (hRf : d + 2 ≤ R.frames) (hRl : 60 * (d + 2) ≤ R.locals)
    {r : am_Row} (hin : r ∈ am_tb m) (hdec0 : decode (am_kd m).2.1 r.1 = .ok (r.2.2.1, r.2.1)) {H : Heap} {locs : List Loc} {cells slots : Nat} {M M2 : am_M} {ls : Array Slot} (hls : ls.size = am_ml m) (hP : va_P (xD X) am_vcl (am_ws X M) H) (hz : H.size = xh X + M.length) (hS : va_S (am_A X) s.heap H locs)
    {st As rest : List Value} {m1 : Nat} (h : am_call am_isO r st M = some (m1, As, rest)) (hsl : (am_sl As).length ≤ am_ml m1) {n : Nat} {v : Option Value} (hrun : am_ex (am_mem (xS X)) am_isO n d m1 0 (am_in m1 As) [] M = some (v, M2)) (hc : cells + (M2.length - M.length) ≤ R.cells) (hs : slots + (am_sz M2 - am_sz M) ≤ R.slots)
    (k : ∀ (H1 : Heap) (locs1 : List Loc), va_P (xD X) am_vcl (am_ws X M2) H1 → H1.size = xh X + M2.length → va_S (am_A X) s.heap H1 locs1 → W p l e R s mi args below meth c H1 locs1 (cells + (M2.length - M.length)) (slots + (am_sz M2 - am_sz M)) Q (F0 mi (r.1 + 3) ls ((v.toList ++ rest).map (am_tv X)))) : W p l e R s mi args below meth c H locs cells slots Q (F0 mi r.1 ls (st.map (am_tv X))) := by
  obtain ⟨hK, hX, hbh, hV, hR, hZ1, hZ2, hF, hhz, hN⟩ := id KS
  obtain ⟨G1, G2, G3⟩ := G
  have hws := G2 _ (am_prs_at hm) r hin
  have hside := hws.2
  have word : ∀ w ∈ am_need (am_kd m).1.cls r, w.before args s = true := fun w hw => by
    rcases am_need_good _ _ w hw with g | g
    · exact hts w (List.mem_cons_of_mem _ (am_gd_in (hws.1 w hw) g))
    · exact am_nw_use g (hN w (am_nd_in (hws.1 w hw) g))
  have nword : ∀ w ∈ am_need (am_kd m).1.cls r, am_isN w = true → va_Nw w s := fun w hw g => hN w (am_nd_in (hws.1 w hw) g)
  have hcode : ∀ a, am_cm a ∈ am_need (am_kd m).1.cls r → am_cm a ∈ am_gd := fun a ha => am_gd_in (hws.1 _ ha) rfl
  have goodIn : ∀ a, am_cm a ∈ am_need (am_kd m).1.cls r → GoodIn (am_cm m :: am_gd) (am_cm a :: am_gd) := fun a ha w hw => by
    rcases List.mem_cons.mp hw with rfl | hw
    · exact ⟨List.mem_cons_of_mem _ (hcode a ha), good_of_word rfl⟩
    · exact ⟨List.mem_cons_of_mem _ hw, good_of_word (List.mem_filter.mp hw).2⟩
  have fixS : CallFix p mi c (am_kd m).2.1 (am_ml m) s args (am_cm m :: am_gd) (am_kd m).1.cls := ⟨hx, hb, hml, hown, hts⟩
  have pre : ∀ U : State, U.heap = H → s.WarmedH U.vm → am_Pc X As M (As.map (am_tv X)).toArray U := fun U hU hW => ⟨rfl, by rw [hU]; exact hz, by rw [hU]; exact hP, by rw [hU]; exact KS.next hW (fun q h1 h2 => hS.2.1 q h1 h2) (Nat.le_trans hhz hS.1)⟩
  have mlen : ∀ a, a < 308 → am_ml a ≤ 40 := fun a ha => (G3 _ (am_prs_at (by omega))).2
  have hroom : ∀ a, a < 308 → (am_rm d (M2.length - M.length) (am_sz M2 - am_sz M)).frames + 1 ≤ R.frames ∧ 8 + (am_ml a + 11) + (am_rm d (M2.length - M.length) (am_sz M2 - am_sz M)).locals ≤ R.locals := fun a ha => by
    have := mlen a ha
    exact ⟨hRf, by show 8 + (am_ml a + 11) + 60 * (d + 1) ≤ R.locals; omega⟩
  have fin : ∀ {g : Value → Value} , ((v.map (am_tv X)).toList ++ rest.map (am_tv X)) = (v.toList ++ rest).map (am_tv X) := by
    intro g
    cases v <;> simp
  have kk : ∀ (H1 : Heap) (locs1 : List Loc), va_P (xD X) am_vcl (am_ws X M2) H1 → H1.size = xh X + M2.length → va_S (am_A X) s.heap H1 locs1 → W p l e R s mi args below meth c H1 locs1 (cells + (M2.length - M.length)) (slots + (am_sz M2 - am_sz M)) Q (F0 mi (r.1 + 3) ls ((v.map (am_tv X)).toList ++ rest.map (am_tv X))) := fun H1 locs1 g1 g2 g3 => by
    rw [fin (g := id)]
    exact k H1 locs1 g1 g2 g3
  obtain ⟨pc, len, i, a, b, cv⟩ := r
  simp only at hdec0 ⊢ kk
  have hlen : len = am_ln i len := by
    unfold am_side at hside
    simp only [Bool.and_eq_true, decide_eq_true_eq] at hside
    exact hside.1
  have hdec : decode (am_kd m).2.1 pc = .ok (i, am_ln i len) := by rw [← hlen]; exact hdec0
  cases i
  case invokestatic q =>
    simp only [am_call] at h
    split at h
    · next hc9 =>
      obtain ⟨hb9, hn9, hcat⟩ := hc9
      cases h
      have hg : am_goodM m1 cv = true := by
        have h9 := hside
        simp only [am_side, if_pos hb9, Bool.and_eq_true] at h9
        exact h9.2
      simp only [am_goodM, Bool.and_eq_true, decide_eq_true_eq] at hg
      obtain ⟨⟨⟨hm1, hn1⟩, hn2⟩, hpar⟩ := hg
      have hM := IH n m1 _ M v M2 hm1 hsl hrun
      have hst : st.map (am_tv X) = ((((st.take (cv.toNat % 1000)).reverse).map (am_tv X)).reverse) ++ (st.drop (cv.toNat % 1000)).map (am_tv X) := by
        rw [← List.map_reverse, ← List.map_append]
        congr 1
        exact am_take _ _
      have hnl : (((st.take (cv.toNat % 1000)).reverse).map (am_tv X)).length = cv.toNat % 1000 := by simp; omega
      rw [hst]
      rcases hb9 with hb9 | hb9
      · subst hb9
        have hcm : am_cm m1 ∈ am_need (am_kd m).1.cls (pc, len, .invokestatic q, m1, 0, cv) := by simp [am_need]
        refine am_after (va_runS (index := q) (bytes := (am_kd m1).2.1) (maxL := am_ml m1) (ret := am_rt m1) fixS hM ⟨callB_of (cv.toNat % 1000) hts (goodIn m1 hcm) rfl rfl rfl (word (.initialized (am_kd m1).1.cls) (by simp [am_need])) (word (.methodLink (am_kd m).1.cls q (am_kd m1).1) (by simp [am_need])) ⟨hn1, hn2, hpar⟩ (hroom m1 hm1), word (.static (am_kd m1).1) (by simp [am_need])⟩ ⟨am_Pc_blind _ _ _, pre⟩ rfl hnl hls rfl (lv_room (by rw [am_cat_map hF]; exact hcat)) hdec ⟨hc, hs⟩) hS kk
      · subst hb9
        have hcm : am_cm m1 ∈ am_need (am_kd m).1.cls (pc, len, .invokestatic q, m1, 3, cv) := by simp [am_need]
        refine am_after (va_runSN (host := "NextFair") (index := q) (bytes := (am_kd m1).2.1) (maxL := am_ml m1) (ret := am_rt m1) fixS hM ⟨va_cnB (cv.toNat % 1000) hts (goodIn m1 hcm) rfl rfl rfl (nword (.methodLinkNest (am_kd m).1.cls q (am_kd m1).1 "NextFair") (by simp [am_need]) rfl) (word (.initialized (am_kd m1).1.cls) (by simp [am_need])) ⟨hn1, hn2, hpar⟩ (hroom m1 hm1), word (.static (am_kd m1).1) (by simp [am_need]), trivial⟩ ⟨am_Pc_blind _ _ _, pre⟩ rfl hnl hls rfl (lv_room (by rw [am_cat_map hF]; exact hcat)) hdec ⟨hc, hs⟩) hS kk
    · cases h
  case invokevirtual q =>
    simp only [am_call] at h
    split at h
    · next hc9 =>
      obtain ⟨hb9, hn9⟩ := hc9
      have hg : (am_goodM a cv = true ∧ (am_kd a).1.cls = am_ccn (cv.toNat / 1000)) ∧ (cv.toNat / 1000 < 13 ∨ cv.toNat / 1000 = 100) := by
        have h9 := hside
        simp only [am_side, if_pos hb9, Bool.and_eq_true, decide_eq_true_eq] at h9
        exact h9.2
      obtain ⟨⟨hg, hcls⟩, hci⟩ := hg
      simp only [am_goodM, Bool.and_eq_true, decide_eq_true_eq] at hg
      obtain ⟨⟨⟨hm1, hn1⟩, hn2⟩, hpar⟩ := hg
      have hnl : (((st.take (cv.toNat % 1000)).reverse).map (am_tv X)).length = cv.toNat % 1000 := by simp; omega
      have core : ∀ (w : Value) (t : Nat), st.drop (cv.toNat % 1000) = w :: rest → am_tv X w = .ref t → As = w :: (st.take (cv.toNat % 1000)).reverse → a = m1 → am_cat rest ≤ 8 → (∃ cellB : Cell, H[t]? = some cellB ∧ cellB.vm.isStatics = false ∧ s.vm.findClass (am_kd a).1.cls = some cellB.cls) → W p l e R s mi args below meth c H locs cells slots Q (F0 mi pc ls (st.map (am_tv X))) := by
        intro w t hdrop hw hAs ha1 hcat hcell
        subst ha1
        have hM := IH n a _ M v M2 hm1 hsl hrun
        have hst : st.map (am_tv X) = ((((st.take (cv.toNat % 1000)).reverse).map (am_tv X)).reverse) ++ Value.ref t :: rest.map (am_tv X) := by
          rw [← hw, ← List.map_cons, ← hdrop, ← List.map_reverse, ← List.map_append]
          congr 1
          exact am_take _ _
        have hAs2 : As.map (am_tv X) = Value.ref t :: ((st.take (cv.toNat % 1000)).reverse).map (am_tv X) := by rw [hAs, List.map_cons, hw]
        rw [hAs2] at pre
        rw [hst]
        rcases hb9 with hb9 | hb9
        · subst hb9
          have hcm : am_cm a ∈ am_need (am_kd m).1.cls (pc, len, .invokevirtual q, a, 1, cv) := by simp [am_need]
          refine am_after (va_runV (C := (am_kd a).1.cls) (index := q) (bytes := (am_kd a).2.1) (maxL := am_ml a) (ret := am_rt a) fixS hM ⟨callB_of (cv.toNat % 1000) hts (goodIn a hcm) rfl rfl rfl (word (.initialized (am_kd a).1.cls) (by simp [am_need])) (word (.methodLink (am_kd m).1.cls q (am_kd a).1) (by simp [am_need])) ⟨hn1, hn2, hpar⟩ (hroom a hm1), word (.instanceMethod (am_kd a).1) (by simp [am_need]), word (.selects (am_kd a).1.cls (am_kd a).1 (am_kd a).1) (by simp [am_need])⟩ ⟨am_Pc_blind _ _ _, hcell, pre⟩ rfl hnl hls rfl (lv_room (by rw [am_cat_map hF]; exact hcat)) hdec ⟨hc, hs⟩) hS kk
        · subst hb9
          have hcm : am_cm a ∈ am_need (am_kd m).1.cls (pc, len, .invokevirtual q, a, 4, cv) := by simp [am_need]
          refine am_after (va_runVN (C := (am_kd a).1.cls) (host := "NextFair") (index := q) (bytes := (am_kd a).2.1) (maxL := am_ml a) (ret := am_rt a) fixS hM ⟨va_cnB (cv.toNat % 1000) hts (goodIn a hcm) rfl rfl rfl (nword (.methodLinkNest (am_kd m).1.cls q (am_kd a).1 "NextFair") (by simp [am_need]) rfl) (word (.initialized (am_kd a).1.cls) (by simp [am_need])) ⟨hn1, hn2, hpar⟩ (hroom a hm1), word (.instanceMethod (am_kd a).1) (by simp [am_need]), word (.selects (am_kd a).1.cls (am_kd a).1 (am_kd a).1) (by simp [am_need])⟩ ⟨am_Pc_blind _ _ _, hcell, pre⟩ rfl hnl hls rfl (lv_room (by rw [am_cat_map hF]; exact hcat)) hdec ⟨hc, hs⟩) hS kk
      split at h
      · next kq rest9 hdrop =>
        split at h
        · next ho =>
          cases h
          obtain ⟨ho, hcat⟩ := ho
          obtain ⟨fs, hv⟩ := am_isO_inv ho
          have hci13 : cv.toNat / 1000 < 13 := by
            obtain ⟨r', hr', -⟩ := hP kq _ (am_ws_get hv)
            have h1 : cv.toNat / 1000 < am_vcl.length := (List.getElem?_eq_some_iff.mp hr').1
            exact h1
          have hcc : (am_kd m1).1.cls = (am_cn (cv.toNat / 1000)).1 := by
            rw [hcls, am_ccn, if_neg (by omega)]
          refine core (.ref kq) (xh X + kq) hdrop rfl rfl rfl hcat ?_
          rw [hcc]
          exact va_recv hK hP (am_vcl_get hci13) (am_ws_get hv)
        · cases h
      · next kq rest9 hdrop =>
        split at h
        · next ho =>
          cases h
          obtain ⟨hb1, hc100, hk2, hk8, hcat⟩ := ho
          refine core (.retAddr kq) (xK X (kq / 2)) hdrop (am_strS hk2 hk8) rfl rfl hcat ?_
          rw [hcls, am_ccn, if_pos hc100]
          exact vk_recv (hV _ (by omega)) (i := 0) (by omega) hS
        · cases h
      · cases h
    · cases h
  case invokespecial q =>
    simp only [am_call] at h
    split at h
    · next hc9 =>
      obtain ⟨hb9, hn9⟩ := hc9
      have hg : (am_goodM a cv = true ∧ (am_kd a).1.name = "<init>") ∧ (am_kd a).2.2.2.1 = none := by
        have h9 := hside
        simp only [am_side, if_pos hb9, Bool.and_eq_true, decide_eq_true_eq] at h9
        exact h9.2
      obtain ⟨⟨hg, hini⟩, hret⟩ := hg
      simp only [am_goodM, Bool.and_eq_true, decide_eq_true_eq] at hg
      obtain ⟨⟨⟨hm1, hn1⟩, hn2⟩, hpar⟩ := hg
      have hnl : (((st.take (cv.toNat % 1000)).reverse).map (am_tv X)).length = cv.toNat % 1000 := by simp; omega
      split at h
      · next kq rest9 hdrop =>
        split at h
        · next ho =>
          cases h
          obtain ⟨ho, hcat⟩ := ho
          have hM := IH n m1 _ M v M2 hm1 hsl hrun
          have hst : st.map (am_tv X) = ((((st.take (cv.toNat % 1000)).reverse).map (am_tv X)).reverse) ++ Value.ref (xh X + kq) :: rest.map (am_tv X) := by
            rw [← am_tvR, ← List.map_cons, ← hdrop, ← List.map_reverse, ← List.map_append]
            congr 1
            exact am_take _ _
          rw [List.map_cons, am_tvR] at pre
          rw [hst]
          have hcmr : am_cm m1 = .code (am_kd m1).1 (am_kd m1).2.1 (am_ml m1) none := by unfold am_cm; rw [hret]; rfl
          rcases hb9 with hb9 | hb9
          · subst hb9
            have hcm : am_cm m1 ∈ am_need (am_kd m).1.cls (pc, len, .invokespecial q, m1, 2, cv) := by simp [am_need]
            refine am_after (va_runI (index := q) (bytes := (am_kd m1).2.1) (maxL := am_ml m1) fixS hM ⟨callB_of (cv.toNat % 1000) hts (goodIn m1 hcm) (by rw [hcmr]) rfl rfl (word (.initialized (am_kd m1).1.cls) (by simp [am_need])) (word (.methodLink (am_kd m).1.cls q (am_kd m1).1) (by simp [am_need])) ⟨hn1, hn2, hpar⟩ (hroom m1 hm1), hini, word (.instanceMethod (am_kd m1).1) (by simp [am_need])⟩ ⟨am_Pc_blind _ _ _, pre⟩ rfl hnl hls rfl (lv_room (by rw [am_cat_map hF]; exact hcat)) hdec ⟨hc, hs⟩) hS kk
          · subst hb9
            have hcm : am_cm m1 ∈ am_need (am_kd m).1.cls (pc, len, .invokespecial q, m1, 5, cv) := by simp [am_need]
            refine am_after (va_runIN (host := "NextFair") (index := q) (bytes := (am_kd m1).2.1) (maxL := am_ml m1) fixS hM ⟨va_cnB (cv.toNat % 1000) hts (goodIn m1 hcm) (by rw [hcmr]) rfl rfl (nword (.methodLinkNest (am_kd m).1.cls q (am_kd m1).1 "NextFair") (by simp [am_need]) rfl) (word (.initialized (am_kd m1).1.cls) (by simp [am_need])) ⟨hn1, hn2, hpar⟩ (hroom m1 hm1), hini, word (.instanceMethod (am_kd m1).1) (by simp [am_need])⟩ ⟨am_Pc_blind _ _ _, pre⟩ rfl hnl hls rfl (lv_room (by rw [am_cat_map hF]; exact hcat)) hdec ⟨hc, hs⟩) hS kk
        · cases h
      · cases h
    · cases h
  all_goals (cases h)
set_option maxHeartbeats 4000000 in
theorem am_walk (G : am_good) {d : Nat} (IH : ∀ d1, d1 < d → am_Pd X l d1) {m : Nat} (hm : m < 309) (hx : p.tables.exec = Jvm.exec) (hb : c.code = (am_kd m).2.1) (hml : c.maxLocals = am_ml m) (hown : s.vm.findClass (am_kd m).1.cls = some mi.cls) (hname : meth.name = (am_kd m).1.name) (hts : ∀ w ∈ am_cm m :: am_gd, w.before args s = true) (KS : am_K X s s.heap) (hRf : d + 1 ≤ R.frames) (hRl : 60 * (d + 1) ≤ R.locals)
    {r : Option Value} {M1 : am_M} {cellsE slotsE : Nat} (hcE : cellsE ≤ R.cells) (hsE : slotsE ≤ R.slots)
    (hret : ∀ (pc1 : Nat) (ls1 : Array Slot) (st1 : List Value) (H1 : Heap) (locs1 : List Loc) (i : Instr), decode (am_kd m).2.1 pc1 = .ok (i, 1) → am_end (am_rt m) i st1 = some r → va_P (xD X) am_vcl (am_ws X M1) H1 → H1.size = xh X + M1.length → va_S (am_A X) s.heap H1 locs1 → W p l e R s mi args below meth c H1 locs1 cellsE slotsE Q (F0 mi pc1 ls1 (st1.map (am_tv X)))) :
    ∀ (n pc : Nat) (L : am_Lo) (st : List Value) (M : am_M) (H : Heap) (locs : List Loc) (cells slots : Nat) (ls : Array Slot), am_ex (am_mem (xS X)) am_isO n d m pc L st M = some (r, M1) → am_LR X L ls (am_ml m) → va_P (xD X) am_vcl (am_ws X M) H → H.size = xh X + M.length → va_S (am_A X) s.heap H locs → cells + (M1.length - M.length) = cellsE → slots + (am_sz M1 - am_sz M) = slotsE → W p l e R s mi args below meth c H locs cells slots Q (F0 mi pc ls (st.map (am_tv X))) := by
  obtain ⟨hK, hX, hbh, hV, hR, hZ1, hZ2, hF, hhz, hN⟩ := id KS
  intro n
  induction n with
  | zero => intro pc L st M H locs cells slots ls h; cases h
  | succ n ih =>
    intro pc L st M H locs cells slots ls h hL hP hz hS hcs hss
    have hmono := am_ex_mono h
    rw [am_ex] at h
    split at h
    · cases h
    · next row hrow =>
      obtain ⟨hin, rfl⟩ := am_fetch_in hrow
      have hdec0 : decode (am_kd m).2.1 row.1 = .ok (row.2.2.1, row.2.1) := by
        have h1 := List.all_eq_true.mp (G.1 _ (am_prs_at hm)) row hin
        simpa using h1
      have hws := G.2.1 _ (am_prs_at hm) row hin
      have hside := hws.2
      have word : ∀ w ∈ am_need (am_kd m).1.cls row, w.before args s = true := fun w hw => by
        rcases am_need_good _ _ w hw with g | g
        · exact hts w (List.mem_cons_of_mem _ (am_gd_in (hws.1 w hw) g))
        · exact am_nw_use g (hN w (am_nd_in (hws.1 w hw) g))
      split at h
      · cases h
      · next pc1 L1 st1 M2 hs =>
        have hm2 := am_ex_mono h
        unfold am_step at hs
        split at hs
        · cases hs
        · split at hs
          · cases hs
          · split at hs
            · next pc2 L2 st2 hp =>
              cases hs
              exact am_pure_ok hx hb hF hown hdec0 word hside hL hml (by omega) (by omega) hR hp (fun ls1 hL1 => ih _ _ _ _ _ _ _ _ _ h hL1 hP hz hS hcs hss)
            · obtain ⟨q, hq, he⟩ := Option.map_eq_some_iff.mp hs
              cases he
              have hmm := am_mem_mono hq
              obtain ⟨hm3, hm4, hm5⟩ := hmm
              subst hm5
              refine am_mem_ok hx hb hown hname (fun w hw => hts w (List.mem_cons_of_mem _ hw)) hdec0 word hside (by rw [hml, hL.1]) (by omega) ?_ KS hP hz hS hq (by omega) (by omega) (fun H1 locs1 g1 g2 g3 => ih _ _ _ _ _ _ _ _ _ h hL g1 g2 g3 (by omega) (by omega))
              have : nativeFrameWords "java/lang/System" "arraycopy" 5 ≤ 41 := by decide
              omega
      · next v hs =>
        cases h
        unfold am_step at hs
        split at hs
        · next v2 hv =>
          cases hs
          have hlen : row.2.1 = 1 := by
            obtain ⟨pc, len, i, a, b, cv⟩ := row
            unfold am_side at hside
            simp only [Bool.and_eq_true, decide_eq_true_eq] at hside
            have h1 := hside.1
            unfold am_end at hv
            simp only at hv
            split at hv <;> first | exact h1 | cases hv
          rw [hlen] at hdec0
          have h1 := hret row.1 ls st H locs row.2.2.1 hdec0 hv hP hz hS
          have e1 : cells = cellsE := by omega
          have e2 : slots = slotsE := by omega
          rw [e1, e2]
          exact h1
        · split at hs
          · cases hs
          · split at hs
            · cases hs
            · obtain ⟨q, hq, he⟩ := Option.map_eq_some_iff.mp hs
              cases he
      · next m1 As rest hs =>
        have hcall : am_call am_isO row st M = some (m1, As, rest) := by
          unfold am_step at hs
          split at hs
          · cases hs
          · split at hs
            · next q hq => cases hs; exact hq
            · split at hs
              · cases hs
              · obtain ⟨q, hq, he⟩ := Option.map_eq_some_iff.mp hs
                cases he
        split at h
        · cases h
        · next d1 =>
          split at h
          · next hsl =>
            split at h
            · cases h
            · next v M2 hrun =>
              have hm2 := am_ex_mono h
              have hm3 := am_ex_mono hrun
              exact am_call_ok G (IH d1 (by omega)) hm hx hb hml hown hts KS (by omega) (by omega) hin hdec0 hL.1 hP hz hS hcall hsl hrun (by omega) (by omega) (fun H1 locs1 g1 g2 g3 => ih _ _ _ _ _ _ _ _ _ h hL g1 g2 g3 (by omega) (by omega))
          · cases h
end AMW
theorem am_met (G : am_good) (X : am_X) (l : Launch) : ∀ d, am_Pd X l d := by
  intro d
  induction d using Nat.strongRecOn with
  | _ d IH =>
    intro n m As M r M1 hm hsl hrun
    have hpl := G.2.2 _ (am_prs_at (m := m) (by omega))
    refine va_MetF (cc := (am_kd m).2.1) (maxL := am_ml m) (ret := am_rt m) hpl.1 rfl ?_
    intro p e s mi args below meth c s₁ B hml hv
    obtain ⟨rfl, hz, hP, hK⟩ := hv
    have hx := B.exec
    have hb := B.bytes
    have hr := B.returns
    have hts := atoms_spec (ws := am_cm m :: am_gd) B.pre
    have hown : s.vm.findClass (am_kd m).1.cls = some mi.cls := findClass_of_methodNamed B.named
    have hlocks := B.notSynchronized
    have hin : meth.name = (am_kd m).1.name := (name_of_methodNamed B.named B.method).1
    rw [lg_entry_eq]
    exact am_walk (R := am_rm d (M1.length - M.length) (am_sz M1 - am_sz M)) G IH (by omega) hx hb hml hown hin hts hK (Nat.le_refl _) (Nat.le_refl _) (Nat.le_refl _) (Nat.le_refl _)
      (fun pc1 ls1 st1 H1 locs1 i hdec hend g1 g2 g3 => am_ret_ok hx hb hr hlocks hdec hend (fun t ht hW => ⟨rfl, by rw [ht]; exact g2, by rw [ht]; exact g1, g3.F ht⟩) g3.2.2)
      n 0 (am_in m As) [] M s.heap [] 0 0 _ hrun (am_in_LR hK.2.2.2.2.2.2.2.1 hsl) hP hz va_S.rf (Nat.zero_add _) (Nat.zero_add _)
