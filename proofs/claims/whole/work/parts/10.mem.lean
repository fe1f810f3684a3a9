/-! the memory's instructions -/
def am_lens : List Nat := am_by.map List.length
def am_K (X : am_X) (U : State) (H : Heap) : Prop :=
  va_K (xD X) am_vcl (am_tys X) U ∧ va_X (xb X) (xS X).1 (xS X).2 U H ∧ xb X < xh X ∧ (∀ i, i < 4 → vk_S 1 [am_lens.getD i 0] [am_by.getD i []] (fun _ => xK X i) (fun _ => xV X i) (am_A X) U H) ∧ (∀ i, i < 4 → vk_R (am_so i) (am_si i) (am_tx i) (xK X i) U) ∧ va_Z "java/lang/String" "COMPACT_STRINGS" "Z" (.int 1) (am_A X) U H ∧ va_Z "jdk/internal/util/Preconditions" "SIOOBE_FORMATTER" "Ljava/util/function/BiFunction;" (xF X) (am_A X) U H ∧ am_hF X ∧ xh X ≤ H.size ∧ ∀ w ∈ am_nd, va_Nw w U
theorem am_K.next {X : am_X} {s U : State} {H H1 : Heap} (h : am_K X s H) (hW : s.WarmedH U.vm) (hq : ∀ q : Nat, q < H.size → ¬ am_A X q → H1[q]? = H[q]?) (hz : xh X ≤ H1.size) : am_K X U H1 := by
  obtain ⟨h1, h2, h3, h4, h5, h6, h7, h8, h9, hN⟩ := h
  have ha := hW.alike
  exact ⟨va_K.moved ha h1, (va_X.moved ha h2).kept (hq _ (by omega) (by show ¬ xh X ≤ xb X; omega)), h3, fun i hi => (vk_S.moved ha (h4 i hi)).kept hq, fun i hi => vk_R.warm hW (h5 i hi), (va_Z.moved ha h6).kept hq, (va_Z.moved ha h7).kept hq, h8, hz, fun w hw => am_nw_warm (List.mem_filter.mp hw).2 hW (hN w hw)⟩
theorem am_K.same {X : am_X} {u U : State} {H : Heap} (h : am_K X u H) (hv : U.vm = u.vm) : am_K X U H := by
  obtain ⟨h1, h2, h3, h4, h5, h6, h7, h8, h9, hN⟩ := h
  have ha : u.vm.Alike U.vm := by rw [hv]; exact Vm.Alike.refl _
  exact ⟨va_K.moved ha h1, va_X.moved ha h2, h3, fun i hi => vk_S.moved ha (h4 i hi), fun i hi => vk_R.same hv (h5 i hi), va_Z.moved ha h6, va_Z.moved ha h7, h8, h9, fun w hw => am_nw_same (List.mem_filter.mp hw).2 hv (hN w hw)⟩
def am_cs : am_C → Nat
  | .inl (_, (n, _)) => n
  | .inr (_, fs) => fs.length
def am_sz (M : am_M) : Nat := (M.map am_cs).sum
theorem am_sz_set {M : am_M} {k : Nat} {c0 c1 : am_C} (h : M[k]? = some c0) (e : am_cs c0 = am_cs c1) : am_sz (M.set k c1) = am_sz M := by
  unfold am_sz
  induction M generalizing k with
  | nil => cases h
  | cons a t ih =>
    cases k with
    | zero => simp at h; subst h; simp [e]
    | succ k => simp at h; simp only [List.set_cons_succ, List.map_cons, List.sum_cons, ih h]
theorem am_sz_app (M : am_M) (c : am_C) : am_sz (M ++ [c]) = am_sz M + am_cs c := by simp [am_sz]
theorem am_lt_len {M : am_M} {k : Nat} {c : am_C} (h : M[k]? = some c) : k < M.length := (List.getElem?_eq_some_iff.mp h).1
theorem am_P_set {X : am_X} {M : am_M} {H H1 : Heap} {k : Nat} {c0 c1 : am_C} (hP : va_P (xD X) am_vcl (am_ws X M) H) (h : M[k]? = some c0) (he : va_at (xD X) am_vcl (xh X + k, am_cc X c1) H1) (oq : ∀ q : Nat, q ≠ xh X + k → H1[q]? = H[q]?) : va_P (xD X) am_vcl (am_ws X (M.set k c1)) H1 := by
  rw [am_ws_set]
  exact hP.set (am_ws_D X M) (am_ws_get h) he oq
theorem am_P_app {X : am_X} {M : am_M} {H H1 : Heap} {c1 : am_C} (hP : va_P (xD X) am_vcl (am_ws X M) H) (hz : H.size = xh X + M.length) (he : va_at (xD X) am_vcl (xh X + M.length, am_cc X c1) H1) (oq : ∀ q : Nat, q < H.size → H1[q]? = H[q]?) : va_P (xD X) am_vcl (am_ws X (M ++ [c1])) H1 := by
  rw [am_ws_app]
  refine (hP.kept (fun k q hq => oq q.1 ?_)).app (fun k q hq => ?_)
  · have h1 := am_ws_at hq
    have h2 : k < (am_ws X M).length := (List.getElem?_eq_some_iff.mp hq).1
    rw [am_ws_len] at h2
    rw [h1, hz]
    omega
  · cases k with
    | zero => cases hq; exact he
    | succ k => cases hq
theorem am_S_push {A : Nat → Prop} {H0 H H1 : Heap} {locs : List Loc} (h : va_S A H0 H locs) (z : H.size ≤ H1.size) (oq : ∀ q : Nat, q < H.size → H1[q]? = H[q]?) : va_S A H0 H1 locs := ⟨Nat.le_trans h.1 z, fun q h1 h2 => (oq q (Nat.lt_of_lt_of_le h1 h.1)).trans (h.2.1 q h1 h2), h.2.2⟩
theorem am_tys_get (X : am_X) : (am_tys X)[0]? = some (xC X 0, .int) ∧ (am_tys X)[1]? = some (xC X 1, .byte) ∧ (am_tys X)[2]? = some (xC X 2, .long) ∧ (am_tys X)[3]? = some (xC X 3, .boolean) := ⟨rfl, rfl, rfl, rfl⟩
section AMM
variable {p : Program} {l : Launch} {e : Env} {R : Room} {s : State} {m : MethodId} {args : Array Value} {below : List Frame} {meth : Method} {c : Code} {H : Heap} {locs : List Loc} {cells slots : Nat} {Q : State → Prop} {X : am_X} {cc : ByteArray} {x : MethodName} {M M1 : am_M} {ls : Array Slot} {pc : Nat} {rest : List Value}
/-- a store into a row of ints, longs .. whose cell was found -/
theorem am_st_i {n k : Nat} {f g : Nat → Int32} {t : Nat} {v w : Int32} (hw : w = v) {j : Int32} (hP : va_P (xD X) am_vcl (am_ws X M) H) (hz : H.size = xh X + M.length) (hS : va_S (am_A X) s.heap H locs) (hk : M[k]? = some (.inl (t, (n, .inl f)))) (hg : g = upd f j.toNatClampNeg w) {H1 : Heap} (he : H1[xh X + k]? = some ((vp_cell (xC X t) (n, .inl f)).setSlot j.toNatClampNeg (.int v))) (z : H1.size = H.size) (oq : ∀ q, q ≠ xh X + k → H1[q]? = H[q]?) :
    va_P (xD X) am_vcl (am_ws X (M.set k (.inl (t, (n, .inl g))))) H1 ∧ H1.size = xh X + (M.set k (.inl (t, (n, .inl g)))).length ∧ va_S (am_A X) s.heap H1 (locs ++ [⟨xh X + k, j.toNatClampNeg⟩]) := by
  subst hw; subst hg
  refine ⟨am_P_set hP hk ?_ oq, by rw [z, hz, List.length_set], hS.put z oq (by show xh X ≤ xh X + k; omega)⟩
  show H1[xh X + k]? = some (vp_cell _ _)
  rw [he, vp_cell_i, vp_cell_i, arrV_store]
  congr 2
  funext q
  by_cases hq : q = j.toNatClampNeg
  · subst hq; simp [updV, upd]
  · simp [updV, upd, hq]
theorem am_st_l {n k : Nat} {f : Nat → Int64} {t : Nat} {v : Int64} {j : Int32} (hP : va_P (xD X) am_vcl (am_ws X M) H) (hz : H.size = xh X + M.length) (hS : va_S (am_A X) s.heap H locs) (hk : M[k]? = some (.inl (t, (n, .inr (.inl f))))) {H1 : Heap} (he : H1[xh X + k]? = some ((vp_cell (xC X t) (n, .inr (.inl f))).setSlot j.toNatClampNeg (.long v))) (z : H1.size = H.size) (oq : ∀ q, q ≠ xh X + k → H1[q]? = H[q]?) :
    va_P (xD X) am_vcl (am_ws X (M.set k (.inl (t, (n, .inr (.inl (vp_updL f j.toNatClampNeg v))))))) H1 ∧ H1.size = xh X + (M.set k (.inl (t, (n, .inr (.inl (vp_updL f j.toNatClampNeg v)))))).length ∧ va_S (am_A X) s.heap H1 (locs ++ [⟨xh X + k, j.toNatClampNeg⟩]) := by
  refine ⟨am_P_set hP hk ?_ oq, by rw [z, hz, List.length_set], hS.put z oq (by show xh X ≤ xh X + k; omega)⟩
  show H1[xh X + k]? = some (vp_cell _ _)
  rw [he, vp_cell_l, vp_cell_l, arrV_store]
  congr 2
  funext q
  by_cases hq : q = j.toNatClampNeg
  · subst hq; simp [updV, vp_updL]
  · simp [updV, vp_updL, hq]
theorem am_st_q {n k v : Nat} {f : Nat → Option Nat} {t : Nat} {j : Int32} (hP : va_P (xD X) am_vcl (am_ws X M) H) (hz : H.size = xh X + M.length) (hS : va_S (am_A X) s.heap H locs) (hk : M[k]? = some (.inl (t, (n, .inr (.inr (.inr (.inr f))))))) {H1 : Heap} (he : H1[xh X + k]? = some ((vp_cell (xC X t) (n, .inr (.inr (.inr (.inr (fun i => (f i).map (fun k => xh X + k))))))).setSlot j.toNatClampNeg (.ref (xh X + v)))) (z : H1.size = H.size) (oq : ∀ q, q ≠ xh X + k → H1[q]? = H[q]?) :
    va_P (xD X) am_vcl (am_ws X (M.set k (.inl (t, (n, .inr (.inr (.inr (.inr (va_up f j.toNatClampNeg (some v)))))))))) H1 ∧ H1.size = xh X + (M.set k (.inl (t, (n, .inr (.inr (.inr (.inr (va_up f j.toNatClampNeg (some v))))))))).length ∧ va_S (am_A X) s.heap H1 (locs ++ [⟨xh X + k, j.toNatClampNeg⟩]) := by
  refine ⟨am_P_set hP hk ?_ oq, by rw [z, hz, List.length_set], hS.put z oq (by show xh X ≤ xh X + k; omega)⟩
  show H1[xh X + k]? = some (vp_cell _ _)
  rw [he, vp_cell_q, vp_cell_q, arrV_store]
  congr 2
  funext q
  by_cases hq : q = j.toNatClampNeg
  · subst hq; simp [updV, va_up, va_rf]
  · simp [updV, va_up, hq]
theorem am_fields {ci b : Nat} (h : ci < 13) (hb : b < (am_cn ci).2.2.1) {args : Array Value} {s : State} (hts : ∀ w ∈ am_gd, w.before args s = true) (hK : va_K (xD X) am_vcl (am_tys X) s) : ∀ x y, x < (am_cn ci).2.2.1 → y < (am_cn ci).2.2.1 → x ≠ y → ((xD X).2 ci) x ≠ ((xD X).2 ci) y :=
  va_apart (own := "") hts (am_uwg ci h) (am_cn ci).2.2.2 (am_tyok ci h) (am_nmok ci h) hK (am_vcl_get h)
set_option maxHeartbeats 4000000 in
/-- a field is written -/
theorem am_put_ok (hx : p.tables.exec = Jvm.exec) (hb : c.code = cc) (hown : s.vm.findClass x.cls = some m.cls) (hname : meth.name = x.name) (hts : ∀ w ∈ am_gd, w.before args s = true) (hK : va_K (xD X) am_vcl (am_tys X) s) (hP : va_P (xD X) am_vcl (am_ws X M) H) (hz : H.size = xh X + M.length) (hS : va_S (am_A X) s.heap H locs)
    {q a b k : Nat} {cv : Int} {fs : List Value} {v : Value} (hdec : decode cc pc = .ok (.putfield q, 3)) (hlink : (Cond.fieldLink x.cls q (am_T a b).1 (am_T a b).2.1 (am_T a b).2.2.1).before args s = true) (ha : a < 13) (hbN : b < (am_cn a).2.2.1)
    (hfin : (cv = 0 ∧ (am_T a b).2.2.2 = false) ∨ (cv = 1 ∧ (am_T a b).2.2.2 = true ∧ x.name = "<init>" ∧ (am_T a b).1 = x.cls))
    (hk : M[k]? = some (.inr (a, fs))) (hl : b < fs.length) (hn : narrow ((am_cn a).2.2.2 b) (am_tv X v) = am_tv X v) (hfit : fits ((am_cn a).2.2.2 b) (am_tv X v) = true)
    (kk : ∀ (H1 : Heap) (locs1 : List Loc), va_P (xD X) am_vcl (am_ws X (M.set k (.inr (a, fs.set b v)))) H1 → H1.size = xh X + (M.set k (.inr (a, fs.set b v))).length → va_S (am_A X) s.heap H1 locs1 → W p l e R s m args below meth c H1 locs1 cells slots Q (F0 m (pc + 3) ls rest)) : W p l e R s m args below meth c H locs cells slots Q (F0 m pc ls (am_tv X v :: .ref (xh X + k) :: rest)) := by
  have hap := am_fields (X := X) ha hbN hts hK
  have hget := hP k _ (am_ws_get hk)
  obtain ⟨r, h1, cell, q1, q2, q3, q4⟩ := hget
  have hr : r = ((am_cn a).1, (am_cn a).2.1, (am_cn a).2.2.1) := Option.some.inj (h1.symm.trans (am_vcl_get ha))
  subst hr
  have hKa := hK.1 a _ (am_vcl_get ha)
  obtain ⟨hSl, hfc, kC, hkC, hkind⟩ := hKa
  obtain ⟨cf, kf, fi, f, hi, hsl⟩ := hSl b hbN
  have hlay := hts _ (am_uwg a ha _ (u_in_lay hbN))
  have hlays := u_lays hts (am_uwg a ha) hbN
  have hst := (u_facts hfc hkC hlays hi).1
  have hd := am_tyok a ha b hbN
  have hvs : ∀ j, vp_V ((fs.map (am_tv X)).set b (am_tv X v)) j = updV (vp_V (fs.map (am_tv X))) b (am_tv X v) j := fun j => (vp_updV_set (by rw [List.length_map]; exact hl) (am_tv X v) j).symm
  have fin : ∀ H1 : Heap, H1[xh X + k]? = some (cell.setSlot f.slot (am_tv X v)) → H1.size = H.size → (∀ q, q ≠ xh X + k → H1[q]? = H[q]?) → va_P (xD X) am_vcl (am_ws X (M.set k (.inr (a, fs.set b v)))) H1 ∧ H1.size = xh X + (M.set k (.inr (a, fs.set b v))).length ∧ va_S (am_A X) s.heap H1 (locs ++ [⟨xh X + k, f.slot⟩]) := by
    intro H1 e1 e2 e3
    rw [hsl] at e1
    refine ⟨am_P_set hP hk ?_ e3, by rw [e2, hz, List.length_set], hS.put e2 e3 (by show xh X ≤ xh X + k; omega)⟩
    refine ⟨_, am_vcl_get ha, t_OB.to (V := updV (vp_V (fs.map (am_tv X))) b (am_tv X v)) ⟨_, e1, q2, q3, t_set q4 hap hbN (am_tv X v)⟩ (fun j _ => ?_)⟩
    show updV (vp_V (fs.map (am_tv X))) b (am_tv X v) j = vp_V ((fs.set b v).map (am_tv X)) j
    rw [List.map_set, hvs]
  rcases hfin with ⟨-, hf0⟩ | ⟨-, hf1, hini, hdecl⟩
  · unfold u_lay at hlay
    have hf0' : ¬ ((am_cn a).2.1 b).2.2.2 = true := by rw [show ((am_cn a).2.1 b).2.2.2 = false from hf0]; decide
    rw [if_neg hf0'] at hlay
    have h6 := u_store hfc hkC hkind hlay hi hd hn hfit
    refine W.putK hx hb (f := f) ⟨hown, hlink, ⟨_, _, _, hi⟩, hst⟩ (by rw [q2]; exact h6) q1 q3 (by rw [hsl]; exact k2_hasslot (q4 b hbN)) rfl rfl hdec fun H' e1 e2 e3 => ?_
    obtain ⟨g1, g2, g3⟩ := fin H' e1 e2 e3
    exact kk H' _ g1 g2 g3
  · unfold u_lay at hlay
    rw [if_pos (show ((am_cn a).2.1 b).2.2.2 = true from hf1)] at hlay
    have hcf : m.cls = cf := by
      obtain ⟨_, _, c', _, _, _, -, -, hf', -, -, -, hown2, -⟩ := Cond.laysFinal_spec hlay
      have e1 : c' = cf := by have := hi.symm.trans hf'; simp at this; exact this.1.symm
      rw [show ((am_cn a).2.1 b).1 = x.cls from hdecl] at hown2
      rw [← e1]; exact Option.some.inj (hown.symm.trans hown2)
    have h6 := u_fits hfc hkC hkind (Or.inr hlay) hi hd hn hfit
    refine W.putFinK hx hb hown hlink hi hst hcf (by rw [hname, hini]) (by rw [q2]; exact h6) q1 q3 (by rw [hsl]; exact k2_hasslot (q4 b hbN)) rfl rfl hdec fun H' e1 e2 e3 => ?_
    obtain ⟨g1, g2, g3⟩ := fin H' e1 e2 e3
    exact kk H' _ g1 g2 g3
end AMM
