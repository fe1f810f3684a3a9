section SKIP2
variable {M L m : Nat} {B : Nat → Int32} {v : Int32}
theorem caI_u (hm : m < 6) (g : Nat → Int32) : ∀ n, itR (caF g) (upd B (26 + m) v) n = upd (itR (caF g) B n) (26 + m) (if m < n then mn (v + g m) else v) := by
  intro n
  induction n with
  | zero => rw [itR, itR, if_neg (by omega)]
  | succ n ih =>
    rw [itR, itR, ih]
    unfold caF
    by_cases e : n = m
    · subst e
      rw [if_neg (by omega), if_pos (by omega), upd_s, upd_upd, upd_upd]
    · rw [upd_n _ _ (show 26 + n ≠ 26 + m by omega), upd_comm _ _ _ (show 26 + m ≠ 26 + n by omega)]
      by_cases q : m < n
      · rw [if_pos q, if_pos (by omega)]
      · rw [if_neg q, if_neg (by omega)]
theorem paI_u (hm : m < 6) (D : Nat → Bool) : ∀ n, itR (paF D) (upd B (26 + m) v) n = upd (itR (paF D) B n) (26 + m) v := by
  intro n
  induction n with
  | zero => rfl
  | succ n ih =>
    rw [itR, itR, ih]
    unfold paF
    split
    · exact upd_comm _ _ _ (by omega)
    · rfl
theorem enB_u (hm : m < M) (hM : M ≤ 6) (s : fS) : enB M L (ups m v s) = upd (enB M L s) (26 + m) (mn (v + netF s.2 s.1 L m)) := by
  unfold enB
  show itR (paF s.2) (itR (caF (netF s.2 (upd s.1 (26 + m) v) L)) (upd s.1 (26 + m) v) M) L = _
  rw [net_u (by omega), caI_u (by omega), paI_u (by omega), if_pos hm]
theorem enB_j (hm : m < M) (hM : M ≤ 6) (s : fS) : enB M L s (26 + m) = mn (s.1 (26 + m) + netF s.2 s.1 L m) := by
  have h := enB_u (L := L) (v := s.1 (26 + m)) hm hM s
  have e : ups m (s.1 (26 + m)) s = s := by unfold ups; rw [upd_self]
  rw [e] at h
  rw [h, upd_s]
theorem faB_u (hm : m < M) (hM : M ≤ 6) (D : Nat → Bool) (h : tuF M L 13 (upd B (26 + m) v, D) = ups m v (tuF M L 13 (B, D))) : faB M L (upd B (26 + m) v) D = upd (faB M L B D) (26 + m) (mn (v + netF (tuF M L 13 (B, D)).2 (tuF M L 13 (B, D)).1 L m)) := by
  unfold faB
  rw [h, enB_u hm hM, upd_n _ _ (show 22 ≠ 26 + m by omega)]
  exact upd_comm _ _ _ (by omega)
theorem mn_nI (z : Nat) (h : z ≤ 2000000) : mn (nI z) = nI (if z ≤ 999999 then z else 999999) := by
  unfold mn
  have e : (999999 : Int32) = nI 999999 := rfl
  rw [e]
  by_cases q : z ≤ 999999
  · rw [if_pos (nI_le q (by decide)), if_pos q]
  · rw [if_neg (nI_ge (by omega) (by omega)), if_neg q]
theorem add_nI {c : Nat} (hc : c ≤ 999999) {y : Int32} (h1 : -11988 ≤ y.toInt) (h2 : y.toInt ≤ 11988) (h : 0 ≤ (c : Int) + y.toInt) : nI c + y = nI ((c : Int) + y.toInt).toNat := by
  apply Int32.toInt_inj.mp
  rw [Int32.toInt_add, nI_toInt2 (by omega), nI_toInt2 (by omega), Int.bmod_eq_of_le (by omega) (by omega), Int.toNat_of_nonneg h]
theorem fair_u (hg : GA M L B) (hm : m < M) (hM : M ≤ 6) (hL : L ≤ 12) {c e : Nat} (hc : B (26 + m) = nI c) (h2 : c + e ≤ 900000) {P : Int32 → Prop} (ag : ∀ x, P x → (e : Int) < x.toInt ∧ tmB B (nI m) (nI (c + e)) (x - nI e) = tmB B (nI m) (nI c) x) (hs : shO M L m P 13 (B, dB B (B 22))) : ∃ w, hoB M L (upd B (26 + m) (nI (c + e))) false = upd (hoB M L B false) (26 + m) w ∧ (tb (hoB M L B false 24) m = false → w = hoB M L B false (26 + m) + nI e) := by
  obtain ⟨⟨hl, go, gm, gc⟩, nb, bm⟩ := hg
  have ht := tuF_u hm hM hL (by omega) 13 (B, dB B (B 22)) ag go gm hc hs
  have eS := eqS_tuF (M := M) hL 13 (B, dB B (B 22))
  have no := (tuF_more hM hL 13 (B, dB B (B 22)) (duO_dB L B) go gm gc (Nat.lt_of_le_of_lt (cnD_n _ L) (by omega))).1
  have e0 : ∀ C, hoB M L C false = faB M L C (dB C (C 22)) := fun C => rfl
  have eD : dB (upd B (26 + m) (nI (c + e))) ((upd B (26 + m) (nI (c + e))) 22) = dB B (B 22) := by rw [dB_u (by omega), upd_n B _ (show 22 ≠ 26 + m by omega)]
  refine ⟨mn (nI (c + e) + netF (tuF M L 13 (B, dB B (B 22))).2 (tuF M L 13 (B, dB B (B 22))).1 L m), ?_, ?_⟩
  · rw [e0, e0, eD, faB_u hm hM _ ht]
  · intro h24
    rw [e0, faB_24 hM hL] at h24
    rw [e0]
    have ej : faB M L B (dB B (B 22)) (26 + m) = mn (B (26 + m) + netF (tuF M L 13 (B, dB B (B 22))).2 (tuF M L 13 (B, dB B (B 22))).1 L m) := by
      have ec : (tuF M L 13 (B, dB B (B 22))).1 (26 + m) = B (26 + m) := eS _ (by omega) (by omega)
      unfold faB
      rw [upd_n _ _ (show 26 + m ≠ 22 by omega), enB_j hm hM, ec]
    rw [ej, hc]
    have go2 := go.cg hL eS
    have gm2 := gm.cg hL eS
    have ec : (tuF M L 13 (B, dB B (B 22))).1 (26 + m) = nI c := (eS _ (by omega) (by omega)).trans hc
    clear hs ht
    generalize tuF M L 13 (B, dB B (B 22)) = T at *
    have rg := net_rng (D := T.2) go2 gm2 hM hL m L (Nat.le_refl L)
    unfold anF at no
    have nz := anS_no no m hm
    generalize netF T.2 T.1 L = g at *
    unfold shF at nz
    rw [h24, ec] at nz
    simp only [Bool.false_eq_true, if_false] at nz
    rw [Int32.lt_iff_toInt_lt, sh_int (by omega) (by omega) (by omega)] at nz
    have e00 : (0 : Int32).toInt = 0 := by decide +kernel
    rw [e00] at nz
    have a1 := add_nI (c := c) (y := g m) (by omega) (by omega) (by omega) (by omega)
    have a2 := add_nI (c := c + e) (y := g m) (by omega) (by omega) (by omega) (by omega)
    have a3 : (((c + e : Nat) : Int) + (g m).toInt).toNat = ((c : Int) + (g m).toInt).toNat + e := by omega
    rw [a1, a2, a3, mn_nI _ (by omega), mn_nI _ (by omega), if_pos (by omega), if_pos (by omega), nI_add]
theorem goB_s : ∀ n, goB M L B (n + 1) = goB M L (goB M L B 1) n := by
  intro n
  induction n with
  | zero => rfl
  | succ n ih => rw [goB, ih]; rfl
theorem goB_hd : ∀ n, goB M L B n = hdB M L false B n := by
  intro n
  induction n with
  | zero => rfl
  | succ n ih => rw [goB, hdB, ih]
theorem goB_up (hM : M ≤ 6) (hL : L ≤ 12) (h : m < 32) (q : tb (B 24) m = true) (n : Nat) : tb (goB M L B n 24) m = true := by
  rw [goB_hd]; exact hdB_up hM hL false B h q n
/-- so much more cash alters nothing, fair by fair, till one breaks -/
def shA (M L m e : Nat) (B : Nat → Int32) (n : Nat) : Prop := ∀ k, k < n → tb (goB M L B k 24) m = false → ∃ c, goB M L B k (26 + m) = nI c ∧ c + e ≤ 900000 ∧ shO M L m (fun x => (e : Int) < x.toInt ∧ tmB (goB M L B k) (nI m) (nI (c + e)) (x - nI e) = tmB (goB M L B k) (nI m) (nI c) x) 13 (goB M L B k, dB (goB M L B k) (goB M L B k 22))
theorem skip (hm : m < M) (hM : M ≤ 6) (hL : L ≤ 12) {e : Nat} : ∀ (n : Nat) (B : Nat → Int32), GA M L B → shA M L m e B n → tb (goB M L B n 24) m = true → tb (goB M L (upd B (26 + m) (B (26 + m) + nI e)) n 24) m = true := by
  intro n
  induction n with
  | zero =>
    intro B _ _ h
    show tb ((upd B (26 + m) (B (26 + m) + nI e)) 24) m = true
    rw [upd_n B _ (show 24 ≠ 26 + m by omega)]
    exact h
  | succ n ih =>
    intro B hg hs h
    cases q : tb (B 24) m
    · obtain ⟨c, hc, h2, hp⟩ := hs 0 (by omega) q
      replace hc : B (26 + m) = nI c := hc
      obtain ⟨w, e1, e2⟩ := fair_u hg hm hM hL hc h2 (fun _ z => z) hp
      rw [hc, nI_add]
      rw [goB_s] at h ⊢
      have e3 : goB M L (upd B (26 + m) (nI (c + e))) 1 = upd (hoB M L B false) (26 + m) w := e1
      have e4 : goB M L B 1 = hoB M L B false := rfl
      rw [e3]
      rw [e4] at h
      cases q2 : tb (hoB M L B false 24) m
      · rw [e2 q2]
        refine ih _ (hoB_GA hM hL hg false) (fun k hk hq => ?_) h
        have e5 : goB M L (hoB M L B false) k = goB M L B (k + 1) := (goB_s k).symm
        rw [e5] at hq ⊢
        exact hs (k + 1) (by omega) hq
      · exact goB_up hM hL (by omega) (by rw [upd_n _ _ (show 24 ≠ 26 + m by omega)]; exact q2) n
    · exact goB_up hM hL (by omega) (by rw [upd_n B _ (show 24 ≠ 26 + m by omega)]; exact q) (n + 1)
end SKIP2
