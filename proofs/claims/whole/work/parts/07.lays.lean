theorem am_in_of {ws : List Cond} (h : List Nat) (e : ws.map some = h.map (fun i => lw_tbl[i]?)) : ∀ w ∈ ws, w ∈ lw_tbl := by
  intro w hw
  have h1 : some w ∈ ws.map some := List.mem_map.mpr ⟨w, hw, rfl⟩
  rw [e] at h1
  obtain ⟨i, -, hi⟩ := List.mem_map.mp h1
  exact List.mem_of_getElem? hi
theorem am_u0 : ∀ w ∈ u_ws RX0 TX0 10, w ∈ lw_tbl := am_in_of [167, 169, 171, 173, 175, 177, 179, 181, 183, 185] (by decide +kernel)
theorem am_u1 : ∀ w ∈ u_ws RX1 TX1 2, w ∈ lw_tbl := am_in_of [358, 360] (by decide +kernel)
theorem am_u2 : ∀ w ∈ u_ws RX2 TX2 7, w ∈ lw_tbl := am_in_of [444, 446, 448, 450, 452, 454, 456] (by decide +kernel)
theorem am_u3 : ∀ w ∈ u_ws RX3 TX3 3, w ∈ lw_tbl := am_in_of [396, 398, 400] (by decide +kernel)
theorem am_u4 : ∀ w ∈ u_ws RX4 TX4 3, w ∈ lw_tbl := am_in_of [473, 475, 477] (by decide +kernel)
theorem am_u5 : ∀ w ∈ u_ws RX5 TX5 4, w ∈ lw_tbl := am_in_of [376, 378, 380, 382] (by decide +kernel)
theorem am_u6 : ∀ w ∈ u_ws RX6 TX6 3, w ∈ lw_tbl := am_in_of [337, 339, 341] (by decide +kernel)
theorem am_u7 : ∀ w ∈ u_ws RX7 TX7 12, w ∈ lw_tbl := am_in_of [299, 301, 303, 305, 307, 309, 311, 313, 315, 317, 319, 321] (by decide +kernel)
theorem am_u8 : ∀ w ∈ u_ws RX8 TX8 5, w ∈ lw_tbl := am_in_of [418, 420, 422, 424, 426] (by decide +kernel)
theorem am_u9 : ∀ w ∈ u_ws RX9 TX9 3, w ∈ lw_tbl := am_in_of [490, 492, 494] (by decide +kernel)
theorem am_u10 : ∀ w ∈ u_ws RX10 TX10 14, w ∈ lw_tbl := am_in_of [244, 246, 248, 250, 252, 254, 256, 258, 260, 262, 264, 266, 268, 270] (by decide +kernel)
theorem am_u11 : ∀ w ∈ u_ws RX11 TX11 16, w ∈ lw_tbl := am_in_of [514, 516, 518, 520, 522, 524, 526, 528, 530, 532, 534, 536, 538, 540, 542, 544] (by decide +kernel)
theorem am_u12 : ∀ w ∈ u_ws RX12 TX12 38, w ∈ lw_tbl := am_in_of [1429, 1431, 1433, 1435, 1437, 1439, 1441, 1443, 1445, 1447, 1449, 1451, 1453, 1455, 1457, 1459, 1461, 1463, 1465, 1467, 1469, 1471, 1473, 1475, 1477, 1479, 1481, 1483, 1485, 1487, 1489, 1491, 1493, 1495, 1497, 1499, 1501, 1503] (by decide +kernel)
theorem am_uws : ∀ (ci : Nat), ci < 13 → ∀ w ∈ u_ws (am_cn ci).1 (am_cn ci).2.1 (am_cn ci).2.2.1, w ∈ lw_tbl := fun ci h => match ci, h with
  | 0, _ => am_u0
  | 1, _ => am_u1
  | 2, _ => am_u2
  | 3, _ => am_u3
  | 4, _ => am_u4
  | 5, _ => am_u5
  | 6, _ => am_u6
  | 7, _ => am_u7
  | 8, _ => am_u8
  | 9, _ => am_u9
  | 10, _ => am_u10
  | 11, _ => am_u11
  | 12, _ => am_u12
  | n + 13, h => absurd h (by omega)
theorem am_tyok : ∀ (ci : Nat), ci < 13 → ∀ k, k < (am_cn ci).2.2.1 → parseFieldDescriptor ((am_cn ci).2.1 k).2.2.1 = some ((am_cn ci).2.2.2 k) := fun ci h => match ci, h with
  | 0, _ => tyX0_ok
  | 1, _ => tyX1_ok
  | 2, _ => tyX2_ok
  | 3, _ => tyX3_ok
  | 4, _ => tyX4_ok
  | 5, _ => tyX5_ok
  | 6, _ => tyX6_ok
  | 7, _ => tyX7_ok
  | 8, _ => tyX8_ok
  | 9, _ => tyX9_ok
  | 10, _ => tyX10_ok
  | 11, _ => tyX11_ok
  | 12, _ => tyX12_ok
  | n + 13, h => absurd h (by omega)
theorem am_nmok : ∀ (ci : Nat), ci < 13 → ∀ a, a < (am_cn ci).2.2.1 → ∀ b, b < (am_cn ci).2.2.1 → a ≠ b → ((am_cn ci).2.1 a).2.1 ≠ ((am_cn ci).2.1 b).2.1 := fun ci h => match ci, h with
  | 0, _ => nmX0
  | 1, _ => nmX1
  | 2, _ => nmX2
  | 3, _ => nmX3
  | 4, _ => nmX4
  | 5, _ => nmX5
  | 6, _ => nmX6
  | 7, _ => nmX7
  | 8, _ => nmX8
  | 9, _ => nmX9
  | 10, _ => nmX10
  | 11, _ => nmX11
  | 12, _ => nmX12
  | n + 13, h => absurd h (by omega)
/-- the tables' words that a callee may be asked for -/
def am_gd : List Cond := lw_tbl.filter goodWord
theorem am_gd_in {w : Cond} (h : w ∈ lw_tbl) (g : goodWord w = true) : w ∈ am_gd := List.mem_filter.mpr ⟨h, g⟩
theorem am_uwg (ci : Nat) (h : ci < 13) : ∀ w ∈ u_ws (am_cn ci).1 (am_cn ci).2.1 (am_cn ci).2.2.1, w ∈ am_gd := by
  intro w hw
  refine am_gd_in (am_uws ci h w hw) ?_
  obtain ⟨k, -, rfl⟩ := List.mem_map.mp hw
  unfold u_lay
  split <;> rfl
/-- words that must be carried by hand -/
def am_isN : Cond → Bool
  | .methodLinkNest _ _ _ _ => true
  | .arrayOver (.object _) => true
  | _ => false
def am_nd : List Cond := lw_tbl.filter am_isN
theorem am_nd_in {w : Cond} (h : w ∈ lw_tbl) (g : am_isN w = true) : w ∈ am_nd := List.mem_filter.mpr ⟨h, g⟩
theorem am_nw_warm {w : Cond} (h : am_isN w = true) {s U : State} (hW : s.WarmedH U.vm) (hz : va_Nw w s) : va_Nw w U := by
  unfold am_isN at h
  split at h
  · exact va_Nw.warmM hW hz
  · exact va_AO.moved hW.alike hz
  · cases h
theorem am_nw_same {w : Cond} (h : am_isN w = true) {s U : State} (hv : U.vm = s.vm) (hz : va_Nw w s) : va_Nw w U := by
  unfold am_isN at h
  split at h
  · exact va_Nw.same rfl hv.symm hz
  · exact va_AO.moved (by rw [hv]; exact Vm.Alike.refl _) hz
  · cases h
theorem am_nw_use {w : Cond} (h : am_isN w = true) {A : Array Value} {U : State} (hz : va_Nw w U) : w.before A U = true := by
  unfold am_isN at h
  split at h
  · exact va_Nw.use rfl hz
  · exact va_AO.use hz
  · cases h
theorem am_nw_of {w : Cond} (h : am_isN w = true) {A : Array Value} {U : State} (hz : w.before A U = true) : va_Nw w U := by
  unfold am_isN at h
  split at h
  · exact va_Nw.of rfl hz
  · exact va_AO.of hz
  · cases h
