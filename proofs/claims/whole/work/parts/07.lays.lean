theorem am_in_of {ws : List Cond} (h : List Nat) (e : ws.map some = h.map (fun i => lw_tbl[i]?)) : ∀ w ∈ ws, w ∈ lw_tbl := by
  intro w hw
  have h1 : some w ∈ ws.map some := List.mem_map.mpr ⟨w, hw, rfl⟩
  rw [e] at h1
  obtain ⟨i, -, hi⟩ := List.mem_map.mp h1
  exact List.mem_of_getElem? hi
theorem am_u0 : ∀ w ∈ u_ws RX0 TX0 10, w ∈ lw_tbl := am_in_of [164, 166, 168, 170, 172, 174, 176, 178, 180, 182] (by decide +kernel)
theorem am_u1 : ∀ w ∈ u_ws RX1 TX1 2, w ∈ lw_tbl := am_in_of [353, 355] (by decide +kernel)
theorem am_u2 : ∀ w ∈ u_ws RX2 TX2 7, w ∈ lw_tbl := am_in_of [430, 432, 434, 436, 438, 440, 442] (by decide +kernel)
theorem am_u3 : ∀ w ∈ u_ws RX3 TX3 3, w ∈ lw_tbl := am_in_of [382, 384, 386] (by decide +kernel)
theorem am_u4 : ∀ w ∈ u_ws RX4 TX4 3, w ∈ lw_tbl := am_in_of [459, 461, 463] (by decide +kernel)
theorem am_u5 : ∀ w ∈ u_ws RX5 TX5 1, w ∈ lw_tbl := am_in_of [368] (by decide +kernel)
theorem am_u6 : ∀ w ∈ u_ws RX6 TX6 3, w ∈ lw_tbl := am_in_of [332, 334, 336] (by decide +kernel)
theorem am_u7 : ∀ w ∈ u_ws RX7 TX7 12, w ∈ lw_tbl := am_in_of [294, 296, 298, 300, 302, 304, 306, 308, 310, 312, 314, 316] (by decide +kernel)
theorem am_u8 : ∀ w ∈ u_ws RX8 TX8 5, w ∈ lw_tbl := am_in_of [404, 406, 408, 410, 412] (by decide +kernel)
theorem am_u9 : ∀ w ∈ u_ws RX9 TX9 3, w ∈ lw_tbl := am_in_of [476, 478, 480] (by decide +kernel)
theorem am_u10 : ∀ w ∈ u_ws RX10 TX10 14, w ∈ lw_tbl := am_in_of [239, 241, 243, 245, 247, 249, 251, 253, 255, 257, 259, 261, 263, 265] (by decide +kernel)
theorem am_u11 : ∀ w ∈ u_ws RX11 TX11 16, w ∈ lw_tbl := am_in_of [500, 502, 504, 506, 508, 510, 512, 514, 516, 518, 520, 522, 524, 526, 528, 530] (by decide +kernel)
theorem am_u12 : ∀ w ∈ u_ws RX12 TX12 38, w ∈ lw_tbl := am_in_of [1402, 1404, 1406, 1408, 1410, 1412, 1414, 1416, 1418, 1420, 1422, 1424, 1426, 1428, 1430, 1432, 1434, 1436, 1438, 1440, 1442, 1444, 1446, 1448, 1450, 1452, 1454, 1456, 1458, 1460, 1462, 1464, 1466, 1468, 1470, 1472, 1474, 1476] (by decide +kernel)
theorem am_uws : ∀ (ci : Nat), ci < 13 → ∀ w ∈ u_ws (am_cn ci).1 (am_cn ci).2.1 (am_cn ci).2.2.1, w ∈ lw_tbl := fun ci h => match ci, h with
  | 0, _ => am_u0
  | 1, _ => am_u1
  | 2, _ => am_u2
  | 3, _ => am_u3
  | 4, _ => am_u4
  | 5, _ => am_u5
  | 6, _ => am_u6
  | 7, _ => am_u7
  | 8, _ => am_u8
  | 9, _ => am_u9
  | 10, _ => am_u10
  | 11, _ => am_u11
  | 12, _ => am_u12
  | n + 13, h => absurd h (by omega)
theorem am_tyok : ∀ (ci : Nat), ci < 13 → ∀ k, k < (am_cn ci).2.2.1 → parseFieldDescriptor ((am_cn ci).2.1 k).2.2.1 = some ((am_cn ci).2.2.2 k) := fun ci h => match ci, h with
  | 0, _ => tyX0_ok
  | 1, _ => tyX1_ok
  | 2, _ => tyX2_ok
  | 3, _ => tyX3_ok
  | 4, _ => tyX4_ok
  | 5, _ => tyX5_ok
  | 6, _ => tyX6_ok
  | 7, _ => tyX7_ok
  | 8, _ => tyX8_ok
  | 9, _ => tyX9_ok
  | 10, _ => tyX10_ok
  | 11, _ => tyX11_ok
  | 12, _ => tyX12_ok
  | n + 13, h => absurd h (by omega)
theorem am_nmok : ∀ (ci : Nat), ci < 13 → ∀ a, a < (am_cn ci).2.2.1 → ∀ b, b < (am_cn ci).2.2.1 → a ≠ b → ((am_cn ci).2.1 a).2.1 ≠ ((am_cn ci).2.1 b).2.1 := fun ci h => match ci, h with
  | 0, _ => nmX0
  | 1, _ => nmX1
  | 2, _ => nmX2
  | 3, _ => nmX3
  | 4, _ => nmX4
  | 5, _ => nmX5
  | 6, _ => nmX6
  | 7, _ => nmX7
  | 8, _ => nmX8
  | 9, _ => nmX9
  | 10, _ => nmX10
  | 11, _ => nmX11
  | 12, _ => nmX12
  | n + 13, h => absurd h (by omega)
/-- the tables' words that a callee may be asked for -/
def am_gd : List Cond := lw_tbl.filter goodWord
theorem am_gd_in {w : Cond} (h : w ∈ lw_tbl) (g : goodWord w = true) : w ∈ am_gd := List.mem_filter.mpr ⟨h, g⟩
theorem am_uwg (ci : Nat) (h : ci < 13) : ∀ w ∈ u_ws (am_cn ci).1 (am_cn ci).2.1 (am_cn ci).2.2.1, w ∈ am_gd := by
  intro w hw
  refine am_gd_in (am_uws ci h w hw) ?_
  obtain ⟨k, -, rfl⟩ := List.mem_map.mp hw
  unfold u_lay
  split <;> rfl
/-- words that must be carried by hand -/
def am_isN : Cond → Bool
  | .methodLinkNest _ _ _ _ => true
  | .arrayOver (.object _) => true
  | _ => false
def am_nd : List Cond := lw_tbl.filter am_isN
theorem am_nd_in {w : Cond} (h : w ∈ lw_tbl) (g : am_isN w = true) : w ∈ am_nd := List.mem_filter.mpr ⟨h, g⟩
theorem am_nw_warm {w : Cond} (h : am_isN w = true) {s U : State} (hW : s.WarmedH U.vm) (hz : va_Nw w s) : va_Nw w U := by
  unfold am_isN at h
  split at h
  · exact va_Nw.warmM hW hz
  · exact va_AO.moved hW.alike hz
  · cases h
theorem am_nw_same {w : Cond} (h : am_isN w = true) {s U : State} (hv : U.vm = s.vm) (hz : va_Nw w s) : va_Nw w U := by
  unfold am_isN at h
  split at h
  · exact va_Nw.same rfl hv.symm hz
  · exact va_AO.moved (by rw [hv]; exact Vm.Alike.refl _) hz
  · cases h
theorem am_nw_use {w : Cond} (h : am_isN w = true) {A : Array Value} {U : State} (hz : va_Nw w U) : w.before A U = true := by
  unfold am_isN at h
  split at h
  · exact va_Nw.use rfl hz
  · exact va_AO.use hz
  · cases h
theorem am_nw_of {w : Cond} (h : am_isN w = true) {A : Array Value} {U : State} (hz : w.before A U = true) : va_Nw w U := by
  unfold am_isN at h
  split at h
  · exact va_Nw.of rfl hz
  · exact va_AO.of hz
  · cases h
