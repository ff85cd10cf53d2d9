/-! the class: the tests that throw -/
set_option maxHeartbeats 4000000 in
set_option maxRecDepth 100000 in
theorem c_X3_requireArgument (l : Launch) (D : va_G) (cy : Nat → ClassId) (v : Int32) (hv : ¬ v = 0) : Met l yX3_requireArgument wsX3_requireArgument ({ frames := 0, cells := 0, slots := 0, locals := 0 } : Room) (va_Pc [.int v] (gR D (gT cy) [])) (va_Sv (fun _ => True)) 0 0 (fun _ => False) := by
  refine gM_v (cc := cX3_requireArgument) (maxL := 1) (by decide) rfl (Nat.le_of_ble_eq_true rfl) ?_
  intro pp ee ss mm bw mt cd QQ ls hfx hP hG hret hl
  obtain ⟨hx, hb, hml, hown, hts, hlocks⟩ := hfx
  have hown : ss.vm.findClass RX3 = some mm.cls := hown
  have hl : lv_has ls 1 [(0, .int v)] := hl
  refine lv_iload_n hx hb dX3_requireArgument_0 rfl (lv_at hl 0 rfl) ?_
  refine lv_if_ne (tgt := 14) hx hb dX3_requireArgument_1 (by decide) (fun c_1 => ?_) (fun c_1 => ?_)
  · skip
    exact hret _ _ dX3_requireArgument_14
  · skip
    exact absurd c_1 hv
theorem xg_X3_requireArgument : ∀ w ∈ Cond.classLink RX3 145 xIA :: Cond.initialized xIA :: vx_atS RX3 149 xIA xNm, vx_ot w = true := by decide +kernel
theorem xc_X3_requireArgument : ∀ w ∈ (vx_atS RX3 149 xIA xNm).filter (fun w => !goodWord w), w ∈ [Cond.castable xIA xIA, Cond.declares (Bundle.initS "java/lang/RuntimeException"), Cond.declares (Bundle.initS "java/lang/Exception"), Cond.declares (Bundle.initS Bundle.tN)] := by decide +kernel
set_option maxHeartbeats 4000000 in
set_option maxRecDepth 100000 in
theorem cx_X3_requireArgument (l : Launch) (hst : l.stackTraces = false) (D : va_G) (cy : Nat → ClassId) (sa : Nat → Nat) (sz : Nat) (v : Int32) (hv : v = 0) : vx_Met l yX3_requireArgument wsX3_requireArgument ({ frames := 6, cells := 1, slots := 6, locals := 90 } : Room) (va_Pc [.int v] (gX D (gT cy) sa [] sz)) gNo (gXC xIA sz) 1 6 (fun q => sz ≤ q) := by
  refine gM_x (cc := cX3_requireArgument) (maxL := 1) (ret := none) (by decide) rfl (Nat.le_of_ble_eq_true rfl) ?_
  intro pp ee ss mm bw mt cd QQ ls hfx hP hG hE ht hQ hx1 hl
  obtain ⟨hx, hb, hml, hown, hts, hlocks⟩ := hfx
  have hown : ss.vm.findClass RX3 = some mm.cls := hown
  have hl : lv_has ls 1 [(0, .int v)] := hl
  refine lv_iload_n hx hb dX3_requireArgument_0 rfl (lv_at hl 0 rfl) ?_
  refine lv_if_ne (tgt := 14) hx hb dX3_requireArgument_1 (by decide) (fun c_1 => ?_) (fun c_1 => ?_)
  · exact absurd hv c_1
  · rw [hQ]
    refine vx_throwS (own := RX3) (cls := xIA) (text := "a parameter is out of range") (names := xNm) (ik := 145) (is := 147) (ic := 149) (sa := sa 0) (A := fun q => ss.heap.size ≤ q) hx hb hst hown (by decide +kernel) (by decide +kernel) (hts (.classLink RX3 145 xIA) (by decide +kernel)) (hts (.initialized xIA) (by decide +kernel)) hE.2.2.1
      (vx_hat (fun w hw => hts w (List.mem_cons_of_mem _ (List.mem_append_right _ hw))) xc_X3_requireArgument (vx_c (va_Nw.use rfl hE.2.2.2.2.2.1) (vx_c (va_Nw.use rfl hE.2.2.2.2.2.2.2.2.1) (vx_c (va_Nw.use rfl hE.2.2.2.2.2.2.2.2.2.1) (vx_c (va_Nw.use rfl hE.2.2.2.2.2.2.2.2.2.2) vx_n))))) xg_X3_requireArgument hE.1 hE.2.1 va_S.rf (hl.1.trans hml.symm)
      dX3_requireArgument_4 dX3_requireArgument_7 dX3_requireArgument_8 dX3_requireArgument_10 dX3_requireArgument_13 (fun x hx9 => (ht x hx9).elim) (Nat.le_of_ble_eq_true rfl) (Nat.le_of_ble_eq_true rfl) (Nat.le_of_ble_eq_true rfl) (Nat.le_of_ble_eq_true rfl) hlocks
      (fun t _ h1 h2 => ⟨rfl, h1, fun q hq _ => h2 q hq⟩) (fun z hz => nomatch hz) (Nat.le_of_ble_eq_true rfl) (Nat.le_of_ble_eq_true rfl)
set_option maxHeartbeats 4000000 in
set_option maxRecDepth 100000 in
theorem c_X3_requireState (l : Launch) (D : va_G) (cy : Nat → ClassId) (v : Int32) (hv : ¬ v = 0) : Met l yX3_requireState wsX3_requireState ({ frames := 0, cells := 0, slots := 0, locals := 0 } : Room) (va_Pc [.int v] (gR D (gT cy) [])) (va_Sv (fun _ => True)) 0 0 (fun _ => False) := by
  refine gM_v (cc := cX3_requireState) (maxL := 1) (by decide) rfl (Nat.le_of_ble_eq_true rfl) ?_
  intro pp ee ss mm bw mt cd QQ ls hfx hP hG hret hl
  obtain ⟨hx, hb, hml, hown, hts, hlocks⟩ := hfx
  have hown : ss.vm.findClass RX3 = some mm.cls := hown
  have hl : lv_has ls 1 [(0, .int v)] := hl
  refine lv_iload_n hx hb dX3_requireState_0 rfl (lv_at hl 0 rfl) ?_
  refine lv_if_ne (tgt := 14) hx hb dX3_requireState_1 (by decide) (fun c_1 => ?_) (fun c_1 => ?_)
  · skip
    exact hret _ _ dX3_requireState_14
  · skip
    exact absurd c_1 hv
theorem xg_X3_requireState : ∀ w ∈ Cond.classLink RX3 150 xIS :: Cond.initialized xIS :: vx_atS RX3 154 xIS xNm, vx_ot w = true := by decide +kernel
theorem xc_X3_requireState : ∀ w ∈ (vx_atS RX3 154 xIS xNm).filter (fun w => !goodWord w), w ∈ [Cond.castable xIS xIS, Cond.declares (Bundle.initS "java/lang/RuntimeException"), Cond.declares (Bundle.initS "java/lang/Exception"), Cond.declares (Bundle.initS Bundle.tN)] := by decide +kernel
set_option maxHeartbeats 4000000 in
set_option maxRecDepth 100000 in
theorem cx_X3_requireState (l : Launch) (hst : l.stackTraces = false) (D : va_G) (cy : Nat → ClassId) (sa : Nat → Nat) (sz : Nat) (v : Int32) (hv : v = 0) : vx_Met l yX3_requireState wsX3_requireState ({ frames := 6, cells := 1, slots := 6, locals := 90 } : Room) (va_Pc [.int v] (gX D (gT cy) sa [] sz)) gNo (gXC xIS sz) 1 6 (fun q => sz ≤ q) := by
  refine gM_x (cc := cX3_requireState) (maxL := 1) (ret := none) (by decide) rfl (Nat.le_of_ble_eq_true rfl) ?_
  intro pp ee ss mm bw mt cd QQ ls hfx hP hG hE ht hQ hx1 hl
  obtain ⟨hx, hb, hml, hown, hts, hlocks⟩ := hfx
  have hown : ss.vm.findClass RX3 = some mm.cls := hown
  have hl : lv_has ls 1 [(0, .int v)] := hl
  refine lv_iload_n hx hb dX3_requireState_0 rfl (lv_at hl 0 rfl) ?_
  refine lv_if_ne (tgt := 14) hx hb dX3_requireState_1 (by decide) (fun c_1 => ?_) (fun c_1 => ?_)
  · exact absurd hv c_1
  · rw [hQ]
    refine vx_throwS (own := RX3) (cls := xIS) (text := "the client is not in the state for this") (names := xNm) (ik := 150) (is := 152) (ic := 154) (sa := sa 1) (A := fun q => ss.heap.size ≤ q) hx hb hst hown (by decide +kernel) (by decide +kernel) (hts (.classLink RX3 150 xIS) (by decide +kernel)) (hts (.initialized xIS) (by decide +kernel)) hE.2.2.2.1
      (vx_hat (fun w hw => hts w (List.mem_cons_of_mem _ (List.mem_append_right _ hw))) xc_X3_requireState (vx_c (va_Nw.use rfl hE.2.2.2.2.2.2.1) (vx_c (va_Nw.use rfl hE.2.2.2.2.2.2.2.2.1) (vx_c (va_Nw.use rfl hE.2.2.2.2.2.2.2.2.2.1) (vx_c (va_Nw.use rfl hE.2.2.2.2.2.2.2.2.2.2) vx_n))))) xg_X3_requireState hE.1 hE.2.1 va_S.rf (hl.1.trans hml.symm)
      dX3_requireState_4 dX3_requireState_7 dX3_requireState_8 dX3_requireState_10 dX3_requireState_13 (fun x hx9 => (ht x hx9).elim) (Nat.le_of_ble_eq_true rfl) (Nat.le_of_ble_eq_true rfl) (Nat.le_of_ble_eq_true rfl) (Nat.le_of_ble_eq_true rfl) hlocks
      (fun t _ h1 h2 => ⟨rfl, h1, fun q hq _ => h2 q hq⟩) (fun z hz => nomatch hz) (Nat.le_of_ble_eq_true rfl) (Nat.le_of_ble_eq_true rfl)
