/-! the class: calls that read, and calls that throw -/
theorem ok_idx {j n : Nat} (h : j ≤ n) (hn : n < 2 ^ 31) : pIn (nI j) 0 n := (pIn_nI (by omega)).mpr (by omega)
theorem ok_cell {c r : Nat} (hc : c < 16) (hr : r < 12) : pCell (nI c) (nI r) := ⟨ok_idx (n := 15) (by omega) (by decide), ok_idx (n := 11) (by omega) (by decide)⟩
theorem ok_box {c r w h : Nat} (hc : c < 16) (hr : r < 12) (hw : 1 ≤ w ∧ w + c ≤ 16) (hh : 1 ≤ h ∧ h + r ≤ 12) : pBox (nI c) (nI r) (nI w) (nI h) := by
  refine ⟨ok_cell hc hr, ?_, ?_⟩
  · rw [nI_toInt (by omega)]; exact (pIn_nI (by omega)).mpr (by omega)
  · rw [nI_toInt (by omega)]; exact (pIn_nI (by omega)).mpr (by omega)
theorem box_nat {c r w h : Int32} (hp : pBox c r w h) : ∃ c' r' w' h' : Nat, c = nI c' ∧ r = nI r' ∧ w = nI w' ∧ h = nI h' ∧ c' < 16 ∧ r' < 12 ∧ (1 ≤ w' ∧ w' + c' ≤ 16) ∧ (1 ≤ h' ∧ h' + r' ≤ 12) := by
  obtain ⟨⟨h1, h2⟩, h3, h4⟩ := hp
  obtain ⟨c', e1, rfl⟩ := pIn_nat (n := 15) h1
  obtain ⟨r', e2, rfl⟩ := pIn_nat (n := 11) h2
  rw [nI_toInt (by omega)] at h3 h4
  obtain ⟨w', e3, rfl⟩ := pIn_nat (v := w) (n := 16) ⟨by omega, by omega⟩
  obtain ⟨h', e4, rfl⟩ := pIn_nat (v := h) (n := 12) ⟨by omega, by omega⟩
  have h3 := (pIn_nI (by omega)).mp h3
  have h4 := (pIn_nI (by omega)).mp h4
  exact ⟨c', r', w', h', rfl, rfl, rfl, rfl, by omega, by omega, ⟨by omega, by omega⟩, ⟨by omega, by omega⟩⟩
theorem iX3_colours_X3 : ∀ w ∈ wsX30, w ∈ wsX3_colours := by decide +kernel
set_option maxHeartbeats 4000000 in
set_option maxRecDepth 100000 in
theorem c_X3_colours (l : Launch) (D : va_G) (cy : Nat → ClassId) (a : Nat → Nat) (uw : Int32) (fs : Nat → Int64) (t : Nat) (ht9 : t < 12) : Met l yX3_colours wsX3_colours ({ frames := 2, cells := 0, slots := 0, locals := 45 } : Room) (va_Pc [.ref (a 0), .int (nI t)] (gR D (gT cy) [(a 0, eTop (a 1) (a 3) (a 5) (a 6) uw), (a 1, eScr (a 2)), (a 2, eJ cy 12 fs)])) (vp_Si (fun r9 => r9 = nI (nCol (fs t)))) 0 0 (fun _ => False) := by
  refine gM_i (cc := cX3_colours) (maxL := 2) (ty := .int) (by decide) rfl (Nat.le_of_ble_eq_true rfl) (fun v hv => by rw [hv]; first | rfl | exact gb_nar _) ?_
  intro pp ee ss mm bw mt cd QQ ls hfx hP hG hret hl
  obtain ⟨hx, hb, hml, hown, hts, hlocks⟩ := hfx
  have hown : ss.vm.findClass RX3 = some mm.cls := hown
  have hl : lv_has ls 2 [(0, .ref (a 0)), (1, .int (nI t))] := hl
  refine lv_iload_n hx hb dX3_colours_0 rfl (lv_at hl 1 rfl) ?_
  refine lv_bipush (v := nI 12) hx hb dX3_colours_1 (by decide) ?_
  refine gc_Si (va_runS (As := [.int (nI t), .int (nI 12)]) (rest := []) ⟨hx, hb, hml, hown, hts⟩ (c_X3_isIndex l D cy (nI t) (nI 12)) (va_cwS 2 hts gX3_colours_X3_isIndex rfl rfl rfl (by decide +kernel) ⟨Nat.le_of_ble_eq_true rfl, Nat.le_of_ble_eq_true rfl⟩) (gpSR hG (hP.sub [] rfl)) rfl rfl hl.1 rfl (lv_room (Nat.le_of_ble_eq_true rfl)) dX3_colours_3 ⟨Nat.zero_le _, Nat.zero_le _⟩) ?_
  refine g_ti (y := gb (pIn (nI t) 0 11)) (congrArg (fun z => gb (pIn (nI t) 0 z)) (by decide)) ?_
  refine gc_Sv (va_runS (As := [.int (gb (pIn (nI t) 0 11))]) (rest := []) ⟨hx, hb, hml, hown, hts⟩ (c_X3_requireArgument l D cy (gb (pIn (nI t) 0 11)) (gb_ne0.mpr (ok_idx (n := 11) (by omega) (by decide)))) (va_cwS 1 hts gX3_colours_X3_requireArgument rfl rfl rfl (by decide +kernel) ⟨Nat.le_of_ble_eq_true rfl, Nat.le_of_ble_eq_true rfl⟩) (gpSR hG (hP.sub [] rfl)) rfl rfl hl.1 rfl (lv_room (Nat.le_of_ble_eq_true rfl)) dX3_colours_6 ⟨Nat.zero_le _, Nat.zero_le _⟩) ?_
  refine lv_aload_n hx hb dX3_colours_9 rfl (lv_at hl 0 rfl) ?_
  refine va_get (D := D) (ci := 3) (v := .ref (a 1)) (C := RX3) (T := TX3) (N := 5) hx hb hts iX3_colours_X3 hown hG.1 hP 0 rfl rfl 0 (by decide) (hts (.fieldLink RX3 10 "DirtyTiles" "screen" "LDirtyTiles$Screen;") (by decide +kernel)) (fun _ h9 => h9) rfl dX3_colours_10 ?_
  refine lv_iload_n hx hb dX3_colours_13 rfl (lv_at hl 1 rfl) ?_
  refine gc_Sl (va_runV (As := [.int (nI t)]) (rest := []) ⟨hx, hb, hml, hown, hts⟩ (c_X2_cellsOf l D cy (a 1) (a 2) fs t ht9) (cwV 1 hts gX3_colours_X2_cellsOf rfl rfl rfl (by decide +kernel) ⟨Nat.le_of_ble_eq_true rfl, Nat.le_of_ble_eq_true rfl⟩) (gpVR (ci := 2) (q0 := 0) hG (hP.sub [1, 2] rfl) rfl rfl) rfl rfl hl.1 rfl (lv_room (Nat.le_of_ble_eq_true rfl)) dX3_colours_14 ⟨Nat.zero_le _, Nat.zero_le _⟩) ?_
  refine gc_Si (va_runS (As := [.long (fs t)]) (rest := []) ⟨hx, hb, hml, hown, hts⟩ (c_X3_countColours l D cy (fs t)) (va_cwS 1 hts gX3_colours_X3_countColours rfl rfl rfl (by decide +kernel) ⟨Nat.le_of_ble_eq_true rfl, Nat.le_of_ble_eq_true rfl⟩) (gpSR hG (hP.sub [] rfl)) rfl rfl hl.1 rfl (lv_room (Nat.le_of_ble_eq_true rfl)) dX3_colours_17 ⟨Nat.zero_le _, Nat.zero_le _⟩) ?_
  exact hret _ _ _ dX3_colours_20 rfl
set_option maxHeartbeats 4000000 in
set_option maxRecDepth 100000 in
theorem cx_X3_colours (l : Launch) (hst : l.stackTraces = false) (D : va_G) (cy : Nat → ClassId) (sa : Nat → Nat) (sz : Nat) (a0 : Nat) (t : Int32) (hn : ¬ pIn t 0 11) : vx_Met l yX3_colours wsX3_colours ({ frames := 7, cells := 1, slots := 6, locals := 110 } : Room) (va_Pc [.ref a0, .int t] (gX D (gT cy) sa [] sz)) gNo (gXC xIA sz) 1 6 (fun q => sz ≤ q) := by
  refine gM_x (cc := cX3_colours) (maxL := 2) (ret := (some .int)) (by decide) rfl (Nat.le_of_ble_eq_true rfl) ?_
  intro pp ee ss mm bw mt cd QQ ls hfx hP hG hE ht hQ hx1 hl
  obtain ⟨hx, hb, hml, hown, hts, hlocks⟩ := hfx
  have hown : ss.vm.findClass RX3 = some mm.cls := hown
  have hl : lv_has ls 2 [(0, .ref a0), (1, .int t)] := hl
  refine lv_iload_n hx hb dX3_colours_0 rfl (lv_at hl 1 rfl) ?_
  refine lv_bipush (v := nI 12) hx hb dX3_colours_1 (by decide) ?_
  refine gc_Si (va_runS (As := [.int t, .int (nI 12)]) (rest := []) ⟨hx, hb, hml, hown, hts⟩ (c_X3_isIndex l D cy t (nI 12)) (va_cwS 2 hts gX3_colours_X3_isIndex rfl rfl rfl (by decide +kernel) ⟨Nat.le_of_ble_eq_true rfl, Nat.le_of_ble_eq_true rfl⟩) (gpSR hG (hP.sub [] rfl)) rfl rfl hl.1 rfl (lv_room (Nat.le_of_ble_eq_true rfl)) dX3_colours_3 ⟨Nat.zero_le _, Nat.zero_le _⟩) ?_
  refine g_ti (y := gb (pIn t 0 11)) (congrArg (fun z => gb (pIn t 0 z)) (by decide)) ?_
  exact hx1 _ _ _ _ _ (fun _ _ _ h => h) (vx_runS (As := [.int (gb (pIn t 0 11))]) (rest := []) ⟨hx, hb, hml, hown, hts⟩ (cx_X3_requireArgument l hst D cy sa ss.heap.size (gb (pIn t 0 11)) (gb_eq0.mpr (hn))) (va_cwS 1 hts gX3_colours_X3_requireArgument rfl rfl rfl (by decide +kernel) ⟨Nat.le_of_ble_eq_true rfl, Nat.le_of_ble_eq_true rfl⟩) (gpSX hG hE (hP.sub [] rfl)) rfl rfl hl.1 rfl (lv_room (Nat.le_of_ble_eq_true rfl)) dX3_colours_6 ⟨Nat.le_of_ble_eq_true rfl, Nat.le_of_ble_eq_true rfl⟩)
theorem iX3_runs_X3 : ∀ w ∈ wsX30, w ∈ wsX3_runs := by decide +kernel
set_option maxHeartbeats 4000000 in
set_option maxRecDepth 100000 in
theorem c_X3_runs (l : Launch) (D : va_G) (cy : Nat → ClassId) (a : Nat → Nat) (uw : Int32) (fs : Nat → Int64) (t : Nat) (ht9 : t < 12) : Met l yX3_runs wsX3_runs ({ frames := 2, cells := 0, slots := 0, locals := 45 } : Room) (va_Pc [.ref (a 0), .int (nI t)] (gR D (gT cy) [(a 0, eTop (a 1) (a 3) (a 5) (a 6) uw), (a 1, eScr (a 2)), (a 2, eJ cy 12 fs)])) (vp_Si (fun r9 => r9 = nI (nRun (fs t)))) 0 0 (fun _ => False) := by
  refine gM_i (cc := cX3_runs) (maxL := 2) (ty := .int) (by decide) rfl (Nat.le_of_ble_eq_true rfl) (fun v hv => by rw [hv]; first | rfl | exact gb_nar _) ?_
  intro pp ee ss mm bw mt cd QQ ls hfx hP hG hret hl
  obtain ⟨hx, hb, hml, hown, hts, hlocks⟩ := hfx
  have hown : ss.vm.findClass RX3 = some mm.cls := hown
  have hl : lv_has ls 2 [(0, .ref (a 0)), (1, .int (nI t))] := hl
  refine lv_iload_n hx hb dX3_runs_0 rfl (lv_at hl 1 rfl) ?_
  refine lv_bipush (v := nI 12) hx hb dX3_runs_1 (by decide) ?_
  refine gc_Si (va_runS (As := [.int (nI t), .int (nI 12)]) (rest := []) ⟨hx, hb, hml, hown, hts⟩ (c_X3_isIndex l D cy (nI t) (nI 12)) (va_cwS 2 hts gX3_runs_X3_isIndex rfl rfl rfl (by decide +kernel) ⟨Nat.le_of_ble_eq_true rfl, Nat.le_of_ble_eq_true rfl⟩) (gpSR hG (hP.sub [] rfl)) rfl rfl hl.1 rfl (lv_room (Nat.le_of_ble_eq_true rfl)) dX3_runs_3 ⟨Nat.zero_le _, Nat.zero_le _⟩) ?_
  refine g_ti (y := gb (pIn (nI t) 0 11)) (congrArg (fun z => gb (pIn (nI t) 0 z)) (by decide)) ?_
  refine gc_Sv (va_runS (As := [.int (gb (pIn (nI t) 0 11))]) (rest := []) ⟨hx, hb, hml, hown, hts⟩ (c_X3_requireArgument l D cy (gb (pIn (nI t) 0 11)) (gb_ne0.mpr (ok_idx (n := 11) (by omega) (by decide)))) (va_cwS 1 hts gX3_runs_X3_requireArgument rfl rfl rfl (by decide +kernel) ⟨Nat.le_of_ble_eq_true rfl, Nat.le_of_ble_eq_true rfl⟩) (gpSR hG (hP.sub [] rfl)) rfl rfl hl.1 rfl (lv_room (Nat.le_of_ble_eq_true rfl)) dX3_runs_6 ⟨Nat.zero_le _, Nat.zero_le _⟩) ?_
  refine lv_aload_n hx hb dX3_runs_9 rfl (lv_at hl 0 rfl) ?_
  refine va_get (D := D) (ci := 3) (v := .ref (a 1)) (C := RX3) (T := TX3) (N := 5) hx hb hts iX3_runs_X3 hown hG.1 hP 0 rfl rfl 0 (by decide) (hts (.fieldLink RX3 10 "DirtyTiles" "screen" "LDirtyTiles$Screen;") (by decide +kernel)) (fun _ h9 => h9) rfl dX3_runs_10 ?_
  refine lv_iload_n hx hb dX3_runs_13 rfl (lv_at hl 1 rfl) ?_
  refine gc_Sl (va_runV (As := [.int (nI t)]) (rest := []) ⟨hx, hb, hml, hown, hts⟩ (c_X2_cellsOf l D cy (a 1) (a 2) fs t ht9) (cwV 1 hts gX3_runs_X2_cellsOf rfl rfl rfl (by decide +kernel) ⟨Nat.le_of_ble_eq_true rfl, Nat.le_of_ble_eq_true rfl⟩) (gpVR (ci := 2) (q0 := 0) hG (hP.sub [1, 2] rfl) rfl rfl) rfl rfl hl.1 rfl (lv_room (Nat.le_of_ble_eq_true rfl)) dX3_runs_14 ⟨Nat.zero_le _, Nat.zero_le _⟩) ?_
  refine gc_Si (va_runS (As := [.long (fs t)]) (rest := []) ⟨hx, hb, hml, hown, hts⟩ (c_X3_countRuns l D cy (fs t)) (va_cwS 1 hts gX3_runs_X3_countRuns rfl rfl rfl (by decide +kernel) ⟨Nat.le_of_ble_eq_true rfl, Nat.le_of_ble_eq_true rfl⟩) (gpSR hG (hP.sub [] rfl)) rfl rfl hl.1 rfl (lv_room (Nat.le_of_ble_eq_true rfl)) dX3_runs_17 ⟨Nat.zero_le _, Nat.zero_le _⟩) ?_
  exact hret _ _ _ dX3_runs_20 rfl
set_option maxHeartbeats 4000000 in
set_option maxRecDepth 100000 in
theorem cx_X3_runs (l : Launch) (hst : l.stackTraces = false) (D : va_G) (cy : Nat → ClassId) (sa : Nat → Nat) (sz : Nat) (a0 : Nat) (t : Int32) (hn : ¬ pIn t 0 11) : vx_Met l yX3_runs wsX3_runs ({ frames := 7, cells := 1, slots := 6, locals := 110 } : Room) (va_Pc [.ref a0, .int t] (gX D (gT cy) sa [] sz)) gNo (gXC xIA sz) 1 6 (fun q => sz ≤ q) := by
  refine gM_x (cc := cX3_runs) (maxL := 2) (ret := (some .int)) (by decide) rfl (Nat.le_of_ble_eq_true rfl) ?_
  intro pp ee ss mm bw mt cd QQ ls hfx hP hG hE ht hQ hx1 hl
  obtain ⟨hx, hb, hml, hown, hts, hlocks⟩ := hfx
  have hown : ss.vm.findClass RX3 = some mm.cls := hown
  have hl : lv_has ls 2 [(0, .ref a0), (1, .int t)] := hl
  refine lv_iload_n hx hb dX3_runs_0 rfl (lv_at hl 1 rfl) ?_
  refine lv_bipush (v := nI 12) hx hb dX3_runs_1 (by decide) ?_
  refine gc_Si (va_runS (As := [.int t, .int (nI 12)]) (rest := []) ⟨hx, hb, hml, hown, hts⟩ (c_X3_isIndex l D cy t (nI 12)) (va_cwS 2 hts gX3_runs_X3_isIndex rfl rfl rfl (by decide +kernel) ⟨Nat.le_of_ble_eq_true rfl, Nat.le_of_ble_eq_true rfl⟩) (gpSR hG (hP.sub [] rfl)) rfl rfl hl.1 rfl (lv_room (Nat.le_of_ble_eq_true rfl)) dX3_runs_3 ⟨Nat.zero_le _, Nat.zero_le _⟩) ?_
  refine g_ti (y := gb (pIn t 0 11)) (congrArg (fun z => gb (pIn t 0 z)) (by decide)) ?_
  exact hx1 _ _ _ _ _ (fun _ _ _ h => h) (vx_runS (As := [.int (gb (pIn t 0 11))]) (rest := []) ⟨hx, hb, hml, hown, hts⟩ (cx_X3_requireArgument l hst D cy sa ss.heap.size (gb (pIn t 0 11)) (gb_eq0.mpr (hn))) (va_cwS 1 hts gX3_runs_X3_requireArgument rfl rfl rfl (by decide +kernel) ⟨Nat.le_of_ble_eq_true rfl, Nat.le_of_ble_eq_true rfl⟩) (gpSX hG hE (hP.sub [] rfl)) rfl rfl hl.1 rfl (lv_room (Nat.le_of_ble_eq_true rfl)) dX3_runs_6 ⟨Nat.le_of_ble_eq_true rfl, Nat.le_of_ble_eq_true rfl⟩)
theorem iX3_written_X3 : ∀ w ∈ wsX30, w ∈ wsX3_written := by decide +kernel
set_option maxHeartbeats 4000000 in
set_option maxRecDepth 100000 in
theorem c_X3_written (l : Launch) (D : va_G) (cy : Nat → ClassId) (a : Nat → Nat) (uw : Int32) (fw : Nat → Int32) (w : Nat) (hw : w < 5) : Met l yX3_written wsX3_written ({ frames := 1, cells := 0, slots := 0, locals := 21 } : Room) (va_Pc [.ref (a 0), .int (nI w)] (gR D (gT cy) [(a 0, eTop (a 1) (a 3) (a 5) (a 6) uw), (a 6, eI cy 5 fw)])) (vp_Si (fun r9 => r9 = fw w)) 0 0 (fun _ => False) := by
  refine gM_i (cc := cX3_written) (maxL := 2) (ty := .int) (by decide) rfl (Nat.le_of_ble_eq_true rfl) (fun v hv => by rw [hv]; first | rfl | exact gb_nar _) ?_
  intro pp ee ss mm bw mt cd QQ ls hfx hP hG hret hl
  obtain ⟨hx, hb, hml, hown, hts, hlocks⟩ := hfx
  have hown : ss.vm.findClass RX3 = some mm.cls := hown
  have hl : lv_has ls 2 [(0, .ref (a 0)), (1, .int (nI w))] := hl
  refine lv_iload_n hx hb dX3_written_0 rfl (lv_at hl 1 rfl) ?_
  refine lv_iconst (v := nI 5) hx hb dX3_written_1 (by decide) ?_
  refine gc_Si (va_runS (As := [.int (nI w), .int (nI 5)]) (rest := []) ⟨hx, hb, hml, hown, hts⟩ (c_X3_isIndex l D cy (nI w) (nI 5)) (va_cwS 2 hts gX3_written_X3_isIndex rfl rfl rfl (by decide +kernel) ⟨Nat.le_of_ble_eq_true rfl, Nat.le_of_ble_eq_true rfl⟩) (gpSR hG (hP.sub [] rfl)) rfl rfl hl.1 rfl (lv_room (Nat.le_of_ble_eq_true rfl)) dX3_written_2 ⟨Nat.zero_le _, Nat.zero_le _⟩) ?_
  refine g_ti (y := gb (pIn (nI w) 0 4)) (congrArg (fun z => gb (pIn (nI w) 0 z)) (by decide)) ?_
  refine gc_Sv (va_runS (As := [.int (gb (pIn (nI w) 0 4))]) (rest := []) ⟨hx, hb, hml, hown, hts⟩ (c_X3_requireArgument l D cy (gb (pIn (nI w) 0 4)) (gb_ne0.mpr (ok_idx (n := 4) (by omega) (by decide)))) (va_cwS 1 hts gX3_written_X3_requireArgument rfl rfl rfl (by decide +kernel) ⟨Nat.le_of_ble_eq_true rfl, Nat.le_of_ble_eq_true rfl⟩) (gpSR hG (hP.sub [] rfl)) rfl rfl hl.1 rfl (lv_room (Nat.le_of_ble_eq_true rfl)) dX3_written_5 ⟨Nat.zero_le _, Nat.zero_le _⟩) ?_
  refine lv_aload_n hx hb dX3_written_8 rfl (lv_at hl 0 rfl) ?_
  refine va_get (D := D) (ci := 3) (v := .ref (a 6)) (C := RX3) (T := TX3) (N := 5) hx hb hts iX3_written_X3 hown hG.1 hP 0 rfl rfl 3 (by decide) (hts (.fieldLink RX3 25 "DirtyTiles" "tilesWritten" "[I") (by decide +kernel)) (fun _ h9 => h9) rfl dX3_written_9 ?_
  refine lv_iload_n hx hb dX3_written_12 rfl (lv_at hl 1 rfl) ?_
  refine g_iald hx hb hG hP 1 0 rfl rfl (k := w) (by omega) (by decide) dX3_written_13 ?_
  exact hret _ _ _ dX3_written_14 rfl
set_option maxHeartbeats 4000000 in
set_option maxRecDepth 100000 in
theorem cx_X3_written (l : Launch) (hst : l.stackTraces = false) (D : va_G) (cy : Nat → ClassId) (sa : Nat → Nat) (sz : Nat) (a0 : Nat) (w : Int32) (hn : ¬ pIn w 0 4) : vx_Met l yX3_written wsX3_written ({ frames := 7, cells := 1, slots := 6, locals := 110 } : Room) (va_Pc [.ref a0, .int w] (gX D (gT cy) sa [] sz)) gNo (gXC xIA sz) 1 6 (fun q => sz ≤ q) := by
  refine gM_x (cc := cX3_written) (maxL := 2) (ret := (some .int)) (by decide) rfl (Nat.le_of_ble_eq_true rfl) ?_
  intro pp ee ss mm bw mt cd QQ ls hfx hP hG hE ht hQ hx1 hl
  obtain ⟨hx, hb, hml, hown, hts, hlocks⟩ := hfx
  have hown : ss.vm.findClass RX3 = some mm.cls := hown
  have hl : lv_has ls 2 [(0, .ref a0), (1, .int w)] := hl
  refine lv_iload_n hx hb dX3_written_0 rfl (lv_at hl 1 rfl) ?_
  refine lv_iconst (v := nI 5) hx hb dX3_written_1 (by decide) ?_
  refine gc_Si (va_runS (As := [.int w, .int (nI 5)]) (rest := []) ⟨hx, hb, hml, hown, hts⟩ (c_X3_isIndex l D cy w (nI 5)) (va_cwS 2 hts gX3_written_X3_isIndex rfl rfl rfl (by decide +kernel) ⟨Nat.le_of_ble_eq_true rfl, Nat.le_of_ble_eq_true rfl⟩) (gpSR hG (hP.sub [] rfl)) rfl rfl hl.1 rfl (lv_room (Nat.le_of_ble_eq_true rfl)) dX3_written_2 ⟨Nat.zero_le _, Nat.zero_le _⟩) ?_
  refine g_ti (y := gb (pIn w 0 4)) (congrArg (fun z => gb (pIn w 0 z)) (by decide)) ?_
  exact hx1 _ _ _ _ _ (fun _ _ _ h => h) (vx_runS (As := [.int (gb (pIn w 0 4))]) (rest := []) ⟨hx, hb, hml, hown, hts⟩ (cx_X3_requireArgument l hst D cy sa ss.heap.size (gb (pIn w 0 4)) (gb_eq0.mpr (hn))) (va_cwS 1 hts gX3_written_X3_requireArgument rfl rfl rfl (by decide +kernel) ⟨Nat.le_of_ble_eq_true rfl, Nat.le_of_ble_eq_true rfl⟩) (gpSX hG hE (hP.sub [] rfl)) rfl rfl hl.1 rfl (lv_room (Nat.le_of_ble_eq_true rfl)) dX3_written_5 ⟨Nat.le_of_ble_eq_true rfl, Nat.le_of_ble_eq_true rfl⟩)
theorem iX3_units_X3 : ∀ w ∈ wsX30, w ∈ wsX3_units := by decide +kernel
set_option maxHeartbeats 4000000 in
set_option maxRecDepth 100000 in
theorem c_X3_units (l : Launch) (D : va_G) (cy : Nat → ClassId) (a : Nat → Nat) (uw : Int32)  : Met l yX3_units wsX3_units ({ frames := 0, cells := 0, slots := 0, locals := 0 } : Room) (va_Pc [.ref (a 0)] (gR D (gT cy) [(a 0, eTop (a 1) (a 3) (a 5) (a 6) uw)])) (vp_Si (fun r9 => r9 = uw)) 0 0 (fun _ => False) := by
  refine gM_i (cc := cX3_units) (maxL := 1) (ty := .int) (by decide) rfl (Nat.le_of_ble_eq_true rfl) (fun v hv => by rw [hv]; first | rfl | exact gb_nar _) ?_
  intro pp ee ss mm bw mt cd QQ ls hfx hP hG hret hl
  obtain ⟨hx, hb, hml, hown, hts, hlocks⟩ := hfx
  have hown : ss.vm.findClass RX3 = some mm.cls := hown
  have hl : lv_has ls 1 [(0, .ref (a 0))] := hl
  refine lv_aload_n hx hb dX3_units_0 rfl (lv_at hl 0 rfl) ?_
  refine va_get (D := D) (ci := 3) (v := .int uw) (C := RX3) (T := TX3) (N := 5) hx hb hts iX3_units_X3 hown hG.1 hP 0 rfl rfl 4 (by decide) (hts (.fieldLink RX3 29 "DirtyTiles" "unitsWritten" "I") (by decide +kernel)) (fun _ h9 => h9) rfl dX3_units_1 ?_
  exact hret _ _ _ dX3_units_4 rfl
theorem iX3_dirty_X3 : ∀ w ∈ wsX30, w ∈ wsX3_dirty := by decide +kernel
set_option maxHeartbeats 4000000 in
set_option maxRecDepth 100000 in
theorem c_X3_dirty (l : Launch) (D : va_G) (cy : Nat → ClassId) (a q : Nat → Nat) (uw : Int32) (g : Nat → Option Nat) (J : Prop) (dc k : Int32) (i : Nat) (hi : i < 2) (hg : g i = some (q 0)) (hJ : J) : Met l yX3_dirty wsX3_dirty ({ frames := 1, cells := 0, slots := 0, locals := 21 } : Room) (va_Pc [.ref (a 0), .int (nI i)] (gR D (gT cy) [(a 0, eTop (a 1) (a 3) (a 5) (a 6) uw), (a 5, eQ cy 2 g), (q 0, eCli (gb (J)) (q 1) (q 3) (q 5) (q 7) dc (q 8) (q 9) k)])) (vp_Si (fun r9 => r9 = dc)) 0 0 (fun _ => False) := by
  refine gM_i (cc := cX3_dirty) (maxL := 2) (ty := .int) (by decide) rfl (Nat.le_of_ble_eq_true rfl) (fun v hv => by rw [hv]; first | rfl | exact gb_nar _) ?_
  intro pp ee ss mm bw mt cd QQ ls hfx hP hG hret hl
  obtain ⟨hx, hb, hml, hown, hts, hlocks⟩ := hfx
  have hown : ss.vm.findClass RX3 = some mm.cls := hown
  have hl : lv_has ls 2 [(0, .ref (a 0)), (1, .int (nI i))] := hl
  refine lv_iload_n hx hb dX3_dirty_0 rfl (lv_at hl 1 rfl) ?_
  refine lv_iconst (v := nI 2) hx hb dX3_dirty_1 (by decide) ?_
  refine gc_Si (va_runS (As := [.int (nI i), .int (nI 2)]) (rest := []) ⟨hx, hb, hml, hown, hts⟩ (c_X3_isIndex l D cy (nI i) (nI 2)) (va_cwS 2 hts gX3_dirty_X3_isIndex rfl rfl rfl (by decide +kernel) ⟨Nat.le_of_ble_eq_true rfl, Nat.le_of_ble_eq_true rfl⟩) (gpSR hG (hP.sub [] rfl)) rfl rfl hl.1 rfl (lv_room (Nat.le_of_ble_eq_true rfl)) dX3_dirty_2 ⟨Nat.zero_le _, Nat.zero_le _⟩) ?_
  refine g_ti (y := gb (pIn (nI i) 0 1)) (congrArg (fun z => gb (pIn (nI i) 0 z)) (by decide)) ?_
  refine gc_Sv (va_runS (As := [.int (gb (pIn (nI i) 0 1))]) (rest := []) ⟨hx, hb, hml, hown, hts⟩ (c_X3_requireArgument l D cy (gb (pIn (nI i) 0 1)) (gb_ne0.mpr (ok_idx (n := 1) (by omega) (by decide)))) (va_cwS 1 hts gX3_dirty_X3_requireArgument rfl rfl rfl (by decide +kernel) ⟨Nat.le_of_ble_eq_true rfl, Nat.le_of_ble_eq_true rfl⟩) (gpSR hG (hP.sub [] rfl)) rfl rfl hl.1 rfl (lv_room (Nat.le_of_ble_eq_true rfl)) dX3_dirty_5 ⟨Nat.zero_le _, Nat.zero_le _⟩) ?_
  refine lv_aload_n hx hb dX3_dirty_8 rfl (lv_at hl 0 rfl) ?_
  refine va_get (D := D) (ci := 3) (v := .ref (a 5)) (C := RX3) (T := TX3) (N := 5) hx hb hts iX3_dirty_X3 hown hG.1 hP 0 rfl rfl 2 (by decide) (hts (.fieldLink RX3 21 "DirtyTiles" "clients" "[LDirtyTiles$Client;") (by decide +kernel)) (fun _ h9 => h9) rfl dX3_dirty_9 ?_
  refine lv_iload_n hx hb dX3_dirty_12 rfl (lv_at hl 1 rfl) ?_
  refine g_aldq hx hb hG hP 1 3 rfl rfl (k := i) (x := q 0) (by omega) (by decide) hg dX3_dirty_13 ?_
  refine gc_Si (va_runV (As := []) (rest := []) ⟨hx, hb, hml, hown, hts⟩ (c_X1_hasJoined l D cy q J dc k) (cwV 0 hts gX3_dirty_X1_hasJoined rfl rfl rfl (by decide +kernel) ⟨Nat.le_of_ble_eq_true rfl, Nat.le_of_ble_eq_true rfl⟩) (gpVR (ci := 1) (q0 := 0) hG (hP.sub [2] rfl) rfl rfl) rfl rfl hl.1 rfl (lv_room (Nat.le_of_ble_eq_true rfl)) dX3_dirty_14 ⟨Nat.zero_le _, Nat.zero_le _⟩) ?_
  refine gc_Sv (va_runS (As := [.int (gb (J))]) (rest := []) ⟨hx, hb, hml, hown, hts⟩ (c_X3_requireState l D cy (gb (J)) (gb_ne0.mpr (hJ))) (va_cwS 1 hts gX3_dirty_X3_requireState rfl rfl rfl (by decide +kernel) ⟨Nat.le_of_ble_eq_true rfl, Nat.le_of_ble_eq_true rfl⟩) (gpSR hG (hP.sub [] rfl)) rfl rfl hl.1 rfl (lv_room (Nat.le_of_ble_eq_true rfl)) dX3_dirty_17 ⟨Nat.zero_le _, Nat.zero_le _⟩) ?_
  refine lv_aload_n hx hb dX3_dirty_20 rfl (lv_at hl 0 rfl) ?_
  refine va_get (D := D) (ci := 3) (v := .ref (a 5)) (C := RX3) (T := TX3) (N := 5) hx hb hts iX3_dirty_X3 hown hG.1 hP 0 rfl rfl 2 (by decide) (hts (.fieldLink RX3 21 "DirtyTiles" "clients" "[LDirtyTiles$Client;") (by decide +kernel)) (fun _ h9 => h9) rfl dX3_dirty_21 ?_
  refine lv_iload_n hx hb dX3_dirty_24 rfl (lv_at hl 1 rfl) ?_
  refine g_aldq hx hb hG hP 1 3 rfl rfl (k := i) (x := q 0) (by omega) (by decide) hg dX3_dirty_25 ?_
  refine gc_Si (va_runV (As := []) (rest := []) ⟨hx, hb, hml, hown, hts⟩ (c_X1_dirtyCount l D cy q J dc k) (cwV 0 hts gX3_dirty_X1_dirtyCount rfl rfl rfl (by decide +kernel) ⟨Nat.le_of_ble_eq_true rfl, Nat.le_of_ble_eq_true rfl⟩) (gpVR (ci := 1) (q0 := 0) hG (hP.sub [2] rfl) rfl rfl) rfl rfl hl.1 rfl (lv_room (Nat.le_of_ble_eq_true rfl)) dX3_dirty_26 ⟨Nat.zero_le _, Nat.zero_le _⟩) ?_
  exact hret _ _ _ dX3_dirty_29 rfl
theorem iX3_cached_X3 : ∀ w ∈ wsX30, w ∈ wsX3_cached := by decide +kernel
set_option maxHeartbeats 4000000 in
set_option maxRecDepth 100000 in
theorem c_X3_cached (l : Launch) (D : va_G) (cy : Nat → ClassId) (a q : Nat → Nat) (uw : Int32) (g : Nat → Option Nat) (J : Prop) (dc k : Int32) (i : Nat) (n : Nat) (f : Nat → Int64) (L : List Int64) (hi : i < 2) (hg : g i = some (q 0)) (hJ : J) (hf : hC L f) (hL : L.length ≤ 6) : Met l yX3_cached wsX3_cached ({ frames := 1, cells := 0, slots := 0, locals := 21 } : Room) (va_Pc [.ref (a 0), .int (nI i)] (gR D (gT cy) [(a 0, eTop (a 1) (a 3) (a 5) (a 6) uw), (a 5, eQ cy 2 g), (q 0, eCli (gb (J)) (q 1) (q 3) (q 5) (q 7) dc (q 8) (q 9) k), (q 3, eCch (q 4) (nI L.length)), (q 4, eJ cy 6 f)])) (vp_Si (fun r9 => r9 = nI L.length)) 0 0 (fun _ => False) := by
  refine gM_i (cc := cX3_cached) (maxL := 2) (ty := .int) (by decide) rfl (Nat.le_of_ble_eq_true rfl) (fun v hv => by rw [hv]; first | rfl | exact gb_nar _) ?_
  intro pp ee ss mm bw mt cd QQ ls hfx hP hG hret hl
  obtain ⟨hx, hb, hml, hown, hts, hlocks⟩ := hfx
  have hown : ss.vm.findClass RX3 = some mm.cls := hown
  have hl : lv_has ls 2 [(0, .ref (a 0)), (1, .int (nI i))] := hl
  refine lv_iload_n hx hb dX3_cached_0 rfl (lv_at hl 1 rfl) ?_
  refine lv_iconst (v := nI 2) hx hb dX3_cached_1 (by decide) ?_
  refine gc_Si (va_runS (As := [.int (nI i), .int (nI 2)]) (rest := []) ⟨hx, hb, hml, hown, hts⟩ (c_X3_isIndex l D cy (nI i) (nI 2)) (va_cwS 2 hts gX3_cached_X3_isIndex rfl rfl rfl (by decide +kernel) ⟨Nat.le_of_ble_eq_true rfl, Nat.le_of_ble_eq_true rfl⟩) (gpSR hG (hP.sub [] rfl)) rfl rfl hl.1 rfl (lv_room (Nat.le_of_ble_eq_true rfl)) dX3_cached_2 ⟨Nat.zero_le _, Nat.zero_le _⟩) ?_
  refine g_ti (y := gb (pIn (nI i) 0 1)) (congrArg (fun z => gb (pIn (nI i) 0 z)) (by decide)) ?_
  refine gc_Sv (va_runS (As := [.int (gb (pIn (nI i) 0 1))]) (rest := []) ⟨hx, hb, hml, hown, hts⟩ (c_X3_requireArgument l D cy (gb (pIn (nI i) 0 1)) (gb_ne0.mpr (ok_idx (n := 1) (by omega) (by decide)))) (va_cwS 1 hts gX3_cached_X3_requireArgument rfl rfl rfl (by decide +kernel) ⟨Nat.le_of_ble_eq_true rfl, Nat.le_of_ble_eq_true rfl⟩) (gpSR hG (hP.sub [] rfl)) rfl rfl hl.1 rfl (lv_room (Nat.le_of_ble_eq_true rfl)) dX3_cached_5 ⟨Nat.zero_le _, Nat.zero_le _⟩) ?_
  refine lv_aload_n hx hb dX3_cached_8 rfl (lv_at hl 0 rfl) ?_
  refine va_get (D := D) (ci := 3) (v := .ref (a 5)) (C := RX3) (T := TX3) (N := 5) hx hb hts iX3_cached_X3 hown hG.1 hP 0 rfl rfl 2 (by decide) (hts (.fieldLink RX3 21 "DirtyTiles" "clients" "[LDirtyTiles$Client;") (by decide +kernel)) (fun _ h9 => h9) rfl dX3_cached_9 ?_
  refine lv_iload_n hx hb dX3_cached_12 rfl (lv_at hl 1 rfl) ?_
  refine g_aldq hx hb hG hP 1 3 rfl rfl (k := i) (x := q 0) (by omega) (by decide) hg dX3_cached_13 ?_
  refine gc_Si (va_runV (As := []) (rest := []) ⟨hx, hb, hml, hown, hts⟩ (c_X1_hasJoined l D cy q J dc k) (cwV 0 hts gX3_cached_X1_hasJoined rfl rfl rfl (by decide +kernel) ⟨Nat.le_of_ble_eq_true rfl, Nat.le_of_ble_eq_true rfl⟩) (gpVR (ci := 1) (q0 := 0) hG (hP.sub [2] rfl) rfl rfl) rfl rfl hl.1 rfl (lv_room (Nat.le_of_ble_eq_true rfl)) dX3_cached_14 ⟨Nat.zero_le _, Nat.zero_le _⟩) ?_
  refine gc_Sv (va_runS (As := [.int (gb (J))]) (rest := []) ⟨hx, hb, hml, hown, hts⟩ (c_X3_requireState l D cy (gb (J)) (gb_ne0.mpr (hJ))) (va_cwS 1 hts gX3_cached_X3_requireState rfl rfl rfl (by decide +kernel) ⟨Nat.le_of_ble_eq_true rfl, Nat.le_of_ble_eq_true rfl⟩) (gpSR hG (hP.sub [] rfl)) rfl rfl hl.1 rfl (lv_room (Nat.le_of_ble_eq_true rfl)) dX3_cached_17 ⟨Nat.zero_le _, Nat.zero_le _⟩) ?_
  refine lv_aload_n hx hb dX3_cached_20 rfl (lv_at hl 0 rfl) ?_
  refine va_get (D := D) (ci := 3) (v := .ref (a 5)) (C := RX3) (T := TX3) (N := 5) hx hb hts iX3_cached_X3 hown hG.1 hP 0 rfl rfl 2 (by decide) (hts (.fieldLink RX3 21 "DirtyTiles" "clients" "[LDirtyTiles$Client;") (by decide +kernel)) (fun _ h9 => h9) rfl dX3_cached_21 ?_
  refine lv_iload_n hx hb dX3_cached_24 rfl (lv_at hl 1 rfl) ?_
  refine g_aldq hx hb hG hP 1 3 rfl rfl (k := i) (x := q 0) (by omega) (by decide) hg dX3_cached_25 ?_
  refine gc_Sa (va_runV (As := []) (rest := []) ⟨hx, hb, hml, hown, hts⟩ (c_X1_ownCache l D cy q J dc k) (cwV 0 hts gX3_cached_X1_ownCache rfl rfl rfl (by decide +kernel) ⟨Nat.le_of_ble_eq_true rfl, Nat.le_of_ble_eq_true rfl⟩) (gpVR (ci := 1) (q0 := 0) hG (hP.sub [2] rfl) rfl rfl) rfl rfl hl.1 rfl (lv_room (Nat.le_of_ble_eq_true rfl)) dX3_cached_26 ⟨Nat.zero_le _, Nat.zero_le _⟩) ?_
  refine gc_Si (va_runV (As := []) (rest := []) ⟨hx, hb, hml, hown, hts⟩ (c_X0_size l D cy (q 3) (q 4) L f hf hL) (cwV 0 hts gX3_cached_X0_size rfl rfl rfl (by decide +kernel) ⟨Nat.le_of_ble_eq_true rfl, Nat.le_of_ble_eq_true rfl⟩) (gpVR (ci := 0) (q0 := 0) hG (hP.sub [3, 4] rfl) rfl rfl) rfl rfl hl.1 rfl (lv_room (Nat.le_of_ble_eq_true rfl)) dX3_cached_29 ⟨Nat.zero_le _, Nat.zero_le _⟩) ?_
  exact hret _ _ _ dX3_cached_32 rfl
theorem iX3_isAlike_X3 : ∀ w ∈ wsX30, w ∈ wsX3_isAlike := by decide +kernel
set_option maxHeartbeats 4000000 in
set_option maxRecDepth 100000 in
theorem c_X3_isAlike (l : Launch) (D : va_G) (cy : Nat → ClassId) (a q : Nat → Nat) (uw : Int32) (g : Nat → Option Nat) (J : Prop) (dc k : Int32) (i : Nat) (L : List Int64) (f : Nat → Int64) (K : List Int64) (h : Nat → Int64) (hi : i < 2) (hg : g i = some (q 0)) (hJ : J) (hf : hC L f) (hL : L.length ≤ 6) (hh : hC K h) (hK : K.length ≤ 6) : Met l yX3_isAlike wsX3_isAlike ({ frames := 1, cells := 0, slots := 0, locals := 22 } : Room) (va_Pc [.ref (a 0), .int (nI i)] (gR D (gT cy) [(a 0, eTop (a 1) (a 3) (a 5) (a 6) uw), (a 5, eQ cy 2 g), (q 0, eCli (gb (J)) (q 1) (q 3) (q 5) (q 7) dc (q 8) (q 9) k), (q 3, eCch (q 4) (nI L.length)), (q 4, eJ cy 6 f), (q 5, eCch (q 6) (nI K.length)), (q 6, eJ cy 6 h)])) (vp_Si (fun r9 => r9 = gb (K = L))) 0 0 (fun _ => False) := by
  refine gM_i (cc := cX3_isAlike) (maxL := 2) (ty := .boolean) (by decide) rfl (Nat.le_of_ble_eq_true rfl) (fun v hv => by rw [hv]; first | rfl | exact gb_nar _) ?_
  intro pp ee ss mm bw mt cd QQ ls hfx hP hG hret hl
  obtain ⟨hx, hb, hml, hown, hts, hlocks⟩ := hfx
  have hown : ss.vm.findClass RX3 = some mm.cls := hown
  have hl : lv_has ls 2 [(0, .ref (a 0)), (1, .int (nI i))] := hl
  refine lv_iload_n hx hb dX3_isAlike_0 rfl (lv_at hl 1 rfl) ?_
  refine lv_iconst (v := nI 2) hx hb dX3_isAlike_1 (by decide) ?_
  refine gc_Si (va_runS (As := [.int (nI i), .int (nI 2)]) (rest := []) ⟨hx, hb, hml, hown, hts⟩ (c_X3_isIndex l D cy (nI i) (nI 2)) (va_cwS 2 hts gX3_isAlike_X3_isIndex rfl rfl rfl (by decide +kernel) ⟨Nat.le_of_ble_eq_true rfl, Nat.le_of_ble_eq_true rfl⟩) (gpSR hG (hP.sub [] rfl)) rfl rfl hl.1 rfl (lv_room (Nat.le_of_ble_eq_true rfl)) dX3_isAlike_2 ⟨Nat.zero_le _, Nat.zero_le _⟩) ?_
  refine g_ti (y := gb (pIn (nI i) 0 1)) (congrArg (fun z => gb (pIn (nI i) 0 z)) (by decide)) ?_
  refine gc_Sv (va_runS (As := [.int (gb (pIn (nI i) 0 1))]) (rest := []) ⟨hx, hb, hml, hown, hts⟩ (c_X3_requireArgument l D cy (gb (pIn (nI i) 0 1)) (gb_ne0.mpr (ok_idx (n := 1) (by omega) (by decide)))) (va_cwS 1 hts gX3_isAlike_X3_requireArgument rfl rfl rfl (by decide +kernel) ⟨Nat.le_of_ble_eq_true rfl, Nat.le_of_ble_eq_true rfl⟩) (gpSR hG (hP.sub [] rfl)) rfl rfl hl.1 rfl (lv_room (Nat.le_of_ble_eq_true rfl)) dX3_isAlike_5 ⟨Nat.zero_le _, Nat.zero_le _⟩) ?_
  refine lv_aload_n hx hb dX3_isAlike_8 rfl (lv_at hl 0 rfl) ?_
  refine va_get (D := D) (ci := 3) (v := .ref (a 5)) (C := RX3) (T := TX3) (N := 5) hx hb hts iX3_isAlike_X3 hown hG.1 hP 0 rfl rfl 2 (by decide) (hts (.fieldLink RX3 21 "DirtyTiles" "clients" "[LDirtyTiles$Client;") (by decide +kernel)) (fun _ h9 => h9) rfl dX3_isAlike_9 ?_
  refine lv_iload_n hx hb dX3_isAlike_12 rfl (lv_at hl 1 rfl) ?_
  refine g_aldq hx hb hG hP 1 3 rfl rfl (k := i) (x := q 0) (by omega) (by decide) hg dX3_isAlike_13 ?_
  refine gc_Si (va_runV (As := []) (rest := []) ⟨hx, hb, hml, hown, hts⟩ (c_X1_hasJoined l D cy q J dc k) (cwV 0 hts gX3_isAlike_X1_hasJoined rfl rfl rfl (by decide +kernel) ⟨Nat.le_of_ble_eq_true rfl, Nat.le_of_ble_eq_true rfl⟩) (gpVR (ci := 1) (q0 := 0) hG (hP.sub [2] rfl) rfl rfl) rfl rfl hl.1 rfl (lv_room (Nat.le_of_ble_eq_true rfl)) dX3_isAlike_14 ⟨Nat.zero_le _, Nat.zero_le _⟩) ?_
  refine gc_Sv (va_runS (As := [.int (gb (J))]) (rest := []) ⟨hx, hb, hml, hown, hts⟩ (c_X3_requireState l D cy (gb (J)) (gb_ne0.mpr (hJ))) (va_cwS 1 hts gX3_isAlike_X3_requireState rfl rfl rfl (by decide +kernel) ⟨Nat.le_of_ble_eq_true rfl, Nat.le_of_ble_eq_true rfl⟩) (gpSR hG (hP.sub [] rfl)) rfl rfl hl.1 rfl (lv_room (Nat.le_of_ble_eq_true rfl)) dX3_isAlike_17 ⟨Nat.zero_le _, Nat.zero_le _⟩) ?_
  refine lv_aload_n hx hb dX3_isAlike_20 rfl (lv_at hl 0 rfl) ?_
  refine va_get (D := D) (ci := 3) (v := .ref (a 5)) (C := RX3) (T := TX3) (N := 5) hx hb hts iX3_isAlike_X3 hown hG.1 hP 0 rfl rfl 2 (by decide) (hts (.fieldLink RX3 21 "DirtyTiles" "clients" "[LDirtyTiles$Client;") (by decide +kernel)) (fun _ h9 => h9) rfl dX3_isAlike_21 ?_
  refine lv_iload_n hx hb dX3_isAlike_24 rfl (lv_at hl 1 rfl) ?_
  refine g_aldq hx hb hG hP 1 3 rfl rfl (k := i) (x := q 0) (by omega) (by decide) hg dX3_isAlike_25 ?_
  refine gc_Sa (va_runV (As := []) (rest := []) ⟨hx, hb, hml, hown, hts⟩ (c_X1_serverCache l D cy q J dc k) (cwV 0 hts gX3_isAlike_X1_serverCache rfl rfl rfl (by decide +kernel) ⟨Nat.le_of_ble_eq_true rfl, Nat.le_of_ble_eq_true rfl⟩) (gpVR (ci := 1) (q0 := 0) hG (hP.sub [2] rfl) rfl rfl) rfl rfl hl.1 rfl (lv_room (Nat.le_of_ble_eq_true rfl)) dX3_isAlike_26 ⟨Nat.zero_le _, Nat.zero_le _⟩) ?_
  refine lv_aload_n hx hb dX3_isAlike_29 rfl (lv_at hl 0 rfl) ?_
  refine va_get (D := D) (ci := 3) (v := .ref (a 5)) (C := RX3) (T := TX3) (N := 5) hx hb hts iX3_isAlike_X3 hown hG.1 hP 0 rfl rfl 2 (by decide) (hts (.fieldLink RX3 21 "DirtyTiles" "clients" "[LDirtyTiles$Client;") (by decide +kernel)) (fun _ h9 => h9) rfl dX3_isAlike_30 ?_
  refine lv_iload_n hx hb dX3_isAlike_33 rfl (lv_at hl 1 rfl) ?_
  refine g_aldq hx hb hG hP 1 3 rfl rfl (k := i) (x := q 0) (by omega) (by decide) hg dX3_isAlike_34 ?_
  refine gc_Sa (va_runV (As := []) (rest := [.ref (q 5)]) ⟨hx, hb, hml, hown, hts⟩ (c_X1_ownCache l D cy q J dc k) (cwV 0 hts gX3_isAlike_X1_ownCache rfl rfl rfl (by decide +kernel) ⟨Nat.le_of_ble_eq_true rfl, Nat.le_of_ble_eq_true rfl⟩) (gpVR (ci := 1) (q0 := 0) hG (hP.sub [2] rfl) rfl rfl) rfl rfl hl.1 rfl (lv_room (Nat.le_of_ble_eq_true rfl)) dX3_isAlike_35 ⟨Nat.zero_le _, Nat.zero_le _⟩) ?_
  refine gc_Si (va_runV (As := [.ref (q 3)]) (rest := []) ⟨hx, hb, hml, hown, hts⟩ (c_X0_hasSameTilesAs l D cy (q 5) (q 6) K h (q 3) (q 4) L f hh hK hf hL) (cwV 1 hts gX3_isAlike_X0_hasSameTilesAs rfl rfl rfl (by decide +kernel) ⟨Nat.le_of_ble_eq_true rfl, Nat.le_of_ble_eq_true rfl⟩) (gpVR (ci := 0) (q0 := 0) hG (hP.sub [5, 6, 3, 4] rfl) rfl rfl) rfl rfl hl.1 rfl (lv_room (Nat.le_of_ble_eq_true rfl)) dX3_isAlike_38 ⟨Nat.zero_le _, Nat.zero_le _⟩) ?_
  exact hret _ _ _ dX3_isAlike_41 rfl
theorem iX3_unlike_X3 : ∀ w ∈ wsX30, w ∈ wsX3_unlike := by decide +kernel
set_option maxHeartbeats 4000000 in
set_option maxRecDepth 100000 in
theorem c_X3_unlike (l : Launch) (D : va_G) (cy : Nat → ClassId) (a q : Nat → Nat) (uw : Int32) (g : Nat → Option Nat) (J : Prop) (dc k : Int32) (i : Nat) (fs fo : Nat → Int64) (hi : i < 2) (hg : g i = some (q 0)) (hJ : J) : Met l yX3_unlike wsX3_unlike ({ frames := 2, cells := 0, slots := 0, locals := 47 } : Room) (va_Pc [.ref (a 0), .int (nI i)] (gR D (gT cy) [(a 0, eTop (a 1) (a 3) (a 5) (a 6) uw), (a 5, eQ cy 2 g), (q 0, eCli (gb (J)) (q 1) (q 3) (q 5) (q 7) dc (q 8) (q 9) k), (a 1, eScr (a 2)), (a 2, eJ cy 12 fs), (q 1, eScr (q 2)), (q 2, eJ cy 12 fo)])) (vp_Si (fun r9 => r9 = nI (sumD fo fs 12))) 0 0 (fun _ => False) := by
  refine gM_i (cc := cX3_unlike) (maxL := 5) (ty := .int) (by decide) rfl (Nat.le_of_ble_eq_true rfl) (fun v hv => by rw [hv]; first | rfl | exact gb_nar _) ?_
  intro pp ee ss mm bw mt cd QQ ls hfx hP hG hret hl
  obtain ⟨hx, hb, hml, hown, hts, hlocks⟩ := hfx
  have hown : ss.vm.findClass RX3 = some mm.cls := hown
  have hl : lv_has ls 5 [(0, .ref (a 0)), (1, .int (nI i))] := hl
  refine lv_iload_n hx hb dX3_unlike_0 rfl (lv_at hl 1 rfl) ?_
  refine lv_iconst (v := nI 2) hx hb dX3_unlike_1 (by decide) ?_
  refine gc_Si (va_runS (As := [.int (nI i), .int (nI 2)]) (rest := []) ⟨hx, hb, hml, hown, hts⟩ (c_X3_isIndex l D cy (nI i) (nI 2)) (va_cwS 2 hts gX3_unlike_X3_isIndex rfl rfl rfl (by decide +kernel) ⟨Nat.le_of_ble_eq_true rfl, Nat.le_of_ble_eq_true rfl⟩) (gpSR hG (hP.sub [] rfl)) rfl rfl hl.1 rfl (lv_room (Nat.le_of_ble_eq_true rfl)) dX3_unlike_2 ⟨Nat.zero_le _, Nat.zero_le _⟩) ?_
  refine g_ti (y := gb (pIn (nI i) 0 1)) (congrArg (fun z => gb (pIn (nI i) 0 z)) (by decide)) ?_
  refine gc_Sv (va_runS (As := [.int (gb (pIn (nI i) 0 1))]) (rest := []) ⟨hx, hb, hml, hown, hts⟩ (c_X3_requireArgument l D cy (gb (pIn (nI i) 0 1)) (gb_ne0.mpr (ok_idx (n := 1) (by omega) (by decide)))) (va_cwS 1 hts gX3_unlike_X3_requireArgument rfl rfl rfl (by decide +kernel) ⟨Nat.le_of_ble_eq_true rfl, Nat.le_of_ble_eq_true rfl⟩) (gpSR hG (hP.sub [] rfl)) rfl rfl hl.1 rfl (lv_room (Nat.le_of_ble_eq_true rfl)) dX3_unlike_5 ⟨Nat.zero_le _, Nat.zero_le _⟩) ?_
  refine lv_aload_n hx hb dX3_unlike_8 rfl (lv_at hl 0 rfl) ?_
  refine va_get (D := D) (ci := 3) (v := .ref (a 5)) (C := RX3) (T := TX3) (N := 5) hx hb hts iX3_unlike_X3 hown hG.1 hP 0 rfl rfl 2 (by decide) (hts (.fieldLink RX3 21 "DirtyTiles" "clients" "[LDirtyTiles$Client;") (by decide +kernel)) (fun _ h9 => h9) rfl dX3_unlike_9 ?_
  refine lv_iload_n hx hb dX3_unlike_12 rfl (lv_at hl 1 rfl) ?_
  refine g_aldq hx hb hG hP 1 3 rfl rfl (k := i) (x := q 0) (by omega) (by decide) hg dX3_unlike_13 ?_
  refine gc_Si (va_runV (As := []) (rest := []) ⟨hx, hb, hml, hown, hts⟩ (c_X1_hasJoined l D cy q J dc k) (cwV 0 hts gX3_unlike_X1_hasJoined rfl rfl rfl (by decide +kernel) ⟨Nat.le_of_ble_eq_true rfl, Nat.le_of_ble_eq_true rfl⟩) (gpVR (ci := 1) (q0 := 0) hG (hP.sub [2] rfl) rfl rfl) rfl rfl hl.1 rfl (lv_room (Nat.le_of_ble_eq_true rfl)) dX3_unlike_14 ⟨Nat.zero_le _, Nat.zero_le _⟩) ?_
  refine gc_Sv (va_runS (As := [.int (gb (J))]) (rest := []) ⟨hx, hb, hml, hown, hts⟩ (c_X3_requireState l D cy (gb (J)) (gb_ne0.mpr (hJ))) (va_cwS 1 hts gX3_unlike_X3_requireState rfl rfl rfl (by decide +kernel) ⟨Nat.le_of_ble_eq_true rfl, Nat.le_of_ble_eq_true rfl⟩) (gpSR hG (hP.sub [] rfl)) rfl rfl hl.1 rfl (lv_room (Nat.le_of_ble_eq_true rfl)) dX3_unlike_17 ⟨Nat.zero_le _, Nat.zero_le _⟩) ?_
  refine lv_aload_n hx hb dX3_unlike_20 rfl (lv_at hl 0 rfl) ?_
  refine va_get (D := D) (ci := 3) (v := .ref (a 5)) (C := RX3) (T := TX3) (N := 5) hx hb hts iX3_unlike_X3 hown hG.1 hP 0 rfl rfl 2 (by decide) (hts (.fieldLink RX3 21 "DirtyTiles" "clients" "[LDirtyTiles$Client;") (by decide +kernel)) (fun _ h9 => h9) rfl dX3_unlike_21 ?_
  refine lv_iload_n hx hb dX3_unlike_24 rfl (lv_at hl 1 rfl) ?_
  refine g_aldq hx hb hG hP 1 3 rfl rfl (k := i) (x := q 0) (by omega) (by decide) hg dX3_unlike_25 ?_
  refine gc_Sa (va_runV (As := []) (rest := []) ⟨hx, hb, hml, hown, hts⟩ (c_X1_ownScreen l D cy q J dc k) (cwV 0 hts gX3_unlike_X1_ownScreen rfl rfl rfl (by decide +kernel) ⟨Nat.le_of_ble_eq_true rfl, Nat.le_of_ble_eq_true rfl⟩) (gpVR (ci := 1) (q0 := 0) hG (hP.sub [2] rfl) rfl rfl) rfl rfl hl.1 rfl (lv_room (Nat.le_of_ble_eq_true rfl)) dX3_unlike_26 ⟨Nat.zero_le _, Nat.zero_le _⟩) ?_
  refine lv_astore_n (lv' := [(2, .ref (q 1)), (0, .ref (a 0)), (1, .int (nI i))]) hx hb dX3_unlike_29 rfl hl (by decide) rfl (fun ls hl => ?_)
  refine lv_iconst (v := nI 0) hx hb dX3_unlike_30 (by decide) ?_
  refine lv_istore_n (lv' := [(3, .int (nI 0)), (2, .ref (q 1)), (0, .ref (a 0)), (1, .int (nI i))]) hx hb dX3_unlike_31 rfl hl (by decide) rfl (fun ls hl => ?_)
  refine lv_iconst (v := nI 0) hx hb dX3_unlike_32 (by decide) ?_
  refine lv_istore (lv' := [(4, .int (nI 0)), (3, .int (nI 0)), (2, .ref (q 1)), (0, .ref (a 0)), (1, .int (nI i))]) hx hb dX3_unlike_33 hl (by decide) rfl (fun ls hl => ?_)
  have loop_35 : ∀ (n9 : Nat) (t w : Nat), 12 - t < n9 → (t ≤ 12) → (w = sumD fo fs t) → ∀ (ls : Array Slot), lv_has ls 5 [(0, .ref (a 0)), (2, .ref (q 1)), (3, .int (nI w)), (4, .int (nI t))] → W pp l ee ({ frames := 2, cells := 0, slots := 0, locals := 47 } : Room) ss mm ([.ref (a 0), .int (nI i)] : List Value).toArray bw mt cd ss.heap [] 0 0 QQ (F0 mm 35 ls []) := by
    intro n9
    induction n9 with
    | zero => intro t w h9; exact absurd h9 (Nat.not_lt_zero _)
    | succ n9 ih_35 =>
      intro t w hm_35 ht9 hw ls hl
      refine lv_iload hx hb dX3_unlike_35 (lv_at hl 3 rfl) ?_
      refine lv_bipush (v := nI 12) hx hb dX3_unlike_37 (by decide) ?_
      refine lv_icmp_ge (tgt := 69) hx hb dX3_unlike_39 (by decide) (fun c_39 => ?_) (fun c_39 => ?_)
      · skip
        have c_39 : 12 ≤ t := (nI_leI (a := 12) (b := t) (by omega) (by omega)).mp c_39
        refine lv_iload_n hx hb dX3_unlike_69 rfl (lv_at hl 2 rfl) ?_
        exact hret _ _ _ dX3_unlike_70 (by have e9 : t = 12 := (by omega); rw [hw, e9])
      · skip
        have c_39 : ¬ 12 ≤ t := fun z => c_39 ((nI_leI (a := 12) (b := t) (by omega) (by omega)).mpr z)
        refine lv_iload_n hx hb dX3_unlike_42 rfl (lv_at hl 2 rfl) ?_
        refine lv_aload_n hx hb dX3_unlike_43 rfl (lv_at hl 1 rfl) ?_
        refine lv_iload hx hb dX3_unlike_44 (lv_at hl 3 rfl) ?_
        refine gc_Sl (va_runV (As := [.int (nI t)]) (rest := [.int (nI w)]) ⟨hx, hb, hml, hown, hts⟩ (c_X2_cellsOf l D cy (q 1) (q 2) fo t (by omega)) (cwV 1 hts gX3_unlike_X2_cellsOf rfl rfl rfl (by decide +kernel) ⟨Nat.le_of_ble_eq_true rfl, Nat.le_of_ble_eq_true rfl⟩) (gpVR (ci := 2) (q0 := 0) hG (hP.sub [5, 6] rfl) rfl rfl) rfl rfl hl.1 rfl (lv_room (Nat.le_of_ble_eq_true rfl)) dX3_unlike_46 ⟨Nat.zero_le _, Nat.zero_le _⟩) ?_
        refine lv_aload_n hx hb dX3_unlike_49 rfl (lv_at hl 0 rfl) ?_
        refine va_get (D := D) (ci := 3) (v := .ref (a 1)) (C := RX3) (T := TX3) (N := 5) hx hb hts iX3_unlike_X3 hown hG.1 hP 0 rfl rfl 0 (by decide) (hts (.fieldLink RX3 10 "DirtyTiles" "screen" "LDirtyTiles$Screen;") (by decide +kernel)) (fun _ h9 => h9) rfl dX3_unlike_50 ?_
        refine lv_iload hx hb dX3_unlike_53 (lv_at hl 3 rfl) ?_
        refine gc_Sl (va_runV (As := [.int (nI t)]) (rest := [.long (fo t), .int (nI w)]) ⟨hx, hb, hml, hown, hts⟩ (c_X2_cellsOf l D cy (a 1) (a 2) fs t (by omega)) (cwV 1 hts gX3_unlike_X2_cellsOf rfl rfl rfl (by decide +kernel) ⟨Nat.le_of_ble_eq_true rfl, Nat.le_of_ble_eq_true rfl⟩) (gpVR (ci := 2) (q0 := 0) hG (hP.sub [3, 4] rfl) rfl rfl) rfl rfl hl.1 rfl (lv_room (Nat.le_of_ble_eq_true rfl)) dX3_unlike_55 ⟨Nat.zero_le _, Nat.zero_le _⟩) ?_
        refine gc_Si (va_runS (As := [.long (fo t), .long (fs t)]) (rest := [.int (nI w)]) ⟨hx, hb, hml, hown, hts⟩ (c_X3_countDifferent l D cy (fo t) (fs t)) (va_cwS 2 hts gX3_unlike_X3_countDifferent rfl rfl rfl (by decide +kernel) ⟨Nat.le_of_ble_eq_true rfl, Nat.le_of_ble_eq_true rfl⟩) (gpSR hG (hP.sub [] rfl)) rfl rfl hl.1 rfl (lv_room (Nat.le_of_ble_eq_true rfl)) dX3_unlike_58 ⟨Nat.zero_le _, Nat.zero_le _⟩) ?_
        refine lv_iadd hx hb dX3_unlike_61 ?_
        refine g_ti (y := nI (w + (nDif (fo t) (fs t)))) (nI_add _ _) ?_
        refine lv_istore_n (lv' := [(3, .int (nI (w + (nDif (fo t) (fs t))))), (0, .ref (a 0)), (2, .ref (q 1)), (4, .int (nI t))]) hx hb dX3_unlike_62 rfl hl (by decide) rfl (fun ls hl => ?_)
        refine lv_iinc (v := nI (t + 1)) (lv' := [(4, .int (nI (t + 1))), (3, .int (nI (w + (nDif (fo t) (fs t))))), (0, .ref (a 0)), (2, .ref (q 1))]) hx hb dX3_unlike_63 hl (k := 3) rfl (nI_1 _) (by decide) rfl (fun ls hl => ?_)
        refine lv_goto (tgt := 35) hx hb dX3_unlike_66 (by decide) ?_
        exact ih_35 (t + 1) (w + (nDif (fo t) (fs t))) (by omega) (by omega) (by rw [hw]; rfl) _ (lv_sub hl [2, 3, 1, 0] rfl)
  exact loop_35 ((12 - 0) + 1) 0 0 (Nat.lt_succ_self _) (by omega) rfl _ (lv_sub hl [3, 2, 1, 0] rfl)
theorem iX3_dirtyAt_X3 : ∀ w ∈ wsX30, w ∈ wsX3_dirtyAt := by decide +kernel
set_option maxHeartbeats 4000000 in
set_option maxRecDepth 100000 in
theorem c_X3_dirtyAt (l : Launch) (D : va_G) (cy : Nat → ClassId) (a q : Nat → Nat) (uw : Int32) (g : Nat → Option Nat) (J : Prop) (k : Int32) (i : Nat) (L : List Nat) (f : Nat → Int32) (j : Nat) (hi : i < 2) (hg : g i = some (q 0)) (hJ : J) (hL : hN L f) (ho : okD L) (hj : j < L.length) : Met l yX3_dirtyAt wsX3_dirtyAt ({ frames := 1, cells := 0, slots := 0, locals := 21 } : Room) (va_Pc [.ref (a 0), .int (nI i), .int (nI j)] (gR D (gT cy) [(a 0, eTop (a 1) (a 3) (a 5) (a 6) uw), (a 5, eQ cy 2 g), (q 0, eCli (gb (J)) (q 1) (q 3) (q 5) (q 7) (nI L.length) (q 8) (q 9) k), (q 7, eI cy 12 f)])) (vp_Si (fun r9 => r9 = nI (L.getD j 0))) 0 0 (fun _ => False) := by
  refine gM_i (cc := cX3_dirtyAt) (maxL := 3) (ty := .int) (by decide) rfl (Nat.le_of_ble_eq_true rfl) (fun v hv => by rw [hv]; first | rfl | exact gb_nar _) ?_
  intro pp ee ss mm bw mt cd QQ ls hfx hP hG hret hl
  obtain ⟨hx, hb, hml, hown, hts, hlocks⟩ := hfx
  have hown : ss.vm.findClass RX3 = some mm.cls := hown
  have hl : lv_has ls 3 [(0, .ref (a 0)), (1, .int (nI i)), (2, .int (nI j))] := hl
  have z1 := okD_len ho
  refine lv_iload_n hx hb dX3_dirtyAt_0 rfl (lv_at hl 1 rfl) ?_
  refine lv_iconst (v := nI 2) hx hb dX3_dirtyAt_1 (by decide) ?_
  refine gc_Si (va_runS (As := [.int (nI i), .int (nI 2)]) (rest := []) ⟨hx, hb, hml, hown, hts⟩ (c_X3_isIndex l D cy (nI i) (nI 2)) (va_cwS 2 hts gX3_dirtyAt_X3_isIndex rfl rfl rfl (by decide +kernel) ⟨Nat.le_of_ble_eq_true rfl, Nat.le_of_ble_eq_true rfl⟩) (gpSR hG (hP.sub [] rfl)) rfl rfl hl.1 rfl (lv_room (Nat.le_of_ble_eq_true rfl)) dX3_dirtyAt_2 ⟨Nat.zero_le _, Nat.zero_le _⟩) ?_
  refine g_ti (y := gb (pIn (nI i) 0 1)) (congrArg (fun z => gb (pIn (nI i) 0 z)) (by decide)) ?_
  refine gc_Sv (va_runS (As := [.int (gb (pIn (nI i) 0 1))]) (rest := []) ⟨hx, hb, hml, hown, hts⟩ (c_X3_requireArgument l D cy (gb (pIn (nI i) 0 1)) (gb_ne0.mpr (ok_idx (n := 1) (by omega) (by decide)))) (va_cwS 1 hts gX3_dirtyAt_X3_requireArgument rfl rfl rfl (by decide +kernel) ⟨Nat.le_of_ble_eq_true rfl, Nat.le_of_ble_eq_true rfl⟩) (gpSR hG (hP.sub [] rfl)) rfl rfl hl.1 rfl (lv_room (Nat.le_of_ble_eq_true rfl)) dX3_dirtyAt_5 ⟨Nat.zero_le _, Nat.zero_le _⟩) ?_
  refine lv_aload_n hx hb dX3_dirtyAt_8 rfl (lv_at hl 0 rfl) ?_
  refine va_get (D := D) (ci := 3) (v := .ref (a 5)) (C := RX3) (T := TX3) (N := 5) hx hb hts iX3_dirtyAt_X3 hown hG.1 hP 0 rfl rfl 2 (by decide) (hts (.fieldLink RX3 21 "DirtyTiles" "clients" "[LDirtyTiles$Client;") (by decide +kernel)) (fun _ h9 => h9) rfl dX3_dirtyAt_9 ?_
  refine lv_iload_n hx hb dX3_dirtyAt_12 rfl (lv_at hl 1 rfl) ?_
  refine g_aldq hx hb hG hP 1 3 rfl rfl (k := i) (x := q 0) (by omega) (by decide) hg dX3_dirtyAt_13 ?_
  refine gc_Si (va_runV (As := []) (rest := []) ⟨hx, hb, hml, hown, hts⟩ (c_X1_hasJoined l D cy q J (nI L.length) k) (cwV 0 hts gX3_dirtyAt_X1_hasJoined rfl rfl rfl (by decide +kernel) ⟨Nat.le_of_ble_eq_true rfl, Nat.le_of_ble_eq_true rfl⟩) (gpVR (ci := 1) (q0 := 0) hG (hP.sub [2] rfl) rfl rfl) rfl rfl hl.1 rfl (lv_room (Nat.le_of_ble_eq_true rfl)) dX3_dirtyAt_14 ⟨Nat.zero_le _, Nat.zero_le _⟩) ?_
  refine gc_Sv (va_runS (As := [.int (gb (J))]) (rest := []) ⟨hx, hb, hml, hown, hts⟩ (c_X3_requireState l D cy (gb (J)) (gb_ne0.mpr (hJ))) (va_cwS 1 hts gX3_dirtyAt_X3_requireState rfl rfl rfl (by decide +kernel) ⟨Nat.le_of_ble_eq_true rfl, Nat.le_of_ble_eq_true rfl⟩) (gpSR hG (hP.sub [] rfl)) rfl rfl hl.1 rfl (lv_room (Nat.le_of_ble_eq_true rfl)) dX3_dirtyAt_17 ⟨Nat.zero_le _, Nat.zero_le _⟩) ?_
  refine lv_iload_n hx hb dX3_dirtyAt_20 rfl (lv_at hl 2 rfl) ?_
  refine lv_aload_n hx hb dX3_dirtyAt_21 rfl (lv_at hl 0 rfl) ?_
  refine va_get (D := D) (ci := 3) (v := .ref (a 5)) (C := RX3) (T := TX3) (N := 5) hx hb hts iX3_dirtyAt_X3 hown hG.1 hP 0 rfl rfl 2 (by decide) (hts (.fieldLink RX3 21 "DirtyTiles" "clients" "[LDirtyTiles$Client;") (by decide +kernel)) (fun _ h9 => h9) rfl dX3_dirtyAt_22 ?_
  refine lv_iload_n hx hb dX3_dirtyAt_25 rfl (lv_at hl 1 rfl) ?_
  refine g_aldq hx hb hG hP 1 3 rfl rfl (k := i) (x := q 0) (by omega) (by decide) hg dX3_dirtyAt_26 ?_
  refine gc_Si (va_runV (As := []) (rest := [.int (nI j)]) ⟨hx, hb, hml, hown, hts⟩ (c_X1_dirtyCount l D cy q J (nI L.length) k) (cwV 0 hts gX3_dirtyAt_X1_dirtyCount rfl rfl rfl (by decide +kernel) ⟨Nat.le_of_ble_eq_true rfl, Nat.le_of_ble_eq_true rfl⟩) (gpVR (ci := 1) (q0 := 0) hG (hP.sub [2] rfl) rfl rfl) rfl rfl hl.1 rfl (lv_room (Nat.le_of_ble_eq_true rfl)) dX3_dirtyAt_27 ⟨Nat.zero_le _, Nat.zero_le _⟩) ?_
  refine gc_Si (va_runS (As := [.int (nI j), .int (nI L.length)]) (rest := []) ⟨hx, hb, hml, hown, hts⟩ (c_X3_isIndex l D cy (nI j) (nI L.length)) (va_cwS 2 hts gX3_dirtyAt_X3_isIndex rfl rfl rfl (by decide +kernel) ⟨Nat.le_of_ble_eq_true rfl, Nat.le_of_ble_eq_true rfl⟩) (gpSR hG (hP.sub [] rfl)) rfl rfl hl.1 rfl (lv_room (Nat.le_of_ble_eq_true rfl)) dX3_dirtyAt_30 ⟨Nat.zero_le _, Nat.zero_le _⟩) ?_
  refine g_ti (y := gb (pIn (nI j) 0 ((L.length : Int) - 1))) (by rw [nI_toInt (by omega)]) ?_
  refine lv_if_ne (tgt := 46) hx hb dX3_dirtyAt_33 (by decide) (fun c_33 => ?_) (fun c_33 => ?_)
  · skip
    have c_33 : pIn (nI j) 0 ((L.length : Int) - 1) := gb_ne0.mp c_33
    refine lv_aload_n hx hb dX3_dirtyAt_46 rfl (lv_at hl 0 rfl) ?_
    refine va_get (D := D) (ci := 3) (v := .ref (a 5)) (C := RX3) (T := TX3) (N := 5) hx hb hts iX3_dirtyAt_X3 hown hG.1 hP 0 rfl rfl 2 (by decide) (hts (.fieldLink RX3 21 "DirtyTiles" "clients" "[LDirtyTiles$Client;") (by decide +kernel)) (fun _ h9 => h9) rfl dX3_dirtyAt_47 ?_
    refine lv_iload_n hx hb dX3_dirtyAt_50 rfl (lv_at hl 1 rfl) ?_
    refine g_aldq hx hb hG hP 1 3 rfl rfl (k := i) (x := q 0) (by omega) (by decide) hg dX3_dirtyAt_51 ?_
    refine lv_iload_n hx hb dX3_dirtyAt_52 rfl (lv_at hl 2 rfl) ?_
    refine gc_Si (va_runV (As := [.int (nI j)]) (rest := []) ⟨hx, hb, hml, hown, hts⟩ (c_X1_dirtyTileAt l D cy q J (nI L.length) k f j (by omega)) (cwV 1 hts gX3_dirtyAt_X1_dirtyTileAt rfl rfl rfl (by decide +kernel) ⟨Nat.le_of_ble_eq_true rfl, Nat.le_of_ble_eq_true rfl⟩) (gpVR (ci := 1) (q0 := 0) hG (hP.sub [2, 3] rfl) rfl rfl) rfl rfl hl.1 rfl (lv_room (Nat.le_of_ble_eq_true rfl)) dX3_dirtyAt_53 ⟨Nat.zero_le _, Nat.zero_le _⟩) ?_
    exact hret _ _ _ dX3_dirtyAt_56 (hL j hj)
  · skip
    have c_33 : ¬ (pIn (nI j) 0 ((L.length : Int) - 1)) := gb_eq0.mp c_33
    exact absurd ((pIn_nI (by omega)).mpr (by omega)) c_33
theorem iX3_way_X3 : ∀ w ∈ wsX30, w ∈ wsX3_way := by decide +kernel
set_option maxHeartbeats 4000000 in
set_option maxRecDepth 100000 in
theorem c_X3_way (l : Launch) (D : va_G) (cy : Nat → ClassId) (a q : Nat → Nat) (uw : Int32) (g : Nat → Option Nat) (J : Prop) (dc k : Int32) (i : Nat) (fs : Nat → Int64) (t : Nat) (L : List Int64) (f : Nat → Int64) (hi : i < 2) (hg : g i = some (q 0)) (hJ : J) (ht9 : t < 12) (hf : hC L f) (hL : L.length ≤ 6) : Met l yX3_way wsX3_way ({ frames := 4, cells := 0, slots := 0, locals := 94 } : Room) (va_Pc [.ref (a 0), .int (nI i), .int (nI t)] (gR D (gT cy) [(a 0, eTop (a 1) (a 3) (a 5) (a 6) uw), (a 5, eQ cy 2 g), (q 0, eCli (gb (J)) (q 1) (q 3) (q 5) (q 7) dc (q 8) (q 9) k), (a 1, eScr (a 2)), (a 2, eJ cy 12 fs), (q 5, eCch (q 6) (nI L.length)), (q 6, eJ cy 6 f)])) (vp_Si (fun r9 => r9 = nI (wayO L (fs t)))) 0 0 (fun _ => False) := by
  refine gM_i (cc := cX3_way) (maxL := 3) (ty := .int) (by decide) rfl (Nat.le_of_ble_eq_true rfl) (fun v hv => by rw [hv]; first | rfl | exact gb_nar _) ?_
  intro pp ee ss mm bw mt cd QQ ls hfx hP hG hret hl
  obtain ⟨hx, hb, hml, hown, hts, hlocks⟩ := hfx
  have hown : ss.vm.findClass RX3 = some mm.cls := hown
  have hl : lv_has ls 3 [(0, .ref (a 0)), (1, .int (nI i)), (2, .int (nI t))] := hl
  refine lv_iload_n hx hb dX3_way_0 rfl (lv_at hl 1 rfl) ?_
  refine lv_iconst (v := nI 2) hx hb dX3_way_1 (by decide) ?_
  refine gc_Si (va_runS (As := [.int (nI i), .int (nI 2)]) (rest := []) ⟨hx, hb, hml, hown, hts⟩ (c_X3_isIndex l D cy (nI i) (nI 2)) (va_cwS 2 hts gX3_way_X3_isIndex rfl rfl rfl (by decide +kernel) ⟨Nat.le_of_ble_eq_true rfl, Nat.le_of_ble_eq_true rfl⟩) (gpSR hG (hP.sub [] rfl)) rfl rfl hl.1 rfl (lv_room (Nat.le_of_ble_eq_true rfl)) dX3_way_2 ⟨Nat.zero_le _, Nat.zero_le _⟩) ?_
  refine g_ti (y := gb (pIn (nI i) 0 1)) (congrArg (fun z => gb (pIn (nI i) 0 z)) (by decide)) ?_
  refine gc_Sv (va_runS (As := [.int (gb (pIn (nI i) 0 1))]) (rest := []) ⟨hx, hb, hml, hown, hts⟩ (c_X3_requireArgument l D cy (gb (pIn (nI i) 0 1)) (gb_ne0.mpr (ok_idx (n := 1) (by omega) (by decide)))) (va_cwS 1 hts gX3_way_X3_requireArgument rfl rfl rfl (by decide +kernel) ⟨Nat.le_of_ble_eq_true rfl, Nat.le_of_ble_eq_true rfl⟩) (gpSR hG (hP.sub [] rfl)) rfl rfl hl.1 rfl (lv_room (Nat.le_of_ble_eq_true rfl)) dX3_way_5 ⟨Nat.zero_le _, Nat.zero_le _⟩) ?_
  refine lv_iload_n hx hb dX3_way_8 rfl (lv_at hl 2 rfl) ?_
  refine lv_bipush (v := nI 12) hx hb dX3_way_9 (by decide) ?_
  refine gc_Si (va_runS (As := [.int (nI t), .int (nI 12)]) (rest := []) ⟨hx, hb, hml, hown, hts⟩ (c_X3_isIndex l D cy (nI t) (nI 12)) (va_cwS 2 hts gX3_way_X3_isIndex rfl rfl rfl (by decide +kernel) ⟨Nat.le_of_ble_eq_true rfl, Nat.le_of_ble_eq_true rfl⟩) (gpSR hG (hP.sub [] rfl)) rfl rfl hl.1 rfl (lv_room (Nat.le_of_ble_eq_true rfl)) dX3_way_11 ⟨Nat.zero_le _, Nat.zero_le _⟩) ?_
  refine g_ti (y := gb (pIn (nI t) 0 11)) (congrArg (fun z => gb (pIn (nI t) 0 z)) (by decide)) ?_
  refine gc_Sv (va_runS (As := [.int (gb (pIn (nI t) 0 11))]) (rest := []) ⟨hx, hb, hml, hown, hts⟩ (c_X3_requireArgument l D cy (gb (pIn (nI t) 0 11)) (gb_ne0.mpr (ok_idx (n := 11) (by omega) (by decide)))) (va_cwS 1 hts gX3_way_X3_requireArgument rfl rfl rfl (by decide +kernel) ⟨Nat.le_of_ble_eq_true rfl, Nat.le_of_ble_eq_true rfl⟩) (gpSR hG (hP.sub [] rfl)) rfl rfl hl.1 rfl (lv_room (Nat.le_of_ble_eq_true rfl)) dX3_way_14 ⟨Nat.zero_le _, Nat.zero_le _⟩) ?_
  refine lv_aload_n hx hb dX3_way_17 rfl (lv_at hl 0 rfl) ?_
  refine va_get (D := D) (ci := 3) (v := .ref (a 5)) (C := RX3) (T := TX3) (N := 5) hx hb hts iX3_way_X3 hown hG.1 hP 0 rfl rfl 2 (by decide) (hts (.fieldLink RX3 21 "DirtyTiles" "clients" "[LDirtyTiles$Client;") (by decide +kernel)) (fun _ h9 => h9) rfl dX3_way_18 ?_
  refine lv_iload_n hx hb dX3_way_21 rfl (lv_at hl 1 rfl) ?_
  refine g_aldq hx hb hG hP 1 3 rfl rfl (k := i) (x := q 0) (by omega) (by decide) hg dX3_way_22 ?_
  refine gc_Si (va_runV (As := []) (rest := []) ⟨hx, hb, hml, hown, hts⟩ (c_X1_hasJoined l D cy q J dc k) (cwV 0 hts gX3_way_X1_hasJoined rfl rfl rfl (by decide +kernel) ⟨Nat.le_of_ble_eq_true rfl, Nat.le_of_ble_eq_true rfl⟩) (gpVR (ci := 1) (q0 := 0) hG (hP.sub [2] rfl) rfl rfl) rfl rfl hl.1 rfl (lv_room (Nat.le_of_ble_eq_true rfl)) dX3_way_23 ⟨Nat.zero_le _, Nat.zero_le _⟩) ?_
  refine gc_Sv (va_runS (As := [.int (gb (J))]) (rest := []) ⟨hx, hb, hml, hown, hts⟩ (c_X3_requireState l D cy (gb (J)) (gb_ne0.mpr (hJ))) (va_cwS 1 hts gX3_way_X3_requireState rfl rfl rfl (by decide +kernel) ⟨Nat.le_of_ble_eq_true rfl, Nat.le_of_ble_eq_true rfl⟩) (gpSR hG (hP.sub [] rfl)) rfl rfl hl.1 rfl (lv_room (Nat.le_of_ble_eq_true rfl)) dX3_way_26 ⟨Nat.zero_le _, Nat.zero_le _⟩) ?_
  refine lv_aload_n hx hb dX3_way_29 rfl (lv_at hl 0 rfl) ?_
  refine va_get (D := D) (ci := 3) (v := .ref (a 1)) (C := RX3) (T := TX3) (N := 5) hx hb hts iX3_way_X3 hown hG.1 hP 0 rfl rfl 0 (by decide) (hts (.fieldLink RX3 10 "DirtyTiles" "screen" "LDirtyTiles$Screen;") (by decide +kernel)) (fun _ h9 => h9) rfl dX3_way_30 ?_
  refine lv_iload_n hx hb dX3_way_33 rfl (lv_at hl 2 rfl) ?_
  refine gc_Sl (va_runV (As := [.int (nI t)]) (rest := []) ⟨hx, hb, hml, hown, hts⟩ (c_X2_cellsOf l D cy (a 1) (a 2) fs t ht9) (cwV 1 hts gX3_way_X2_cellsOf rfl rfl rfl (by decide +kernel) ⟨Nat.le_of_ble_eq_true rfl, Nat.le_of_ble_eq_true rfl⟩) (gpVR (ci := 2) (q0 := 0) hG (hP.sub [3, 4] rfl) rfl rfl) rfl rfl hl.1 rfl (lv_room (Nat.le_of_ble_eq_true rfl)) dX3_way_34 ⟨Nat.zero_le _, Nat.zero_le _⟩) ?_
  refine lv_aload_n hx hb dX3_way_37 rfl (lv_at hl 0 rfl) ?_
  refine va_get (D := D) (ci := 3) (v := .ref (a 5)) (C := RX3) (T := TX3) (N := 5) hx hb hts iX3_way_X3 hown hG.1 hP 0 rfl rfl 2 (by decide) (hts (.fieldLink RX3 21 "DirtyTiles" "clients" "[LDirtyTiles$Client;") (by decide +kernel)) (fun _ h9 => h9) rfl dX3_way_38 ?_
  refine lv_iload_n hx hb dX3_way_41 rfl (lv_at hl 1 rfl) ?_
  refine g_aldq hx hb hG hP 1 3 rfl rfl (k := i) (x := q 0) (by omega) (by decide) hg dX3_way_42 ?_
  refine gc_Sa (va_runV (As := []) (rest := [.long (fs t)]) ⟨hx, hb, hml, hown, hts⟩ (c_X1_serverCache l D cy q J dc k) (cwV 0 hts gX3_way_X1_serverCache rfl rfl rfl (by decide +kernel) ⟨Nat.le_of_ble_eq_true rfl, Nat.le_of_ble_eq_true rfl⟩) (gpVR (ci := 1) (q0 := 0) hG (hP.sub [2] rfl) rfl rfl) rfl rfl hl.1 rfl (lv_room (Nat.le_of_ble_eq_true rfl)) dX3_way_43 ⟨Nat.zero_le _, Nat.zero_le _⟩) ?_
  refine gc_Si (va_runS (As := [.long (fs t), .ref (q 5)]) (rest := []) ⟨hx, hb, hml, hown, hts⟩ (c_X3_cheapestWriting l D cy (fs t) (q 5) (q 6) L f hf hL) (va_cwS 2 hts gX3_way_X3_cheapestWriting rfl rfl rfl (by decide +kernel) ⟨Nat.le_of_ble_eq_true rfl, Nat.le_of_ble_eq_true rfl⟩) (gpSR hG (hP.sub [5, 6] rfl)) rfl rfl hl.1 rfl (lv_room (Nat.le_of_ble_eq_true rfl)) dX3_way_46 ⟨Nat.zero_le _, Nat.zero_le _⟩) ?_
  exact hret _ _ _ dX3_way_49 rfl
set_option maxHeartbeats 4000000 in
set_option maxRecDepth 100000 in
theorem cx_X3_dirty (l : Launch) (hst : l.stackTraces = false) (D : va_G) (cy : Nat → ClassId) (sa : Nat → Nat) (sz : Nat) (a0 : Nat) (i : Int32) (hn : ¬ pIn i 0 1) : vx_Met l yX3_dirty wsX3_dirty ({ frames := 7, cells := 1, slots := 6, locals := 110 } : Room) (va_Pc [.ref a0, .int i] (gX D (gT cy) sa [] sz)) gNo (gXC xIA sz) 1 6 (fun q => sz ≤ q) := by
  refine gM_x (cc := cX3_dirty) (maxL := 2) (ret := (some .int)) (by decide) rfl (Nat.le_of_ble_eq_true rfl) ?_
  intro pp ee ss mm bw mt cd QQ ls hfx hP hG hE ht hQ hx1 hl
  obtain ⟨hx, hb, hml, hown, hts, hlocks⟩ := hfx
  have hown : ss.vm.findClass RX3 = some mm.cls := hown
  have hl : lv_has ls 2 [(0, .ref a0), (1, .int i)] := hl
  refine lv_iload_n hx hb dX3_dirty_0 rfl (lv_at hl 1 rfl) ?_
  refine lv_iconst (v := nI 2) hx hb dX3_dirty_1 (by decide) ?_
  refine gc_Si (va_runS (As := [.int i, .int (nI 2)]) (rest := []) ⟨hx, hb, hml, hown, hts⟩ (c_X3_isIndex l D cy i (nI 2)) (va_cwS 2 hts gX3_dirty_X3_isIndex rfl rfl rfl (by decide +kernel) ⟨Nat.le_of_ble_eq_true rfl, Nat.le_of_ble_eq_true rfl⟩) (gpSR hG (hP.sub [] rfl)) rfl rfl hl.1 rfl (lv_room (Nat.le_of_ble_eq_true rfl)) dX3_dirty_2 ⟨Nat.zero_le _, Nat.zero_le _⟩) ?_
  refine g_ti (y := gb (pIn i 0 1)) (congrArg (fun z => gb (pIn i 0 z)) (by decide)) ?_
  exact hx1 _ _ _ _ _ (fun _ _ _ h => h) (vx_runS (As := [.int (gb (pIn i 0 1))]) (rest := []) ⟨hx, hb, hml, hown, hts⟩ (cx_X3_requireArgument l hst D cy sa ss.heap.size (gb (pIn i 0 1)) (gb_eq0.mpr (hn))) (va_cwS 1 hts gX3_dirty_X3_requireArgument rfl rfl rfl (by decide +kernel) ⟨Nat.le_of_ble_eq_true rfl, Nat.le_of_ble_eq_true rfl⟩) (gpSX hG hE (hP.sub [] rfl)) rfl rfl hl.1 rfl (lv_room (Nat.le_of_ble_eq_true rfl)) dX3_dirty_5 ⟨Nat.le_of_ble_eq_true rfl, Nat.le_of_ble_eq_true rfl⟩)
set_option maxHeartbeats 4000000 in
set_option maxRecDepth 100000 in
theorem cx_X3_dirty_s (l : Launch) (hst : l.stackTraces = false) (D : va_G) (cy : Nat → ClassId) (sa : Nat → Nat) (sz : Nat) (a q : Nat → Nat) (uw : Int32) (g : Nat → Option Nat) (J : Prop) (dc k : Int32) (i : Nat) (hi : i < 2) (hg : g i = some (q 0)) (hJ : ¬ J) : vx_Met l yX3_dirty wsX3_dirty ({ frames := 7, cells := 1, slots := 6, locals := 110 } : Room) (va_Pc [.ref (a 0), .int (nI i)] (gX D (gT cy) sa [(a 0, eTop (a 1) (a 3) (a 5) (a 6) uw), (a 5, eQ cy 2 g), (q 0, eCli (gb (J)) (q 1) (q 3) (q 5) (q 7) dc (q 8) (q 9) k)] sz)) gNo (gXC xIS sz) 1 6 (fun q => sz ≤ q) := by
  refine gM_x (cc := cX3_dirty) (maxL := 2) (ret := (some .int)) (by decide) rfl (Nat.le_of_ble_eq_true rfl) ?_
  intro pp ee ss mm bw mt cd QQ ls hfx hP hG hE ht hQ hx1 hl
  obtain ⟨hx, hb, hml, hown, hts, hlocks⟩ := hfx
  have hown : ss.vm.findClass RX3 = some mm.cls := hown
  have hl : lv_has ls 2 [(0, .ref (a 0)), (1, .int (nI i))] := hl
  refine lv_iload_n hx hb dX3_dirty_0 rfl (lv_at hl 1 rfl) ?_
  refine lv_iconst (v := nI 2) hx hb dX3_dirty_1 (by decide) ?_
  refine gc_Si (va_runS (As := [.int (nI i), .int (nI 2)]) (rest := []) ⟨hx, hb, hml, hown, hts⟩ (c_X3_isIndex l D cy (nI i) (nI 2)) (va_cwS 2 hts gX3_dirty_X3_isIndex rfl rfl rfl (by decide +kernel) ⟨Nat.le_of_ble_eq_true rfl, Nat.le_of_ble_eq_true rfl⟩) (gpSR hG (hP.sub [] rfl)) rfl rfl hl.1 rfl (lv_room (Nat.le_of_ble_eq_true rfl)) dX3_dirty_2 ⟨Nat.zero_le _, Nat.zero_le _⟩) ?_
  refine g_ti (y := gb (pIn (nI i) 0 1)) (congrArg (fun z => gb (pIn (nI i) 0 z)) (by decide)) ?_
  refine gc_Sv (va_runS (As := [.int (gb (pIn (nI i) 0 1))]) (rest := []) ⟨hx, hb, hml, hown, hts⟩ (c_X3_requireArgument l D cy (gb (pIn (nI i) 0 1)) (gb_ne0.mpr (ok_idx (n := 1) (by omega) (by decide)))) (va_cwS 1 hts gX3_dirty_X3_requireArgument rfl rfl rfl (by decide +kernel) ⟨Nat.le_of_ble_eq_true rfl, Nat.le_of_ble_eq_true rfl⟩) (gpSR hG (hP.sub [] rfl)) rfl rfl hl.1 rfl (lv_room (Nat.le_of_ble_eq_true rfl)) dX3_dirty_5 ⟨Nat.zero_le _, Nat.zero_le _⟩) ?_
  refine lv_aload_n hx hb dX3_dirty_8 rfl (lv_at hl 0 rfl) ?_
  refine va_get (D := D) (ci := 3) (v := .ref (a 5)) (C := RX3) (T := TX3) (N := 5) hx hb hts iX3_dirty_X3 hown hG.1 hP 0 rfl rfl 2 (by decide) (hts (.fieldLink RX3 21 "DirtyTiles" "clients" "[LDirtyTiles$Client;") (by decide +kernel)) (fun _ h9 => h9) rfl dX3_dirty_9 ?_
  refine lv_iload_n hx hb dX3_dirty_12 rfl (lv_at hl 1 rfl) ?_
  refine g_aldq hx hb hG hP 1 3 rfl rfl (k := i) (x := q 0) (by omega) (by decide) hg dX3_dirty_13 ?_
  refine gc_Si (va_runV (As := []) (rest := []) ⟨hx, hb, hml, hown, hts⟩ (c_X1_hasJoined l D cy q J dc k) (cwV 0 hts gX3_dirty_X1_hasJoined rfl rfl rfl (by decide +kernel) ⟨Nat.le_of_ble_eq_true rfl, Nat.le_of_ble_eq_true rfl⟩) (gpVR (ci := 1) (q0 := 0) hG (hP.sub [2] rfl) rfl rfl) rfl rfl hl.1 rfl (lv_room (Nat.le_of_ble_eq_true rfl)) dX3_dirty_14 ⟨Nat.zero_le _, Nat.zero_le _⟩) ?_
  exact hx1 _ _ _ _ _ (fun _ _ _ h => h) (vx_runS (As := [.int (gb (J))]) (rest := []) ⟨hx, hb, hml, hown, hts⟩ (cx_X3_requireState l hst D cy sa ss.heap.size (gb (J)) (gb_eq0.mpr (hJ))) (va_cwS 1 hts gX3_dirty_X3_requireState rfl rfl rfl (by decide +kernel) ⟨Nat.le_of_ble_eq_true rfl, Nat.le_of_ble_eq_true rfl⟩) (gpSX hG hE (hP.sub [] rfl)) rfl rfl hl.1 rfl (lv_room (Nat.le_of_ble_eq_true rfl)) dX3_dirty_17 ⟨Nat.le_of_ble_eq_true rfl, Nat.le_of_ble_eq_true rfl⟩)
set_option maxHeartbeats 4000000 in
set_option maxRecDepth 100000 in
theorem cx_X3_cached (l : Launch) (hst : l.stackTraces = false) (D : va_G) (cy : Nat → ClassId) (sa : Nat → Nat) (sz : Nat) (a0 : Nat) (i : Int32) (hn : ¬ pIn i 0 1) : vx_Met l yX3_cached wsX3_cached ({ frames := 7, cells := 1, slots := 6, locals := 110 } : Room) (va_Pc [.ref a0, .int i] (gX D (gT cy) sa [] sz)) gNo (gXC xIA sz) 1 6 (fun q => sz ≤ q) := by
  refine gM_x (cc := cX3_cached) (maxL := 2) (ret := (some .int)) (by decide) rfl (Nat.le_of_ble_eq_true rfl) ?_
  intro pp ee ss mm bw mt cd QQ ls hfx hP hG hE ht hQ hx1 hl
  obtain ⟨hx, hb, hml, hown, hts, hlocks⟩ := hfx
  have hown : ss.vm.findClass RX3 = some mm.cls := hown
  have hl : lv_has ls 2 [(0, .ref a0), (1, .int i)] := hl
  refine lv_iload_n hx hb dX3_cached_0 rfl (lv_at hl 1 rfl) ?_
  refine lv_iconst (v := nI 2) hx hb dX3_cached_1 (by decide) ?_
  refine gc_Si (va_runS (As := [.int i, .int (nI 2)]) (rest := []) ⟨hx, hb, hml, hown, hts⟩ (c_X3_isIndex l D cy i (nI 2)) (va_cwS 2 hts gX3_cached_X3_isIndex rfl rfl rfl (by decide +kernel) ⟨Nat.le_of_ble_eq_true rfl, Nat.le_of_ble_eq_true rfl⟩) (gpSR hG (hP.sub [] rfl)) rfl rfl hl.1 rfl (lv_room (Nat.le_of_ble_eq_true rfl)) dX3_cached_2 ⟨Nat.zero_le _, Nat.zero_le _⟩) ?_
  refine g_ti (y := gb (pIn i 0 1)) (congrArg (fun z => gb (pIn i 0 z)) (by decide)) ?_
  exact hx1 _ _ _ _ _ (fun _ _ _ h => h) (vx_runS (As := [.int (gb (pIn i 0 1))]) (rest := []) ⟨hx, hb, hml, hown, hts⟩ (cx_X3_requireArgument l hst D cy sa ss.heap.size (gb (pIn i 0 1)) (gb_eq0.mpr (hn))) (va_cwS 1 hts gX3_cached_X3_requireArgument rfl rfl rfl (by decide +kernel) ⟨Nat.le_of_ble_eq_true rfl, Nat.le_of_ble_eq_true rfl⟩) (gpSX hG hE (hP.sub [] rfl)) rfl rfl hl.1 rfl (lv_room (Nat.le_of_ble_eq_true rfl)) dX3_cached_5 ⟨Nat.le_of_ble_eq_true rfl, Nat.le_of_ble_eq_true rfl⟩)
set_option maxHeartbeats 4000000 in
set_option maxRecDepth 100000 in
theorem cx_X3_cached_s (l : Launch) (hst : l.stackTraces = false) (D : va_G) (cy : Nat → ClassId) (sa : Nat → Nat) (sz : Nat) (a q : Nat → Nat) (uw : Int32) (g : Nat → Option Nat) (J : Prop) (dc k : Int32) (i : Nat) (hi : i < 2) (hg : g i = some (q 0)) (hJ : ¬ J) : vx_Met l yX3_cached wsX3_cached ({ frames := 7, cells := 1, slots := 6, locals := 110 } : Room) (va_Pc [.ref (a 0), .int (nI i)] (gX D (gT cy) sa [(a 0, eTop (a 1) (a 3) (a 5) (a 6) uw), (a 5, eQ cy 2 g), (q 0, eCli (gb (J)) (q 1) (q 3) (q 5) (q 7) dc (q 8) (q 9) k)] sz)) gNo (gXC xIS sz) 1 6 (fun q => sz ≤ q) := by
  refine gM_x (cc := cX3_cached) (maxL := 2) (ret := (some .int)) (by decide) rfl (Nat.le_of_ble_eq_true rfl) ?_
  intro pp ee ss mm bw mt cd QQ ls hfx hP hG hE ht hQ hx1 hl
  obtain ⟨hx, hb, hml, hown, hts, hlocks⟩ := hfx
  have hown : ss.vm.findClass RX3 = some mm.cls := hown
  have hl : lv_has ls 2 [(0, .ref (a 0)), (1, .int (nI i))] := hl
  refine lv_iload_n hx hb dX3_cached_0 rfl (lv_at hl 1 rfl) ?_
  refine lv_iconst (v := nI 2) hx hb dX3_cached_1 (by decide) ?_
  refine gc_Si (va_runS (As := [.int (nI i), .int (nI 2)]) (rest := []) ⟨hx, hb, hml, hown, hts⟩ (c_X3_isIndex l D cy (nI i) (nI 2)) (va_cwS 2 hts gX3_cached_X3_isIndex rfl rfl rfl (by decide +kernel) ⟨Nat.le_of_ble_eq_true rfl, Nat.le_of_ble_eq_true rfl⟩) (gpSR hG (hP.sub [] rfl)) rfl rfl hl.1 rfl (lv_room (Nat.le_of_ble_eq_true rfl)) dX3_cached_2 ⟨Nat.zero_le _, Nat.zero_le _⟩) ?_
  refine g_ti (y := gb (pIn (nI i) 0 1)) (congrArg (fun z => gb (pIn (nI i) 0 z)) (by decide)) ?_
  refine gc_Sv (va_runS (As := [.int (gb (pIn (nI i) 0 1))]) (rest := []) ⟨hx, hb, hml, hown, hts⟩ (c_X3_requireArgument l D cy (gb (pIn (nI i) 0 1)) (gb_ne0.mpr (ok_idx (n := 1) (by omega) (by decide)))) (va_cwS 1 hts gX3_cached_X3_requireArgument rfl rfl rfl (by decide +kernel) ⟨Nat.le_of_ble_eq_true rfl, Nat.le_of_ble_eq_true rfl⟩) (gpSR hG (hP.sub [] rfl)) rfl rfl hl.1 rfl (lv_room (Nat.le_of_ble_eq_true rfl)) dX3_cached_5 ⟨Nat.zero_le _, Nat.zero_le _⟩) ?_
  refine lv_aload_n hx hb dX3_cached_8 rfl (lv_at hl 0 rfl) ?_
  refine va_get (D := D) (ci := 3) (v := .ref (a 5)) (C := RX3) (T := TX3) (N := 5) hx hb hts iX3_cached_X3 hown hG.1 hP 0 rfl rfl 2 (by decide) (hts (.fieldLink RX3 21 "DirtyTiles" "clients" "[LDirtyTiles$Client;") (by decide +kernel)) (fun _ h9 => h9) rfl dX3_cached_9 ?_
  refine lv_iload_n hx hb dX3_cached_12 rfl (lv_at hl 1 rfl) ?_
  refine g_aldq hx hb hG hP 1 3 rfl rfl (k := i) (x := q 0) (by omega) (by decide) hg dX3_cached_13 ?_
  refine gc_Si (va_runV (As := []) (rest := []) ⟨hx, hb, hml, hown, hts⟩ (c_X1_hasJoined l D cy q J dc k) (cwV 0 hts gX3_cached_X1_hasJoined rfl rfl rfl (by decide +kernel) ⟨Nat.le_of_ble_eq_true rfl, Nat.le_of_ble_eq_true rfl⟩) (gpVR (ci := 1) (q0 := 0) hG (hP.sub [2] rfl) rfl rfl) rfl rfl hl.1 rfl (lv_room (Nat.le_of_ble_eq_true rfl)) dX3_cached_14 ⟨Nat.zero_le _, Nat.zero_le _⟩) ?_
  exact hx1 _ _ _ _ _ (fun _ _ _ h => h) (vx_runS (As := [.int (gb (J))]) (rest := []) ⟨hx, hb, hml, hown, hts⟩ (cx_X3_requireState l hst D cy sa ss.heap.size (gb (J)) (gb_eq0.mpr (hJ))) (va_cwS 1 hts gX3_cached_X3_requireState rfl rfl rfl (by decide +kernel) ⟨Nat.le_of_ble_eq_true rfl, Nat.le_of_ble_eq_true rfl⟩) (gpSX hG hE (hP.sub [] rfl)) rfl rfl hl.1 rfl (lv_room (Nat.le_of_ble_eq_true rfl)) dX3_cached_17 ⟨Nat.le_of_ble_eq_true rfl, Nat.le_of_ble_eq_true rfl⟩)
set_option maxHeartbeats 4000000 in
set_option maxRecDepth 100000 in
theorem cx_X3_isAlike (l : Launch) (hst : l.stackTraces = false) (D : va_G) (cy : Nat → ClassId) (sa : Nat → Nat) (sz : Nat) (a0 : Nat) (i : Int32) (hn : ¬ pIn i 0 1) : vx_Met l yX3_isAlike wsX3_isAlike ({ frames := 7, cells := 1, slots := 6, locals := 110 } : Room) (va_Pc [.ref a0, .int i] (gX D (gT cy) sa [] sz)) gNo (gXC xIA sz) 1 6 (fun q => sz ≤ q) := by
  refine gM_x (cc := cX3_isAlike) (maxL := 2) (ret := (some .boolean)) (by decide) rfl (Nat.le_of_ble_eq_true rfl) ?_
  intro pp ee ss mm bw mt cd QQ ls hfx hP hG hE ht hQ hx1 hl
  obtain ⟨hx, hb, hml, hown, hts, hlocks⟩ := hfx
  have hown : ss.vm.findClass RX3 = some mm.cls := hown
  have hl : lv_has ls 2 [(0, .ref a0), (1, .int i)] := hl
  refine lv_iload_n hx hb dX3_isAlike_0 rfl (lv_at hl 1 rfl) ?_
  refine lv_iconst (v := nI 2) hx hb dX3_isAlike_1 (by decide) ?_
  refine gc_Si (va_runS (As := [.int i, .int (nI 2)]) (rest := []) ⟨hx, hb, hml, hown, hts⟩ (c_X3_isIndex l D cy i (nI 2)) (va_cwS 2 hts gX3_isAlike_X3_isIndex rfl rfl rfl (by decide +kernel) ⟨Nat.le_of_ble_eq_true rfl, Nat.le_of_ble_eq_true rfl⟩) (gpSR hG (hP.sub [] rfl)) rfl rfl hl.1 rfl (lv_room (Nat.le_of_ble_eq_true rfl)) dX3_isAlike_2 ⟨Nat.zero_le _, Nat.zero_le _⟩) ?_
  refine g_ti (y := gb (pIn i 0 1)) (congrArg (fun z => gb (pIn i 0 z)) (by decide)) ?_
  exact hx1 _ _ _ _ _ (fun _ _ _ h => h) (vx_runS (As := [.int (gb (pIn i 0 1))]) (rest := []) ⟨hx, hb, hml, hown, hts⟩ (cx_X3_requireArgument l hst D cy sa ss.heap.size (gb (pIn i 0 1)) (gb_eq0.mpr (hn))) (va_cwS 1 hts gX3_isAlike_X3_requireArgument rfl rfl rfl (by decide +kernel) ⟨Nat.le_of_ble_eq_true rfl, Nat.le_of_ble_eq_true rfl⟩) (gpSX hG hE (hP.sub [] rfl)) rfl rfl hl.1 rfl (lv_room (Nat.le_of_ble_eq_true rfl)) dX3_isAlike_5 ⟨Nat.le_of_ble_eq_true rfl, Nat.le_of_ble_eq_true rfl⟩)
set_option maxHeartbeats 4000000 in
set_option maxRecDepth 100000 in
theorem cx_X3_isAlike_s (l : Launch) (hst : l.stackTraces = false) (D : va_G) (cy : Nat → ClassId) (sa : Nat → Nat) (sz : Nat) (a q : Nat → Nat) (uw : Int32) (g : Nat → Option Nat) (J : Prop) (dc k : Int32) (i : Nat) (hi : i < 2) (hg : g i = some (q 0)) (hJ : ¬ J) : vx_Met l yX3_isAlike wsX3_isAlike ({ frames := 7, cells := 1, slots := 6, locals := 110 } : Room) (va_Pc [.ref (a 0), .int (nI i)] (gX D (gT cy) sa [(a 0, eTop (a 1) (a 3) (a 5) (a 6) uw), (a 5, eQ cy 2 g), (q 0, eCli (gb (J)) (q 1) (q 3) (q 5) (q 7) dc (q 8) (q 9) k)] sz)) gNo (gXC xIS sz) 1 6 (fun q => sz ≤ q) := by
  refine gM_x (cc := cX3_isAlike) (maxL := 2) (ret := (some .boolean)) (by decide) rfl (Nat.le_of_ble_eq_true rfl) ?_
  intro pp ee ss mm bw mt cd QQ ls hfx hP hG hE ht hQ hx1 hl
  obtain ⟨hx, hb, hml, hown, hts, hlocks⟩ := hfx
  have hown : ss.vm.findClass RX3 = some mm.cls := hown
  have hl : lv_has ls 2 [(0, .ref (a 0)), (1, .int (nI i))] := hl
  refine lv_iload_n hx hb dX3_isAlike_0 rfl (lv_at hl 1 rfl) ?_
  refine lv_iconst (v := nI 2) hx hb dX3_isAlike_1 (by decide) ?_
  refine gc_Si (va_runS (As := [.int (nI i), .int (nI 2)]) (rest := []) ⟨hx, hb, hml, hown, hts⟩ (c_X3_isIndex l D cy (nI i) (nI 2)) (va_cwS 2 hts gX3_isAlike_X3_isIndex rfl rfl rfl (by decide +kernel) ⟨Nat.le_of_ble_eq_true rfl, Nat.le_of_ble_eq_true rfl⟩) (gpSR hG (hP.sub [] rfl)) rfl rfl hl.1 rfl (lv_room (Nat.le_of_ble_eq_true rfl)) dX3_isAlike_2 ⟨Nat.zero_le _, Nat.zero_le _⟩) ?_
  refine g_ti (y := gb (pIn (nI i) 0 1)) (congrArg (fun z => gb (pIn (nI i) 0 z)) (by decide)) ?_
  refine gc_Sv (va_runS (As := [.int (gb (pIn (nI i) 0 1))]) (rest := []) ⟨hx, hb, hml, hown, hts⟩ (c_X3_requireArgument l D cy (gb (pIn (nI i) 0 1)) (gb_ne0.mpr (ok_idx (n := 1) (by omega) (by decide)))) (va_cwS 1 hts gX3_isAlike_X3_requireArgument rfl rfl rfl (by decide +kernel) ⟨Nat.le_of_ble_eq_true rfl, Nat.le_of_ble_eq_true rfl⟩) (gpSR hG (hP.sub [] rfl)) rfl rfl hl.1 rfl (lv_room (Nat.le_of_ble_eq_true rfl)) dX3_isAlike_5 ⟨Nat.zero_le _, Nat.zero_le _⟩) ?_
  refine lv_aload_n hx hb dX3_isAlike_8 rfl (lv_at hl 0 rfl) ?_
  refine va_get (D := D) (ci := 3) (v := .ref (a 5)) (C := RX3) (T := TX3) (N := 5) hx hb hts iX3_isAlike_X3 hown hG.1 hP 0 rfl rfl 2 (by decide) (hts (.fieldLink RX3 21 "DirtyTiles" "clients" "[LDirtyTiles$Client;") (by decide +kernel)) (fun _ h9 => h9) rfl dX3_isAlike_9 ?_
  refine lv_iload_n hx hb dX3_isAlike_12 rfl (lv_at hl 1 rfl) ?_
  refine g_aldq hx hb hG hP 1 3 rfl rfl (k := i) (x := q 0) (by omega) (by decide) hg dX3_isAlike_13 ?_
  refine gc_Si (va_runV (As := []) (rest := []) ⟨hx, hb, hml, hown, hts⟩ (c_X1_hasJoined l D cy q J dc k) (cwV 0 hts gX3_isAlike_X1_hasJoined rfl rfl rfl (by decide +kernel) ⟨Nat.le_of_ble_eq_true rfl, Nat.le_of_ble_eq_true rfl⟩) (gpVR (ci := 1) (q0 := 0) hG (hP.sub [2] rfl) rfl rfl) rfl rfl hl.1 rfl (lv_room (Nat.le_of_ble_eq_true rfl)) dX3_isAlike_14 ⟨Nat.zero_le _, Nat.zero_le _⟩) ?_
  exact hx1 _ _ _ _ _ (fun _ _ _ h => h) (vx_runS (As := [.int (gb (J))]) (rest := []) ⟨hx, hb, hml, hown, hts⟩ (cx_X3_requireState l hst D cy sa ss.heap.size (gb (J)) (gb_eq0.mpr (hJ))) (va_cwS 1 hts gX3_isAlike_X3_requireState rfl rfl rfl (by decide +kernel) ⟨Nat.le_of_ble_eq_true rfl, Nat.le_of_ble_eq_true rfl⟩) (gpSX hG hE (hP.sub [] rfl)) rfl rfl hl.1 rfl (lv_room (Nat.le_of_ble_eq_true rfl)) dX3_isAlike_17 ⟨Nat.le_of_ble_eq_true rfl, Nat.le_of_ble_eq_true rfl⟩)
set_option maxHeartbeats 4000000 in
set_option maxRecDepth 100000 in
theorem cx_X3_unlike (l : Launch) (hst : l.stackTraces = false) (D : va_G) (cy : Nat → ClassId) (sa : Nat → Nat) (sz : Nat) (a0 : Nat) (i : Int32) (hn : ¬ pIn i 0 1) : vx_Met l yX3_unlike wsX3_unlike ({ frames := 7, cells := 1, slots := 6, locals := 110 } : Room) (va_Pc [.ref a0, .int i] (gX D (gT cy) sa [] sz)) gNo (gXC xIA sz) 1 6 (fun q => sz ≤ q) := by
  refine gM_x (cc := cX3_unlike) (maxL := 5) (ret := (some .int)) (by decide) rfl (Nat.le_of_ble_eq_true rfl) ?_
  intro pp ee ss mm bw mt cd QQ ls hfx hP hG hE ht hQ hx1 hl
  obtain ⟨hx, hb, hml, hown, hts, hlocks⟩ := hfx
  have hown : ss.vm.findClass RX3 = some mm.cls := hown
  have hl : lv_has ls 5 [(0, .ref a0), (1, .int i)] := hl
  refine lv_iload_n hx hb dX3_unlike_0 rfl (lv_at hl 1 rfl) ?_
  refine lv_iconst (v := nI 2) hx hb dX3_unlike_1 (by decide) ?_
  refine gc_Si (va_runS (As := [.int i, .int (nI 2)]) (rest := []) ⟨hx, hb, hml, hown, hts⟩ (c_X3_isIndex l D cy i (nI 2)) (va_cwS 2 hts gX3_unlike_X3_isIndex rfl rfl rfl (by decide +kernel) ⟨Nat.le_of_ble_eq_true rfl, Nat.le_of_ble_eq_true rfl⟩) (gpSR hG (hP.sub [] rfl)) rfl rfl hl.1 rfl (lv_room (Nat.le_of_ble_eq_true rfl)) dX3_unlike_2 ⟨Nat.zero_le _, Nat.zero_le _⟩) ?_
  refine g_ti (y := gb (pIn i 0 1)) (congrArg (fun z => gb (pIn i 0 z)) (by decide)) ?_
  exact hx1 _ _ _ _ _ (fun _ _ _ h => h) (vx_runS (As := [.int (gb (pIn i 0 1))]) (rest := []) ⟨hx, hb, hml, hown, hts⟩ (cx_X3_requireArgument l hst D cy sa ss.heap.size (gb (pIn i 0 1)) (gb_eq0.mpr (hn))) (va_cwS 1 hts gX3_unlike_X3_requireArgument rfl rfl rfl (by decide +kernel) ⟨Nat.le_of_ble_eq_true rfl, Nat.le_of_ble_eq_true rfl⟩) (gpSX hG hE (hP.sub [] rfl)) rfl rfl hl.1 rfl (lv_room (Nat.le_of_ble_eq_true rfl)) dX3_unlike_5 ⟨Nat.le_of_ble_eq_true rfl, Nat.le_of_ble_eq_true rfl⟩)
set_option maxHeartbeats 4000000 in
set_option maxRecDepth 100000 in
theorem cx_X3_unlike_s (l : Launch) (hst : l.stackTraces = false) (D : va_G) (cy : Nat → ClassId) (sa : Nat → Nat) (sz : Nat) (a q : Nat → Nat) (uw : Int32) (g : Nat → Option Nat) (J : Prop) (dc k : Int32) (i : Nat) (hi : i < 2) (hg : g i = some (q 0)) (hJ : ¬ J) : vx_Met l yX3_unlike wsX3_unlike ({ frames := 7, cells := 1, slots := 6, locals := 110 } : Room) (va_Pc [.ref (a 0), .int (nI i)] (gX D (gT cy) sa [(a 0, eTop (a 1) (a 3) (a 5) (a 6) uw), (a 5, eQ cy 2 g), (q 0, eCli (gb (J)) (q 1) (q 3) (q 5) (q 7) dc (q 8) (q 9) k)] sz)) gNo (gXC xIS sz) 1 6 (fun q => sz ≤ q) := by
  refine gM_x (cc := cX3_unlike) (maxL := 5) (ret := (some .int)) (by decide) rfl (Nat.le_of_ble_eq_true rfl) ?_
  intro pp ee ss mm bw mt cd QQ ls hfx hP hG hE ht hQ hx1 hl
  obtain ⟨hx, hb, hml, hown, hts, hlocks⟩ := hfx
  have hown : ss.vm.findClass RX3 = some mm.cls := hown
  have hl : lv_has ls 5 [(0, .ref (a 0)), (1, .int (nI i))] := hl
  refine lv_iload_n hx hb dX3_unlike_0 rfl (lv_at hl 1 rfl) ?_
  refine lv_iconst (v := nI 2) hx hb dX3_unlike_1 (by decide) ?_
  refine gc_Si (va_runS (As := [.int (nI i), .int (nI 2)]) (rest := []) ⟨hx, hb, hml, hown, hts⟩ (c_X3_isIndex l D cy (nI i) (nI 2)) (va_cwS 2 hts gX3_unlike_X3_isIndex rfl rfl rfl (by decide +kernel) ⟨Nat.le_of_ble_eq_true rfl, Nat.le_of_ble_eq_true rfl⟩) (gpSR hG (hP.sub [] rfl)) rfl rfl hl.1 rfl (lv_room (Nat.le_of_ble_eq_true rfl)) dX3_unlike_2 ⟨Nat.zero_le _, Nat.zero_le _⟩) ?_
  refine g_ti (y := gb (pIn (nI i) 0 1)) (congrArg (fun z => gb (pIn (nI i) 0 z)) (by decide)) ?_
  refine gc_Sv (va_runS (As := [.int (gb (pIn (nI i) 0 1))]) (rest := []) ⟨hx, hb, hml, hown, hts⟩ (c_X3_requireArgument l D cy (gb (pIn (nI i) 0 1)) (gb_ne0.mpr (ok_idx (n := 1) (by omega) (by decide)))) (va_cwS 1 hts gX3_unlike_X3_requireArgument rfl rfl rfl (by decide +kernel) ⟨Nat.le_of_ble_eq_true rfl, Nat.le_of_ble_eq_true rfl⟩) (gpSR hG (hP.sub [] rfl)) rfl rfl hl.1 rfl (lv_room (Nat.le_of_ble_eq_true rfl)) dX3_unlike_5 ⟨Nat.zero_le _, Nat.zero_le _⟩) ?_
  refine lv_aload_n hx hb dX3_unlike_8 rfl (lv_at hl 0 rfl) ?_
  refine va_get (D := D) (ci := 3) (v := .ref (a 5)) (C := RX3) (T := TX3) (N := 5) hx hb hts iX3_unlike_X3 hown hG.1 hP 0 rfl rfl 2 (by decide) (hts (.fieldLink RX3 21 "DirtyTiles" "clients" "[LDirtyTiles$Client;") (by decide +kernel)) (fun _ h9 => h9) rfl dX3_unlike_9 ?_
  refine lv_iload_n hx hb dX3_unlike_12 rfl (lv_at hl 1 rfl) ?_
  refine g_aldq hx hb hG hP 1 3 rfl rfl (k := i) (x := q 0) (by omega) (by decide) hg dX3_unlike_13 ?_
  refine gc_Si (va_runV (As := []) (rest := []) ⟨hx, hb, hml, hown, hts⟩ (c_X1_hasJoined l D cy q J dc k) (cwV 0 hts gX3_unlike_X1_hasJoined rfl rfl rfl (by decide +kernel) ⟨Nat.le_of_ble_eq_true rfl, Nat.le_of_ble_eq_true rfl⟩) (gpVR (ci := 1) (q0 := 0) hG (hP.sub [2] rfl) rfl rfl) rfl rfl hl.1 rfl (lv_room (Nat.le_of_ble_eq_true rfl)) dX3_unlike_14 ⟨Nat.zero_le _, Nat.zero_le _⟩) ?_
  exact hx1 _ _ _ _ _ (fun _ _ _ h => h) (vx_runS (As := [.int (gb (J))]) (rest := []) ⟨hx, hb, hml, hown, hts⟩ (cx_X3_requireState l hst D cy sa ss.heap.size (gb (J)) (gb_eq0.mpr (hJ))) (va_cwS 1 hts gX3_unlike_X3_requireState rfl rfl rfl (by decide +kernel) ⟨Nat.le_of_ble_eq_true rfl, Nat.le_of_ble_eq_true rfl⟩) (gpSX hG hE (hP.sub [] rfl)) rfl rfl hl.1 rfl (lv_room (Nat.le_of_ble_eq_true rfl)) dX3_unlike_17 ⟨Nat.le_of_ble_eq_true rfl, Nat.le_of_ble_eq_true rfl⟩)
set_option maxHeartbeats 4000000 in
set_option maxRecDepth 100000 in
theorem cx_X3_answer (l : Launch) (hst : l.stackTraces = false) (D : va_G) (cy : Nat → ClassId) (sa : Nat → Nat) (sz : Nat) (a0 : Nat) (i : Int32) (hn : ¬ pIn i 0 1) : vx_Met l yX3_answer wsX3_answer ({ frames := 7, cells := 1, slots := 6, locals := 110 } : Room) (va_Pc [.ref a0, .int i] (gX D (gT cy) sa [] sz)) gNo (gXC xIA sz) 1 6 (fun q => sz ≤ q) := by
  refine gM_x (cc := cX3_answer) (maxL := 2) (ret := (some .int)) (by decide) rfl (Nat.le_of_ble_eq_true rfl) ?_
  intro pp ee ss mm bw mt cd QQ ls hfx hP hG hE ht hQ hx1 hl
  obtain ⟨hx, hb, hml, hown, hts, hlocks⟩ := hfx
  have hown : ss.vm.findClass RX3 = some mm.cls := hown
  have hl : lv_has ls 2 [(0, .ref a0), (1, .int i)] := hl
  refine lv_iload_n hx hb dX3_answer_0 rfl (lv_at hl 1 rfl) ?_
  refine lv_iconst (v := nI 2) hx hb dX3_answer_1 (by decide) ?_
  refine gc_Si (va_runS (As := [.int i, .int (nI 2)]) (rest := []) ⟨hx, hb, hml, hown, hts⟩ (c_X3_isIndex l D cy i (nI 2)) (va_cwS 2 hts gX3_answer_X3_isIndex rfl rfl rfl (by decide +kernel) ⟨Nat.le_of_ble_eq_true rfl, Nat.le_of_ble_eq_true rfl⟩) (gpSR hG (hP.sub [] rfl)) rfl rfl hl.1 rfl (lv_room (Nat.le_of_ble_eq_true rfl)) dX3_answer_2 ⟨Nat.zero_le _, Nat.zero_le _⟩) ?_
  refine g_ti (y := gb (pIn i 0 1)) (congrArg (fun z => gb (pIn i 0 z)) (by decide)) ?_
  exact hx1 _ _ _ _ _ (fun _ _ _ h => h) (vx_runS (As := [.int (gb (pIn i 0 1))]) (rest := []) ⟨hx, hb, hml, hown, hts⟩ (cx_X3_requireArgument l hst D cy sa ss.heap.size (gb (pIn i 0 1)) (gb_eq0.mpr (hn))) (va_cwS 1 hts gX3_answer_X3_requireArgument rfl rfl rfl (by decide +kernel) ⟨Nat.le_of_ble_eq_true rfl, Nat.le_of_ble_eq_true rfl⟩) (gpSX hG hE (hP.sub [] rfl)) rfl rfl hl.1 rfl (lv_room (Nat.le_of_ble_eq_true rfl)) dX3_answer_5 ⟨Nat.le_of_ble_eq_true rfl, Nat.le_of_ble_eq_true rfl⟩)
theorem iX3_answer_X3 : ∀ w ∈ wsX30, w ∈ wsX3_answer := by decide +kernel
set_option maxHeartbeats 4000000 in
set_option maxRecDepth 100000 in
theorem cx_X3_answer_s (l : Launch) (hst : l.stackTraces = false) (D : va_G) (cy : Nat → ClassId) (sa : Nat → Nat) (sz : Nat) (a q : Nat → Nat) (uw : Int32) (g : Nat → Option Nat) (J : Prop) (dc k : Int32) (i : Nat) (hi : i < 2) (hg : g i = some (q 0)) (hJ : ¬ J) : vx_Met l yX3_answer wsX3_answer ({ frames := 7, cells := 1, slots := 6, locals := 110 } : Room) (va_Pc [.ref (a 0), .int (nI i)] (gX D (gT cy) sa [(a 0, eTop (a 1) (a 3) (a 5) (a 6) uw), (a 5, eQ cy 2 g), (q 0, eCli (gb (J)) (q 1) (q 3) (q 5) (q 7) dc (q 8) (q 9) k)] sz)) gNo (gXC xIS sz) 1 6 (fun q => sz ≤ q) := by
  refine gM_x (cc := cX3_answer) (maxL := 2) (ret := (some .int)) (by decide) rfl (Nat.le_of_ble_eq_true rfl) ?_
  intro pp ee ss mm bw mt cd QQ ls hfx hP hG hE ht hQ hx1 hl
  obtain ⟨hx, hb, hml, hown, hts, hlocks⟩ := hfx
  have hown : ss.vm.findClass RX3 = some mm.cls := hown
  have hl : lv_has ls 2 [(0, .ref (a 0)), (1, .int (nI i))] := hl
  refine lv_iload_n hx hb dX3_answer_0 rfl (lv_at hl 1 rfl) ?_
  refine lv_iconst (v := nI 2) hx hb dX3_answer_1 (by decide) ?_
  refine gc_Si (va_runS (As := [.int (nI i), .int (nI 2)]) (rest := []) ⟨hx, hb, hml, hown, hts⟩ (c_X3_isIndex l D cy (nI i) (nI 2)) (va_cwS 2 hts gX3_answer_X3_isIndex rfl rfl rfl (by decide +kernel) ⟨Nat.le_of_ble_eq_true rfl, Nat.le_of_ble_eq_true rfl⟩) (gpSR hG (hP.sub [] rfl)) rfl rfl hl.1 rfl (lv_room (Nat.le_of_ble_eq_true rfl)) dX3_answer_2 ⟨Nat.zero_le _, Nat.zero_le _⟩) ?_
  refine g_ti (y := gb (pIn (nI i) 0 1)) (congrArg (fun z => gb (pIn (nI i) 0 z)) (by decide)) ?_
  refine gc_Sv (va_runS (As := [.int (gb (pIn (nI i) 0 1))]) (rest := []) ⟨hx, hb, hml, hown, hts⟩ (c_X3_requireArgument l D cy (gb (pIn (nI i) 0 1)) (gb_ne0.mpr (ok_idx (n := 1) (by omega) (by decide)))) (va_cwS 1 hts gX3_answer_X3_requireArgument rfl rfl rfl (by decide +kernel) ⟨Nat.le_of_ble_eq_true rfl, Nat.le_of_ble_eq_true rfl⟩) (gpSR hG (hP.sub [] rfl)) rfl rfl hl.1 rfl (lv_room (Nat.le_of_ble_eq_true rfl)) dX3_answer_5 ⟨Nat.zero_le _, Nat.zero_le _⟩) ?_
  refine lv_aload_n hx hb dX3_answer_8 rfl (lv_at hl 0 rfl) ?_
  refine va_get (D := D) (ci := 3) (v := .ref (a 5)) (C := RX3) (T := TX3) (N := 5) hx hb hts iX3_answer_X3 hown hG.1 hP 0 rfl rfl 2 (by decide) (hts (.fieldLink RX3 21 "DirtyTiles" "clients" "[LDirtyTiles$Client;") (by decide +kernel)) (fun _ h9 => h9) rfl dX3_answer_9 ?_
  refine lv_iload_n hx hb dX3_answer_12 rfl (lv_at hl 1 rfl) ?_
  refine g_aldq hx hb hG hP 1 3 rfl rfl (k := i) (x := q 0) (by omega) (by decide) hg dX3_answer_13 ?_
  refine gc_Si (va_runV (As := []) (rest := []) ⟨hx, hb, hml, hown, hts⟩ (c_X1_hasJoined l D cy q J dc k) (cwV 0 hts gX3_answer_X1_hasJoined rfl rfl rfl (by decide +kernel) ⟨Nat.le_of_ble_eq_true rfl, Nat.le_of_ble_eq_true rfl⟩) (gpVR (ci := 1) (q0 := 0) hG (hP.sub [2] rfl) rfl rfl) rfl rfl hl.1 rfl (lv_room (Nat.le_of_ble_eq_true rfl)) dX3_answer_14 ⟨Nat.zero_le _, Nat.zero_le _⟩) ?_
  exact hx1 _ _ _ _ _ (fun _ _ _ h => h) (vx_runS (As := [.int (gb (J))]) (rest := []) ⟨hx, hb, hml, hown, hts⟩ (cx_X3_requireState l hst D cy sa ss.heap.size (gb (J)) (gb_eq0.mpr (hJ))) (va_cwS 1 hts gX3_answer_X3_requireState rfl rfl rfl (by decide +kernel) ⟨Nat.le_of_ble_eq_true rfl, Nat.le_of_ble_eq_true rfl⟩) (gpSX hG hE (hP.sub [] rfl)) rfl rfl hl.1 rfl (lv_room (Nat.le_of_ble_eq_true rfl)) dX3_answer_17 ⟨Nat.le_of_ble_eq_true rfl, Nat.le_of_ble_eq_true rfl⟩)
set_option maxHeartbeats 4000000 in
set_option maxRecDepth 100000 in
theorem cx_X3_join (l : Launch) (hst : l.stackTraces = false) (D : va_G) (cy : Nat → ClassId) (sa : Nat → Nat) (sz : Nat) (a0 : Nat) (i : Int32) (hn : ¬ pIn i 0 1) : vx_Met l yX3_join wsX3_join ({ frames := 7, cells := 1, slots := 6, locals := 110 } : Room) (va_Pc [.ref a0, .int i] (gX D (gT cy) sa [] sz)) gNo (gXC xIA sz) 1 6 (fun q => sz ≤ q) := by
  refine gM_x (cc := cX3_join) (maxL := 2) (ret := (some .int)) (by decide) rfl (Nat.le_of_ble_eq_true rfl) ?_
  intro pp ee ss mm bw mt cd QQ ls hfx hP hG hE ht hQ hx1 hl
  obtain ⟨hx, hb, hml, hown, hts, hlocks⟩ := hfx
  have hown : ss.vm.findClass RX3 = some mm.cls := hown
  have hl : lv_has ls 2 [(0, .ref a0), (1, .int i)] := hl
  refine lv_iload_n hx hb dX3_join_0 rfl (lv_at hl 1 rfl) ?_
  refine lv_iconst (v := nI 2) hx hb dX3_join_1 (by decide) ?_
  refine gc_Si (va_runS (As := [.int i, .int (nI 2)]) (rest := []) ⟨hx, hb, hml, hown, hts⟩ (c_X3_isIndex l D cy i (nI 2)) (va_cwS 2 hts gX3_join_X3_isIndex rfl rfl rfl (by decide +kernel) ⟨Nat.le_of_ble_eq_true rfl, Nat.le_of_ble_eq_true rfl⟩) (gpSR hG (hP.sub [] rfl)) rfl rfl hl.1 rfl (lv_room (Nat.le_of_ble_eq_true rfl)) dX3_join_2 ⟨Nat.zero_le _, Nat.zero_le _⟩) ?_
  refine g_ti (y := gb (pIn i 0 1)) (congrArg (fun z => gb (pIn i 0 z)) (by decide)) ?_
  exact hx1 _ _ _ _ _ (fun _ _ _ h => h) (vx_runS (As := [.int (gb (pIn i 0 1))]) (rest := []) ⟨hx, hb, hml, hown, hts⟩ (cx_X3_requireArgument l hst D cy sa ss.heap.size (gb (pIn i 0 1)) (gb_eq0.mpr (hn))) (va_cwS 1 hts gX3_join_X3_requireArgument rfl rfl rfl (by decide +kernel) ⟨Nat.le_of_ble_eq_true rfl, Nat.le_of_ble_eq_true rfl⟩) (gpSX hG hE (hP.sub [] rfl)) rfl rfl hl.1 rfl (lv_room (Nat.le_of_ble_eq_true rfl)) dX3_join_5 ⟨Nat.le_of_ble_eq_true rfl, Nat.le_of_ble_eq_true rfl⟩)
set_option maxHeartbeats 4000000 in
set_option maxRecDepth 100000 in
theorem cx_X3_answer_m (l : Launch) (hst : l.stackTraces = false) (D : va_G) (cy : Nat → ClassId) (sa : Nat → Nat) (sz : Nat) (a q : Nat → Nat) (uw : Int32) (g : Nat → Option Nat) (J : Prop) (dc : Int32) (n i : Nat) (hi : i < 2) (hg : g i = some (q 0)) (hJ : J) (hn : n = 0) : vx_Met l yX3_answer wsX3_answer ({ frames := 7, cells := 1, slots := 6, locals := 110 } : Room) (va_Pc [.ref (a 0), .int (nI i)] (gX D (gT cy) sa [(a 0, eTop (a 1) (a 3) (a 5) (a 6) uw), (a 5, eQ cy 2 g), (q 0, eCli (gb (J)) (q 1) (q 3) (q 5) (q 7) dc (q 8) (q 9) (nI n))] sz)) gNo (gXC xIS sz) 1 6 (fun q => sz ≤ q) := by
  refine gM_x (cc := cX3_answer) (maxL := 2) (ret := (some .int)) (by decide) rfl (Nat.le_of_ble_eq_true rfl) ?_
  intro pp ee ss mm bw mt cd QQ ls hfx hP hG hE ht hQ hx1 hl
  obtain ⟨hx, hb, hml, hown, hts, hlocks⟩ := hfx
  have hown : ss.vm.findClass RX3 = some mm.cls := hown
  have hl : lv_has ls 2 [(0, .ref (a 0)), (1, .int (nI i))] := hl
  refine lv_iload_n hx hb dX3_answer_0 rfl (lv_at hl 1 rfl) ?_
  refine lv_iconst (v := nI 2) hx hb dX3_answer_1 (by decide) ?_
  refine gc_Si (va_runS (As := [.int (nI i), .int (nI 2)]) (rest := []) ⟨hx, hb, hml, hown, hts⟩ (c_X3_isIndex l D cy (nI i) (nI 2)) (va_cwS 2 hts gX3_answer_X3_isIndex rfl rfl rfl (by decide +kernel) ⟨Nat.le_of_ble_eq_true rfl, Nat.le_of_ble_eq_true rfl⟩) (gpSR hG (hP.sub [] rfl)) rfl rfl hl.1 rfl (lv_room (Nat.le_of_ble_eq_true rfl)) dX3_answer_2 ⟨Nat.zero_le _, Nat.zero_le _⟩) ?_
  refine g_ti (y := gb (pIn (nI i) 0 1)) (congrArg (fun z => gb (pIn (nI i) 0 z)) (by decide)) ?_
  refine gc_Sv (va_runS (As := [.int (gb (pIn (nI i) 0 1))]) (rest := []) ⟨hx, hb, hml, hown, hts⟩ (c_X3_requireArgument l D cy (gb (pIn (nI i) 0 1)) (gb_ne0.mpr (ok_idx (n := 1) (by omega) (by decide)))) (va_cwS 1 hts gX3_answer_X3_requireArgument rfl rfl rfl (by decide +kernel) ⟨Nat.le_of_ble_eq_true rfl, Nat.le_of_ble_eq_true rfl⟩) (gpSR hG (hP.sub [] rfl)) rfl rfl hl.1 rfl (lv_room (Nat.le_of_ble_eq_true rfl)) dX3_answer_5 ⟨Nat.zero_le _, Nat.zero_le _⟩) ?_
  refine lv_aload_n hx hb dX3_answer_8 rfl (lv_at hl 0 rfl) ?_
  refine va_get (D := D) (ci := 3) (v := .ref (a 5)) (C := RX3) (T := TX3) (N := 5) hx hb hts iX3_answer_X3 hown hG.1 hP 0 rfl rfl 2 (by decide) (hts (.fieldLink RX3 21 "DirtyTiles" "clients" "[LDirtyTiles$Client;") (by decide +kernel)) (fun _ h9 => h9) rfl dX3_answer_9 ?_
  refine lv_iload_n hx hb dX3_answer_12 rfl (lv_at hl 1 rfl) ?_
  refine g_aldq hx hb hG hP 1 3 rfl rfl (k := i) (x := q 0) (by omega) (by decide) hg dX3_answer_13 ?_
  refine gc_Si (va_runV (As := []) (rest := []) ⟨hx, hb, hml, hown, hts⟩ (c_X1_hasJoined l D cy q J dc (nI n)) (cwV 0 hts gX3_answer_X1_hasJoined rfl rfl rfl (by decide +kernel) ⟨Nat.le_of_ble_eq_true rfl, Nat.le_of_ble_eq_true rfl⟩) (gpVR (ci := 1) (q0 := 0) hG (hP.sub [2] rfl) rfl rfl) rfl rfl hl.1 rfl (lv_room (Nat.le_of_ble_eq_true rfl)) dX3_answer_14 ⟨Nat.zero_le _, Nat.zero_le _⟩) ?_
  refine gc_Sv (va_runS (As := [.int (gb (J))]) (rest := []) ⟨hx, hb, hml, hown, hts⟩ (c_X3_requireState l D cy (gb (J)) (gb_ne0.mpr (hJ))) (va_cwS 1 hts gX3_answer_X3_requireState rfl rfl rfl (by decide +kernel) ⟨Nat.le_of_ble_eq_true rfl, Nat.le_of_ble_eq_true rfl⟩) (gpSR hG (hP.sub [] rfl)) rfl rfl hl.1 rfl (lv_room (Nat.le_of_ble_eq_true rfl)) dX3_answer_17 ⟨Nat.zero_le _, Nat.zero_le _⟩) ?_
  refine lv_aload_n hx hb dX3_answer_20 rfl (lv_at hl 0 rfl) ?_
  refine va_get (D := D) (ci := 3) (v := .ref (a 5)) (C := RX3) (T := TX3) (N := 5) hx hb hts iX3_answer_X3 hown hG.1 hP 0 rfl rfl 2 (by decide) (hts (.fieldLink RX3 21 "DirtyTiles" "clients" "[LDirtyTiles$Client;") (by decide +kernel)) (fun _ h9 => h9) rfl dX3_answer_21 ?_
  refine lv_iload_n hx hb dX3_answer_24 rfl (lv_at hl 1 rfl) ?_
  refine g_aldq hx hb hG hP 1 3 rfl rfl (k := i) (x := q 0) (by omega) (by decide) hg dX3_answer_25 ?_
  refine gc_Si (va_runV (As := []) (rest := []) ⟨hx, hb, hml, hown, hts⟩ (c_X1_hasMessage l D cy q J dc n (by omega)) (cwV 0 hts gX3_answer_X1_hasMessage rfl rfl rfl (by decide +kernel) ⟨Nat.le_of_ble_eq_true rfl, Nat.le_of_ble_eq_true rfl⟩) (gpVR (ci := 1) (q0 := 0) hG (hP.sub [2] rfl) rfl rfl) rfl rfl hl.1 rfl (lv_room (Nat.le_of_ble_eq_true rfl)) dX3_answer_26 ⟨Nat.zero_le _, Nat.zero_le _⟩) ?_
  exact hx1 _ _ _ _ _ (fun _ _ _ h => h) (vx_runS (As := [.int (gb (0 < n))]) (rest := []) ⟨hx, hb, hml, hown, hts⟩ (cx_X3_requireState l hst D cy sa ss.heap.size (gb (0 < n)) (gb_eq0.mpr (by omega))) (va_cwS 1 hts gX3_answer_X3_requireState rfl rfl rfl (by decide +kernel) ⟨Nat.le_of_ble_eq_true rfl, Nat.le_of_ble_eq_true rfl⟩) (gpSX hG hE (hP.sub [] rfl)) rfl rfl hl.1 rfl (lv_room (Nat.le_of_ble_eq_true rfl)) dX3_answer_29 ⟨Nat.le_of_ble_eq_true rfl, Nat.le_of_ble_eq_true rfl⟩)
set_option maxHeartbeats 4000000 in
set_option maxRecDepth 100000 in
theorem cx_X3_dirtyAt (l : Launch) (hst : l.stackTraces = false) (D : va_G) (cy : Nat → ClassId) (sa : Nat → Nat) (sz : Nat) (a0 : Nat) (i j : Int32) (hn : ¬ pIn i 0 1) : vx_Met l yX3_dirtyAt wsX3_dirtyAt ({ frames := 7, cells := 1, slots := 6, locals := 110 } : Room) (va_Pc [.ref a0, .int i, .int j] (gX D (gT cy) sa [] sz)) gNo (gXC xIA sz) 1 6 (fun q => sz ≤ q) := by
  refine gM_x (cc := cX3_dirtyAt) (maxL := 3) (ret := (some .int)) (by decide) rfl (Nat.le_of_ble_eq_true rfl) ?_
  intro pp ee ss mm bw mt cd QQ ls hfx hP hG hE ht hQ hx1 hl
  obtain ⟨hx, hb, hml, hown, hts, hlocks⟩ := hfx
  have hown : ss.vm.findClass RX3 = some mm.cls := hown
  have hl : lv_has ls 3 [(0, .ref a0), (1, .int i), (2, .int j)] := hl
  refine lv_iload_n hx hb dX3_dirtyAt_0 rfl (lv_at hl 1 rfl) ?_
  refine lv_iconst (v := nI 2) hx hb dX3_dirtyAt_1 (by decide) ?_
  refine gc_Si (va_runS (As := [.int i, .int (nI 2)]) (rest := []) ⟨hx, hb, hml, hown, hts⟩ (c_X3_isIndex l D cy i (nI 2)) (va_cwS 2 hts gX3_dirtyAt_X3_isIndex rfl rfl rfl (by decide +kernel) ⟨Nat.le_of_ble_eq_true rfl, Nat.le_of_ble_eq_true rfl⟩) (gpSR hG (hP.sub [] rfl)) rfl rfl hl.1 rfl (lv_room (Nat.le_of_ble_eq_true rfl)) dX3_dirtyAt_2 ⟨Nat.zero_le _, Nat.zero_le _⟩) ?_
  refine g_ti (y := gb (pIn i 0 1)) (congrArg (fun z => gb (pIn i 0 z)) (by decide)) ?_
  exact hx1 _ _ _ _ _ (fun _ _ _ h => h) (vx_runS (As := [.int (gb (pIn i 0 1))]) (rest := []) ⟨hx, hb, hml, hown, hts⟩ (cx_X3_requireArgument l hst D cy sa ss.heap.size (gb (pIn i 0 1)) (gb_eq0.mpr (hn))) (va_cwS 1 hts gX3_dirtyAt_X3_requireArgument rfl rfl rfl (by decide +kernel) ⟨Nat.le_of_ble_eq_true rfl, Nat.le_of_ble_eq_true rfl⟩) (gpSX hG hE (hP.sub [] rfl)) rfl rfl hl.1 rfl (lv_room (Nat.le_of_ble_eq_true rfl)) dX3_dirtyAt_5 ⟨Nat.le_of_ble_eq_true rfl, Nat.le_of_ble_eq_true rfl⟩)
set_option maxHeartbeats 4000000 in
set_option maxRecDepth 100000 in
theorem cx_X3_dirtyAt_s (l : Launch) (hst : l.stackTraces = false) (D : va_G) (cy : Nat → ClassId) (sa : Nat → Nat) (sz : Nat) (a q : Nat → Nat) (uw : Int32) (g : Nat → Option Nat) (J : Prop) (dc k : Int32) (i : Nat) (j : Int32) (hi : i < 2) (hg : g i = some (q 0)) (hJ : ¬ J) : vx_Met l yX3_dirtyAt wsX3_dirtyAt ({ frames := 7, cells := 1, slots := 6, locals := 110 } : Room) (va_Pc [.ref (a 0), .int (nI i), .int j] (gX D (gT cy) sa [(a 0, eTop (a 1) (a 3) (a 5) (a 6) uw), (a 5, eQ cy 2 g), (q 0, eCli (gb (J)) (q 1) (q 3) (q 5) (q 7) dc (q 8) (q 9) k)] sz)) gNo (gXC xIS sz) 1 6 (fun q => sz ≤ q) := by
  refine gM_x (cc := cX3_dirtyAt) (maxL := 3) (ret := (some .int)) (by decide) rfl (Nat.le_of_ble_eq_true rfl) ?_
  intro pp ee ss mm bw mt cd QQ ls hfx hP hG hE ht hQ hx1 hl
  obtain ⟨hx, hb, hml, hown, hts, hlocks⟩ := hfx
  have hown : ss.vm.findClass RX3 = some mm.cls := hown
  have hl : lv_has ls 3 [(0, .ref (a 0)), (1, .int (nI i)), (2, .int j)] := hl
  refine lv_iload_n hx hb dX3_dirtyAt_0 rfl (lv_at hl 1 rfl) ?_
  refine lv_iconst (v := nI 2) hx hb dX3_dirtyAt_1 (by decide) ?_
  refine gc_Si (va_runS (As := [.int (nI i), .int (nI 2)]) (rest := []) ⟨hx, hb, hml, hown, hts⟩ (c_X3_isIndex l D cy (nI i) (nI 2)) (va_cwS 2 hts gX3_dirtyAt_X3_isIndex rfl rfl rfl (by decide +kernel) ⟨Nat.le_of_ble_eq_true rfl, Nat.le_of_ble_eq_true rfl⟩) (gpSR hG (hP.sub [] rfl)) rfl rfl hl.1 rfl (lv_room (Nat.le_of_ble_eq_true rfl)) dX3_dirtyAt_2 ⟨Nat.zero_le _, Nat.zero_le _⟩) ?_
  refine g_ti (y := gb (pIn (nI i) 0 1)) (congrArg (fun z => gb (pIn (nI i) 0 z)) (by decide)) ?_
  refine gc_Sv (va_runS (As := [.int (gb (pIn (nI i) 0 1))]) (rest := []) ⟨hx, hb, hml, hown, hts⟩ (c_X3_requireArgument l D cy (gb (pIn (nI i) 0 1)) (gb_ne0.mpr (ok_idx (n := 1) (by omega) (by decide)))) (va_cwS 1 hts gX3_dirtyAt_X3_requireArgument rfl rfl rfl (by decide +kernel) ⟨Nat.le_of_ble_eq_true rfl, Nat.le_of_ble_eq_true rfl⟩) (gpSR hG (hP.sub [] rfl)) rfl rfl hl.1 rfl (lv_room (Nat.le_of_ble_eq_true rfl)) dX3_dirtyAt_5 ⟨Nat.zero_le _, Nat.zero_le _⟩) ?_
  refine lv_aload_n hx hb dX3_dirtyAt_8 rfl (lv_at hl 0 rfl) ?_
  refine va_get (D := D) (ci := 3) (v := .ref (a 5)) (C := RX3) (T := TX3) (N := 5) hx hb hts iX3_dirtyAt_X3 hown hG.1 hP 0 rfl rfl 2 (by decide) (hts (.fieldLink RX3 21 "DirtyTiles" "clients" "[LDirtyTiles$Client;") (by decide +kernel)) (fun _ h9 => h9) rfl dX3_dirtyAt_9 ?_
  refine lv_iload_n hx hb dX3_dirtyAt_12 rfl (lv_at hl 1 rfl) ?_
  refine g_aldq hx hb hG hP 1 3 rfl rfl (k := i) (x := q 0) (by omega) (by decide) hg dX3_dirtyAt_13 ?_
  refine gc_Si (va_runV (As := []) (rest := []) ⟨hx, hb, hml, hown, hts⟩ (c_X1_hasJoined l D cy q J dc k) (cwV 0 hts gX3_dirtyAt_X1_hasJoined rfl rfl rfl (by decide +kernel) ⟨Nat.le_of_ble_eq_true rfl, Nat.le_of_ble_eq_true rfl⟩) (gpVR (ci := 1) (q0 := 0) hG (hP.sub [2] rfl) rfl rfl) rfl rfl hl.1 rfl (lv_room (Nat.le_of_ble_eq_true rfl)) dX3_dirtyAt_14 ⟨Nat.zero_le _, Nat.zero_le _⟩) ?_
  exact hx1 _ _ _ _ _ (fun _ _ _ h => h) (vx_runS (As := [.int (gb (J))]) (rest := []) ⟨hx, hb, hml, hown, hts⟩ (cx_X3_requireState l hst D cy sa ss.heap.size (gb (J)) (gb_eq0.mpr (hJ))) (va_cwS 1 hts gX3_dirtyAt_X3_requireState rfl rfl rfl (by decide +kernel) ⟨Nat.le_of_ble_eq_true rfl, Nat.le_of_ble_eq_true rfl⟩) (gpSX hG hE (hP.sub [] rfl)) rfl rfl hl.1 rfl (lv_room (Nat.le_of_ble_eq_true rfl)) dX3_dirtyAt_17 ⟨Nat.le_of_ble_eq_true rfl, Nat.le_of_ble_eq_true rfl⟩)
theorem xg_X3_dirtyAt : ∀ w ∈ Cond.classLink RX3 122 xIO :: Cond.initialized xIO :: vx_atS RX3 126 xIO xNm, vx_ot w = true := by decide +kernel
theorem xc_X3_dirtyAt : ∀ w ∈ (vx_atS RX3 126 xIO xNm).filter (fun w => !goodWord w), w ∈ [Cond.castable xIO xIO, Cond.declares (Bundle.initS "java/lang/RuntimeException"), Cond.declares (Bundle.initS "java/lang/Exception"), Cond.declares (Bundle.initS Bundle.tN)] := by decide +kernel
theorem xm_X3_dirtyAt : ∀ w ∈ (vx_atS RX3 126 xIO xNm).filter goodWord, w ∈ wsX3_dirtyAt := by decide +kernel
set_option maxHeartbeats 4000000 in
set_option maxRecDepth 100000 in
theorem cx_X3_dirtyAt_o (l : Launch) (hst : l.stackTraces = false) (D : va_G) (cy : Nat → ClassId) (sa : Nat → Nat) (sz : Nat) (a q : Nat → Nat) (uw : Int32) (g : Nat → Option Nat) (J : Prop) (k : Int32) (i n : Nat) (j : Int32) (hi : i < 2) (hg : g i = some (q 0)) (hJ : J) (hn : n ≤ 12) (hj : ¬ pIn j 0 ((n : Int) - 1)) : vx_Met l yX3_dirtyAt wsX3_dirtyAt ({ frames := 7, cells := 1, slots := 6, locals := 110 } : Room) (va_Pc [.ref (a 0), .int (nI i), .int j] (gX D (gT cy) sa [(a 0, eTop (a 1) (a 3) (a 5) (a 6) uw), (a 5, eQ cy 2 g), (q 0, eCli (gb (J)) (q 1) (q 3) (q 5) (q 7) (nI n) (q 8) (q 9) k)] sz)) gNo (gXC xIO sz) 1 6 (fun q => sz ≤ q) := by
  refine gM_x (cc := cX3_dirtyAt) (maxL := 3) (ret := (some .int)) (by decide) rfl (Nat.le_of_ble_eq_true rfl) ?_
  intro pp ee ss mm bw mt cd QQ ls hfx hP hG hE ht hQ hx1 hl
  obtain ⟨hx, hb, hml, hown, hts, hlocks⟩ := hfx
  have hown : ss.vm.findClass RX3 = some mm.cls := hown
  have hl : lv_has ls 3 [(0, .ref (a 0)), (1, .int (nI i)), (2, .int j)] := hl
  refine lv_iload_n hx hb dX3_dirtyAt_0 rfl (lv_at hl 1 rfl) ?_
  refine lv_iconst (v := nI 2) hx hb dX3_dirtyAt_1 (by decide) ?_
  refine gc_Si (va_runS (As := [.int (nI i), .int (nI 2)]) (rest := []) ⟨hx, hb, hml, hown, hts⟩ (c_X3_isIndex l D cy (nI i) (nI 2)) (va_cwS 2 hts gX3_dirtyAt_X3_isIndex rfl rfl rfl (by decide +kernel) ⟨Nat.le_of_ble_eq_true rfl, Nat.le_of_ble_eq_true rfl⟩) (gpSR hG (hP.sub [] rfl)) rfl rfl hl.1 rfl (lv_room (Nat.le_of_ble_eq_true rfl)) dX3_dirtyAt_2 ⟨Nat.zero_le _, Nat.zero_le _⟩) ?_
  refine g_ti (y := gb (pIn (nI i) 0 1)) (congrArg (fun z => gb (pIn (nI i) 0 z)) (by decide)) ?_
  refine gc_Sv (va_runS (As := [.int (gb (pIn (nI i) 0 1))]) (rest := []) ⟨hx, hb, hml, hown, hts⟩ (c_X3_requireArgument l D cy (gb (pIn (nI i) 0 1)) (gb_ne0.mpr (ok_idx (n := 1) (by omega) (by decide)))) (va_cwS 1 hts gX3_dirtyAt_X3_requireArgument rfl rfl rfl (by decide +kernel) ⟨Nat.le_of_ble_eq_true rfl, Nat.le_of_ble_eq_true rfl⟩) (gpSR hG (hP.sub [] rfl)) rfl rfl hl.1 rfl (lv_room (Nat.le_of_ble_eq_true rfl)) dX3_dirtyAt_5 ⟨Nat.zero_le _, Nat.zero_le _⟩) ?_
  refine lv_aload_n hx hb dX3_dirtyAt_8 rfl (lv_at hl 0 rfl) ?_
  refine va_get (D := D) (ci := 3) (v := .ref (a 5)) (C := RX3) (T := TX3) (N := 5) hx hb hts iX3_dirtyAt_X3 hown hG.1 hP 0 rfl rfl 2 (by decide) (hts (.fieldLink RX3 21 "DirtyTiles" "clients" "[LDirtyTiles$Client;") (by decide +kernel)) (fun _ h9 => h9) rfl dX3_dirtyAt_9 ?_
  refine lv_iload_n hx hb dX3_dirtyAt_12 rfl (lv_at hl 1 rfl) ?_
  refine g_aldq hx hb hG hP 1 3 rfl rfl (k := i) (x := q 0) (by omega) (by decide) hg dX3_dirtyAt_13 ?_
  refine gc_Si (va_runV (As := []) (rest := []) ⟨hx, hb, hml, hown, hts⟩ (c_X1_hasJoined l D cy q J (nI n) k) (cwV 0 hts gX3_dirtyAt_X1_hasJoined rfl rfl rfl (by decide +kernel) ⟨Nat.le_of_ble_eq_true rfl, Nat.le_of_ble_eq_true rfl⟩) (gpVR (ci := 1) (q0 := 0) hG (hP.sub [2] rfl) rfl rfl) rfl rfl hl.1 rfl (lv_room (Nat.le_of_ble_eq_true rfl)) dX3_dirtyAt_14 ⟨Nat.zero_le _, Nat.zero_le _⟩) ?_
  refine gc_Sv (va_runS (As := [.int (gb (J))]) (rest := []) ⟨hx, hb, hml, hown, hts⟩ (c_X3_requireState l D cy (gb (J)) (gb_ne0.mpr (hJ))) (va_cwS 1 hts gX3_dirtyAt_X3_requireState rfl rfl rfl (by decide +kernel) ⟨Nat.le_of_ble_eq_true rfl, Nat.le_of_ble_eq_true rfl⟩) (gpSR hG (hP.sub [] rfl)) rfl rfl hl.1 rfl (lv_room (Nat.le_of_ble_eq_true rfl)) dX3_dirtyAt_17 ⟨Nat.zero_le _, Nat.zero_le _⟩) ?_
  refine lv_iload_n hx hb dX3_dirtyAt_20 rfl (lv_at hl 2 rfl) ?_
  refine lv_aload_n hx hb dX3_dirtyAt_21 rfl (lv_at hl 0 rfl) ?_
  refine va_get (D := D) (ci := 3) (v := .ref (a 5)) (C := RX3) (T := TX3) (N := 5) hx hb hts iX3_dirtyAt_X3 hown hG.1 hP 0 rfl rfl 2 (by decide) (hts (.fieldLink RX3 21 "DirtyTiles" "clients" "[LDirtyTiles$Client;") (by decide +kernel)) (fun _ h9 => h9) rfl dX3_dirtyAt_22 ?_
  refine lv_iload_n hx hb dX3_dirtyAt_25 rfl (lv_at hl 1 rfl) ?_
  refine g_aldq hx hb hG hP 1 3 rfl rfl (k := i) (x := q 0) (by omega) (by decide) hg dX3_dirtyAt_26 ?_
  refine gc_Si (va_runV (As := []) (rest := [.int j]) ⟨hx, hb, hml, hown, hts⟩ (c_X1_dirtyCount l D cy q J (nI n) k) (cwV 0 hts gX3_dirtyAt_X1_dirtyCount rfl rfl rfl (by decide +kernel) ⟨Nat.le_of_ble_eq_true rfl, Nat.le_of_ble_eq_true rfl⟩) (gpVR (ci := 1) (q0 := 0) hG (hP.sub [2] rfl) rfl rfl) rfl rfl hl.1 rfl (lv_room (Nat.le_of_ble_eq_true rfl)) dX3_dirtyAt_27 ⟨Nat.zero_le _, Nat.zero_le _⟩) ?_
  refine gc_Si (va_runS (As := [.int j, .int (nI n)]) (rest := []) ⟨hx, hb, hml, hown, hts⟩ (c_X3_isIndex l D cy j (nI n)) (va_cwS 2 hts gX3_dirtyAt_X3_isIndex rfl rfl rfl (by decide +kernel) ⟨Nat.le_of_ble_eq_true rfl, Nat.le_of_ble_eq_true rfl⟩) (gpSR hG (hP.sub [] rfl)) rfl rfl hl.1 rfl (lv_room (Nat.le_of_ble_eq_true rfl)) dX3_dirtyAt_30 ⟨Nat.zero_le _, Nat.zero_le _⟩) ?_
  refine g_ti (y := gb (pIn j 0 ((n : Int) - 1))) (by rw [nI_toInt (by omega)]) ?_
  refine lv_if_ne (tgt := 46) hx hb dX3_dirtyAt_33 (by decide) (fun c_33 => ?_) (fun c_33 => ?_)
  · skip
    have c_33 : pIn j 0 ((n : Int) - 1) := gb_ne0.mp c_33
    exact absurd c_33 hj
  · skip
    have c_33 : ¬ (pIn j 0 ((n : Int) - 1)) := gb_eq0.mp c_33
    rw [hQ]
    exact vx_throwS (own := RX3) (cls := xIO) (text := "no such dirty tile") (names := xNm) (ik := 122) (is := 124) (ic := 126) (sa := sa 2) (A := fun q => ss.heap.size ≤ q) hx hb hst hown (by decide +kernel) (by decide +kernel) (hts (.classLink RX3 122 xIO) (by decide +kernel)) (hts (.initialized xIO) (by decide +kernel)) hE.2.2.2.2.1 (vx_hat (fun w hw => hts w (xm_X3_dirtyAt w hw)) xc_X3_dirtyAt (vx_c (va_Nw.use rfl hE.2.2.2.2.2.2.2.1) (vx_c (va_Nw.use rfl hE.2.2.2.2.2.2.2.2.1) (vx_c (va_Nw.use rfl hE.2.2.2.2.2.2.2.2.2.1) (vx_c (va_Nw.use rfl hE.2.2.2.2.2.2.2.2.2.2) vx_n))))) xg_X3_dirtyAt hE.1 hE.2.1 va_S.rf (hl.1.trans hml.symm) dX3_dirtyAt_36 dX3_dirtyAt_39 dX3_dirtyAt_40 dX3_dirtyAt_42 dX3_dirtyAt_45 (fun x hx9 => (ht x hx9).elim) (Nat.le_of_ble_eq_true rfl) (Nat.le_of_ble_eq_true rfl) (Nat.le_of_ble_eq_true rfl) (Nat.le_of_ble_eq_true rfl) hlocks (fun t _ h1 h2 => ⟨rfl, h1, fun q hq _ => h2 q hq⟩) (fun z hz => nomatch hz) (Nat.le_of_ble_eq_true rfl) (Nat.le_of_ble_eq_true rfl)
set_option maxHeartbeats 4000000 in
set_option maxRecDepth 100000 in
theorem cx_X3_way (l : Launch) (hst : l.stackTraces = false) (D : va_G) (cy : Nat → ClassId) (sa : Nat → Nat) (sz : Nat) (a0 : Nat) (i t : Int32) (hn : ¬ (pIn i 0 1 ∧ pIn t 0 11)) : vx_Met l yX3_way wsX3_way ({ frames := 7, cells := 1, slots := 6, locals := 110 } : Room) (va_Pc [.ref a0, .int i, .int t] (gX D (gT cy) sa [] sz)) gNo (gXC xIA sz) 1 6 (fun q => sz ≤ q) := by
  refine gM_x (cc := cX3_way) (maxL := 3) (ret := (some .int)) (by decide) rfl (Nat.le_of_ble_eq_true rfl) ?_
  intro pp ee ss mm bw mt cd QQ ls hfx hP hG hE ht hQ hx1 hl
  obtain ⟨hx, hb, hml, hown, hts, hlocks⟩ := hfx
  have hown : ss.vm.findClass RX3 = some mm.cls := hown
  have hl : lv_has ls 3 [(0, .ref a0), (1, .int i), (2, .int t)] := hl
  refine lv_iload_n hx hb dX3_way_0 rfl (lv_at hl 1 rfl) ?_
  refine lv_iconst (v := nI 2) hx hb dX3_way_1 (by decide) ?_
  refine gc_Si (va_runS (As := [.int i, .int (nI 2)]) (rest := []) ⟨hx, hb, hml, hown, hts⟩ (c_X3_isIndex l D cy i (nI 2)) (va_cwS 2 hts gX3_way_X3_isIndex rfl rfl rfl (by decide +kernel) ⟨Nat.le_of_ble_eq_true rfl, Nat.le_of_ble_eq_true rfl⟩) (gpSR hG (hP.sub [] rfl)) rfl rfl hl.1 rfl (lv_room (Nat.le_of_ble_eq_true rfl)) dX3_way_2 ⟨Nat.zero_le _, Nat.zero_le _⟩) ?_
  refine g_ti (y := gb (pIn i 0 1)) (congrArg (fun z => gb (pIn i 0 z)) (by decide)) ?_
  by_cases hs_5 : pIn i 0 1
  · skip
    refine gc_Sv (va_runS (As := [.int (gb (pIn i 0 1))]) (rest := []) ⟨hx, hb, hml, hown, hts⟩ (c_X3_requireArgument l D cy (gb (pIn i 0 1)) (gb_ne0.mpr hs_5)) (va_cwS 1 hts gX3_way_X3_requireArgument rfl rfl rfl (by decide +kernel) ⟨Nat.le_of_ble_eq_true rfl, Nat.le_of_ble_eq_true rfl⟩) (gpSR hG (hP.sub [] rfl)) rfl rfl hl.1 rfl (lv_room (Nat.le_of_ble_eq_true rfl)) dX3_way_5 ⟨Nat.zero_le _, Nat.zero_le _⟩) ?_
    refine lv_iload_n hx hb dX3_way_8 rfl (lv_at hl 2 rfl) ?_
    refine lv_bipush (v := nI 12) hx hb dX3_way_9 (by decide) ?_
    refine gc_Si (va_runS (As := [.int t, .int (nI 12)]) (rest := []) ⟨hx, hb, hml, hown, hts⟩ (c_X3_isIndex l D cy t (nI 12)) (va_cwS 2 hts gX3_way_X3_isIndex rfl rfl rfl (by decide +kernel) ⟨Nat.le_of_ble_eq_true rfl, Nat.le_of_ble_eq_true rfl⟩) (gpSR hG (hP.sub [] rfl)) rfl rfl hl.1 rfl (lv_room (Nat.le_of_ble_eq_true rfl)) dX3_way_11 ⟨Nat.zero_le _, Nat.zero_le _⟩) ?_
    refine g_ti (y := gb (pIn t 0 11)) (congrArg (fun z => gb (pIn t 0 z)) (by decide)) ?_
    exact hx1 _ _ _ _ _ (fun _ _ _ h => h) (vx_runS (As := [.int (gb (pIn t 0 11))]) (rest := []) ⟨hx, hb, hml, hown, hts⟩ (cx_X3_requireArgument l hst D cy sa ss.heap.size (gb (pIn t 0 11)) (gb_eq0.mpr (fun h => hn ⟨hs_5, h⟩))) (va_cwS 1 hts gX3_way_X3_requireArgument rfl rfl rfl (by decide +kernel) ⟨Nat.le_of_ble_eq_true rfl, Nat.le_of_ble_eq_true rfl⟩) (gpSX hG hE (hP.sub [] rfl)) rfl rfl hl.1 rfl (lv_room (Nat.le_of_ble_eq_true rfl)) dX3_way_14 ⟨Nat.le_of_ble_eq_true rfl, Nat.le_of_ble_eq_true rfl⟩)
  · skip
    exact hx1 _ _ _ _ _ (fun _ _ _ h => h) (vx_runS (As := [.int (gb (pIn i 0 1))]) (rest := []) ⟨hx, hb, hml, hown, hts⟩ (cx_X3_requireArgument l hst D cy sa ss.heap.size (gb (pIn i 0 1)) (gb_eq0.mpr hs_5)) (va_cwS 1 hts gX3_way_X3_requireArgument rfl rfl rfl (by decide +kernel) ⟨Nat.le_of_ble_eq_true rfl, Nat.le_of_ble_eq_true rfl⟩) (gpSX hG hE (hP.sub [] rfl)) rfl rfl hl.1 rfl (lv_room (Nat.le_of_ble_eq_true rfl)) dX3_way_5 ⟨Nat.le_of_ble_eq_true rfl, Nat.le_of_ble_eq_true rfl⟩)
set_option maxHeartbeats 4000000 in
set_option maxRecDepth 100000 in
theorem cx_X3_way_s (l : Launch) (hst : l.stackTraces = false) (D : va_G) (cy : Nat → ClassId) (sa : Nat → Nat) (sz : Nat) (a q : Nat → Nat) (uw : Int32) (g : Nat → Option Nat) (J : Prop) (dc k : Int32) (i : Nat) (t : Nat) (hi : i < 2) (hg : g i = some (q 0)) (hJ : ¬ J) (ht9 : t < 12) : vx_Met l yX3_way wsX3_way ({ frames := 7, cells := 1, slots := 6, locals := 110 } : Room) (va_Pc [.ref (a 0), .int (nI i), .int (nI t)] (gX D (gT cy) sa [(a 0, eTop (a 1) (a 3) (a 5) (a 6) uw), (a 5, eQ cy 2 g), (q 0, eCli (gb (J)) (q 1) (q 3) (q 5) (q 7) dc (q 8) (q 9) k)] sz)) gNo (gXC xIS sz) 1 6 (fun q => sz ≤ q) := by
  refine gM_x (cc := cX3_way) (maxL := 3) (ret := (some .int)) (by decide) rfl (Nat.le_of_ble_eq_true rfl) ?_
  intro pp ee ss mm bw mt cd QQ ls hfx hP hG hE ht hQ hx1 hl
  obtain ⟨hx, hb, hml, hown, hts, hlocks⟩ := hfx
  have hown : ss.vm.findClass RX3 = some mm.cls := hown
  have hl : lv_has ls 3 [(0, .ref (a 0)), (1, .int (nI i)), (2, .int (nI t))] := hl
  refine lv_iload_n hx hb dX3_way_0 rfl (lv_at hl 1 rfl) ?_
  refine lv_iconst (v := nI 2) hx hb dX3_way_1 (by decide) ?_
  refine gc_Si (va_runS (As := [.int (nI i), .int (nI 2)]) (rest := []) ⟨hx, hb, hml, hown, hts⟩ (c_X3_isIndex l D cy (nI i) (nI 2)) (va_cwS 2 hts gX3_way_X3_isIndex rfl rfl rfl (by decide +kernel) ⟨Nat.le_of_ble_eq_true rfl, Nat.le_of_ble_eq_true rfl⟩) (gpSR hG (hP.sub [] rfl)) rfl rfl hl.1 rfl (lv_room (Nat.le_of_ble_eq_true rfl)) dX3_way_2 ⟨Nat.zero_le _, Nat.zero_le _⟩) ?_
  refine g_ti (y := gb (pIn (nI i) 0 1)) (congrArg (fun z => gb (pIn (nI i) 0 z)) (by decide)) ?_
  refine gc_Sv (va_runS (As := [.int (gb (pIn (nI i) 0 1))]) (rest := []) ⟨hx, hb, hml, hown, hts⟩ (c_X3_requireArgument l D cy (gb (pIn (nI i) 0 1)) (gb_ne0.mpr (ok_idx (n := 1) (by omega) (by decide)))) (va_cwS 1 hts gX3_way_X3_requireArgument rfl rfl rfl (by decide +kernel) ⟨Nat.le_of_ble_eq_true rfl, Nat.le_of_ble_eq_true rfl⟩) (gpSR hG (hP.sub [] rfl)) rfl rfl hl.1 rfl (lv_room (Nat.le_of_ble_eq_true rfl)) dX3_way_5 ⟨Nat.zero_le _, Nat.zero_le _⟩) ?_
  refine lv_iload_n hx hb dX3_way_8 rfl (lv_at hl 2 rfl) ?_
  refine lv_bipush (v := nI 12) hx hb dX3_way_9 (by decide) ?_
  refine gc_Si (va_runS (As := [.int (nI t), .int (nI 12)]) (rest := []) ⟨hx, hb, hml, hown, hts⟩ (c_X3_isIndex l D cy (nI t) (nI 12)) (va_cwS 2 hts gX3_way_X3_isIndex rfl rfl rfl (by decide +kernel) ⟨Nat.le_of_ble_eq_true rfl, Nat.le_of_ble_eq_true rfl⟩) (gpSR hG (hP.sub [] rfl)) rfl rfl hl.1 rfl (lv_room (Nat.le_of_ble_eq_true rfl)) dX3_way_11 ⟨Nat.zero_le _, Nat.zero_le _⟩) ?_
  refine g_ti (y := gb (pIn (nI t) 0 11)) (congrArg (fun z => gb (pIn (nI t) 0 z)) (by decide)) ?_
  refine gc_Sv (va_runS (As := [.int (gb (pIn (nI t) 0 11))]) (rest := []) ⟨hx, hb, hml, hown, hts⟩ (c_X3_requireArgument l D cy (gb (pIn (nI t) 0 11)) (gb_ne0.mpr (ok_idx (n := 11) (by omega) (by decide)))) (va_cwS 1 hts gX3_way_X3_requireArgument rfl rfl rfl (by decide +kernel) ⟨Nat.le_of_ble_eq_true rfl, Nat.le_of_ble_eq_true rfl⟩) (gpSR hG (hP.sub [] rfl)) rfl rfl hl.1 rfl (lv_room (Nat.le_of_ble_eq_true rfl)) dX3_way_14 ⟨Nat.zero_le _, Nat.zero_le _⟩) ?_
  refine lv_aload_n hx hb dX3_way_17 rfl (lv_at hl 0 rfl) ?_
  refine va_get (D := D) (ci := 3) (v := .ref (a 5)) (C := RX3) (T := TX3) (N := 5) hx hb hts iX3_way_X3 hown hG.1 hP 0 rfl rfl 2 (by decide) (hts (.fieldLink RX3 21 "DirtyTiles" "clients" "[LDirtyTiles$Client;") (by decide +kernel)) (fun _ h9 => h9) rfl dX3_way_18 ?_
  refine lv_iload_n hx hb dX3_way_21 rfl (lv_at hl 1 rfl) ?_
  refine g_aldq hx hb hG hP 1 3 rfl rfl (k := i) (x := q 0) (by omega) (by decide) hg dX3_way_22 ?_
  refine gc_Si (va_runV (As := []) (rest := []) ⟨hx, hb, hml, hown, hts⟩ (c_X1_hasJoined l D cy q J dc k) (cwV 0 hts gX3_way_X1_hasJoined rfl rfl rfl (by decide +kernel) ⟨Nat.le_of_ble_eq_true rfl, Nat.le_of_ble_eq_true rfl⟩) (gpVR (ci := 1) (q0 := 0) hG (hP.sub [2] rfl) rfl rfl) rfl rfl hl.1 rfl (lv_room (Nat.le_of_ble_eq_true rfl)) dX3_way_23 ⟨Nat.zero_le _, Nat.zero_le _⟩) ?_
  exact hx1 _ _ _ _ _ (fun _ _ _ h => h) (vx_runS (As := [.int (gb (J))]) (rest := []) ⟨hx, hb, hml, hown, hts⟩ (cx_X3_requireState l hst D cy sa ss.heap.size (gb (J)) (gb_eq0.mpr (hJ))) (va_cwS 1 hts gX3_way_X3_requireState rfl rfl rfl (by decide +kernel) ⟨Nat.le_of_ble_eq_true rfl, Nat.le_of_ble_eq_true rfl⟩) (gpSX hG hE (hP.sub [] rfl)) rfl rfl hl.1 rfl (lv_room (Nat.le_of_ble_eq_true rfl)) dX3_way_26 ⟨Nat.le_of_ble_eq_true rfl, Nat.le_of_ble_eq_true rfl⟩)
set_option maxHeartbeats 4000000 in
set_option maxRecDepth 100000 in
theorem cx_X3_ask (l : Launch) (hst : l.stackTraces = false) (D : va_G) (cy : Nat → ClassId) (sa : Nat → Nat) (sz : Nat) (a0 : Nat) (i b : Int32) (hn : ¬ (pIn i 0 1 ∧ pIn b 0 300)) : vx_Met l yX3_ask wsX3_ask ({ frames := 7, cells := 1, slots := 6, locals := 110 } : Room) (va_Pc [.ref a0, .int i, .int b] (gX D (gT cy) sa [] sz)) gNo (gXC xIA sz) 1 6 (fun q => sz ≤ q) := by
  refine gM_x (cc := cX3_ask) (maxL := 3) (ret := (some .int)) (by decide) rfl (Nat.le_of_ble_eq_true rfl) ?_
  intro pp ee ss mm bw mt cd QQ ls hfx hP hG hE ht hQ hx1 hl
  obtain ⟨hx, hb, hml, hown, hts, hlocks⟩ := hfx
  have hown : ss.vm.findClass RX3 = some mm.cls := hown
  have hl : lv_has ls 3 [(0, .ref a0), (1, .int i), (2, .int b)] := hl
  refine lv_iload_n hx hb dX3_ask_0 rfl (lv_at hl 1 rfl) ?_
  refine lv_iconst (v := nI 2) hx hb dX3_ask_1 (by decide) ?_
  refine gc_Si (va_runS (As := [.int i, .int (nI 2)]) (rest := []) ⟨hx, hb, hml, hown, hts⟩ (c_X3_isIndex l D cy i (nI 2)) (va_cwS 2 hts gX3_ask_X3_isIndex rfl rfl rfl (by decide +kernel) ⟨Nat.le_of_ble_eq_true rfl, Nat.le_of_ble_eq_true rfl⟩) (gpSR hG (hP.sub [] rfl)) rfl rfl hl.1 rfl (lv_room (Nat.le_of_ble_eq_true rfl)) dX3_ask_2 ⟨Nat.zero_le _, Nat.zero_le _⟩) ?_
  refine g_ti (y := gb (pIn i 0 1)) (congrArg (fun z => gb (pIn i 0 z)) (by decide)) ?_
  by_cases hs_5 : pIn i 0 1
  · skip
    refine gc_Sv (va_runS (As := [.int (gb (pIn i 0 1))]) (rest := []) ⟨hx, hb, hml, hown, hts⟩ (c_X3_requireArgument l D cy (gb (pIn i 0 1)) (gb_ne0.mpr hs_5)) (va_cwS 1 hts gX3_ask_X3_requireArgument rfl rfl rfl (by decide +kernel) ⟨Nat.le_of_ble_eq_true rfl, Nat.le_of_ble_eq_true rfl⟩) (gpSR hG (hP.sub [] rfl)) rfl rfl hl.1 rfl (lv_room (Nat.le_of_ble_eq_true rfl)) dX3_ask_5 ⟨Nat.zero_le _, Nat.zero_le _⟩) ?_
    refine lv_iload_n hx hb dX3_ask_8 rfl (lv_at hl 2 rfl) ?_
    refine lv_iconst (v := nI 0) hx hb dX3_ask_9 (by decide) ?_
    refine lv_sipush (v := nI 300) hx hb dX3_ask_10 (by decide) ?_
    refine gc_Si (va_runS (As := [.int b, .int (nI 0), .int (nI 300)]) (rest := []) ⟨hx, hb, hml, hown, hts⟩ (c_X3_isBetween l D cy b (nI 0) (nI 300)) (va_cwS 3 hts gX3_ask_X3_isBetween rfl rfl rfl (by decide +kernel) ⟨Nat.le_of_ble_eq_true rfl, Nat.le_of_ble_eq_true rfl⟩) (gpSR hG (hP.sub [] rfl)) rfl rfl hl.1 rfl (lv_room (Nat.le_of_ble_eq_true rfl)) dX3_ask_13 ⟨Nat.zero_le _, Nat.zero_le _⟩) ?_
    refine g_ti (y := gb (pIn b 0 300)) ((congrArg (fun z => gb (pIn b z (nI 300 : Int32).toInt)) (by decide : (nI 0 : Int32).toInt = 0)).trans (congrArg (fun z => gb (pIn b 0 z)) (by decide : (nI 300 : Int32).toInt = 300))) ?_
    exact hx1 _ _ _ _ _ (fun _ _ _ h => h) (vx_runS (As := [.int (gb (pIn b 0 300))]) (rest := []) ⟨hx, hb, hml, hown, hts⟩ (cx_X3_requireArgument l hst D cy sa ss.heap.size (gb (pIn b 0 300)) (gb_eq0.mpr (fun h => hn ⟨hs_5, h⟩))) (va_cwS 1 hts gX3_ask_X3_requireArgument rfl rfl rfl (by decide +kernel) ⟨Nat.le_of_ble_eq_true rfl, Nat.le_of_ble_eq_true rfl⟩) (gpSX hG hE (hP.sub [] rfl)) rfl rfl hl.1 rfl (lv_room (Nat.le_of_ble_eq_true rfl)) dX3_ask_16 ⟨Nat.le_of_ble_eq_true rfl, Nat.le_of_ble_eq_true rfl⟩)
  · skip
    exact hx1 _ _ _ _ _ (fun _ _ _ h => h) (vx_runS (As := [.int (gb (pIn i 0 1))]) (rest := []) ⟨hx, hb, hml, hown, hts⟩ (cx_X3_requireArgument l hst D cy sa ss.heap.size (gb (pIn i 0 1)) (gb_eq0.mpr hs_5)) (va_cwS 1 hts gX3_ask_X3_requireArgument rfl rfl rfl (by decide +kernel) ⟨Nat.le_of_ble_eq_true rfl, Nat.le_of_ble_eq_true rfl⟩) (gpSX hG hE (hP.sub [] rfl)) rfl rfl hl.1 rfl (lv_room (Nat.le_of_ble_eq_true rfl)) dX3_ask_5 ⟨Nat.le_of_ble_eq_true rfl, Nat.le_of_ble_eq_true rfl⟩)
theorem iX3_ask_X3 : ∀ w ∈ wsX30, w ∈ wsX3_ask := by decide +kernel
set_option maxHeartbeats 4000000 in
set_option maxRecDepth 100000 in
theorem cx_X3_ask_s (l : Launch) (hst : l.stackTraces = false) (D : va_G) (cy : Nat → ClassId) (sa : Nat → Nat) (sz : Nat) (a q : Nat → Nat) (uw : Int32) (g : Nat → Option Nat) (J : Prop) (dc k : Int32) (i : Nat) (b : Nat) (hi : i < 2) (hg : g i = some (q 0)) (hJ : ¬ J) (hb9 : b ≤ 300) : vx_Met l yX3_ask wsX3_ask ({ frames := 7, cells := 1, slots := 6, locals := 110 } : Room) (va_Pc [.ref (a 0), .int (nI i), .int (nI b)] (gX D (gT cy) sa [(a 0, eTop (a 1) (a 3) (a 5) (a 6) uw), (a 5, eQ cy 2 g), (q 0, eCli (gb (J)) (q 1) (q 3) (q 5) (q 7) dc (q 8) (q 9) k)] sz)) gNo (gXC xIS sz) 1 6 (fun q => sz ≤ q) := by
  refine gM_x (cc := cX3_ask) (maxL := 3) (ret := (some .int)) (by decide) rfl (Nat.le_of_ble_eq_true rfl) ?_
  intro pp ee ss mm bw mt cd QQ ls hfx hP hG hE ht hQ hx1 hl
  obtain ⟨hx, hb, hml, hown, hts, hlocks⟩ := hfx
  have hown : ss.vm.findClass RX3 = some mm.cls := hown
  have hl : lv_has ls 3 [(0, .ref (a 0)), (1, .int (nI i)), (2, .int (nI b))] := hl
  refine lv_iload_n hx hb dX3_ask_0 rfl (lv_at hl 1 rfl) ?_
  refine lv_iconst (v := nI 2) hx hb dX3_ask_1 (by decide) ?_
  refine gc_Si (va_runS (As := [.int (nI i), .int (nI 2)]) (rest := []) ⟨hx, hb, hml, hown, hts⟩ (c_X3_isIndex l D cy (nI i) (nI 2)) (va_cwS 2 hts gX3_ask_X3_isIndex rfl rfl rfl (by decide +kernel) ⟨Nat.le_of_ble_eq_true rfl, Nat.le_of_ble_eq_true rfl⟩) (gpSR hG (hP.sub [] rfl)) rfl rfl hl.1 rfl (lv_room (Nat.le_of_ble_eq_true rfl)) dX3_ask_2 ⟨Nat.zero_le _, Nat.zero_le _⟩) ?_
  refine g_ti (y := gb (pIn (nI i) 0 1)) (congrArg (fun z => gb (pIn (nI i) 0 z)) (by decide)) ?_
  refine gc_Sv (va_runS (As := [.int (gb (pIn (nI i) 0 1))]) (rest := []) ⟨hx, hb, hml, hown, hts⟩ (c_X3_requireArgument l D cy (gb (pIn (nI i) 0 1)) (gb_ne0.mpr (ok_idx (n := 1) (by omega) (by decide)))) (va_cwS 1 hts gX3_ask_X3_requireArgument rfl rfl rfl (by decide +kernel) ⟨Nat.le_of_ble_eq_true rfl, Nat.le_of_ble_eq_true rfl⟩) (gpSR hG (hP.sub [] rfl)) rfl rfl hl.1 rfl (lv_room (Nat.le_of_ble_eq_true rfl)) dX3_ask_5 ⟨Nat.zero_le _, Nat.zero_le _⟩) ?_
  refine lv_iload_n hx hb dX3_ask_8 rfl (lv_at hl 2 rfl) ?_
  refine lv_iconst (v := nI 0) hx hb dX3_ask_9 (by decide) ?_
  refine lv_sipush (v := nI 300) hx hb dX3_ask_10 (by decide) ?_
  refine gc_Si (va_runS (As := [.int (nI b), .int (nI 0), .int (nI 300)]) (rest := []) ⟨hx, hb, hml, hown, hts⟩ (c_X3_isBetween l D cy (nI b) (nI 0) (nI 300)) (va_cwS 3 hts gX3_ask_X3_isBetween rfl rfl rfl (by decide +kernel) ⟨Nat.le_of_ble_eq_true rfl, Nat.le_of_ble_eq_true rfl⟩) (gpSR hG (hP.sub [] rfl)) rfl rfl hl.1 rfl (lv_room (Nat.le_of_ble_eq_true rfl)) dX3_ask_13 ⟨Nat.zero_le _, Nat.zero_le _⟩) ?_
  refine g_ti (y := gb (pIn (nI b) 0 300)) ((congrArg (fun z => gb (pIn (nI b) z (nI 300 : Int32).toInt)) (by decide : (nI 0 : Int32).toInt = 0)).trans (congrArg (fun z => gb (pIn (nI b) 0 z)) (by decide : (nI 300 : Int32).toInt = 300))) ?_
  refine gc_Sv (va_runS (As := [.int (gb (pIn (nI b) 0 300))]) (rest := []) ⟨hx, hb, hml, hown, hts⟩ (c_X3_requireArgument l D cy (gb (pIn (nI b) 0 300)) (gb_ne0.mpr (ok_idx (n := 300) (by omega) (by decide)))) (va_cwS 1 hts gX3_ask_X3_requireArgument rfl rfl rfl (by decide +kernel) ⟨Nat.le_of_ble_eq_true rfl, Nat.le_of_ble_eq_true rfl⟩) (gpSR hG (hP.sub [] rfl)) rfl rfl hl.1 rfl (lv_room (Nat.le_of_ble_eq_true rfl)) dX3_ask_16 ⟨Nat.zero_le _, Nat.zero_le _⟩) ?_
  refine lv_aload_n hx hb dX3_ask_19 rfl (lv_at hl 0 rfl) ?_
  refine va_get (D := D) (ci := 3) (v := .ref (a 5)) (C := RX3) (T := TX3) (N := 5) hx hb hts iX3_ask_X3 hown hG.1 hP 0 rfl rfl 2 (by decide) (hts (.fieldLink RX3 21 "DirtyTiles" "clients" "[LDirtyTiles$Client;") (by decide +kernel)) (fun _ h9 => h9) rfl dX3_ask_20 ?_
  refine lv_iload_n hx hb dX3_ask_23 rfl (lv_at hl 1 rfl) ?_
  refine g_aldq hx hb hG hP 1 3 rfl rfl (k := i) (x := q 0) (by omega) (by decide) hg dX3_ask_24 ?_
  refine gc_Si (va_runV (As := []) (rest := []) ⟨hx, hb, hml, hown, hts⟩ (c_X1_hasJoined l D cy q J dc k) (cwV 0 hts gX3_ask_X1_hasJoined rfl rfl rfl (by decide +kernel) ⟨Nat.le_of_ble_eq_true rfl, Nat.le_of_ble_eq_true rfl⟩) (gpVR (ci := 1) (q0 := 0) hG (hP.sub [2] rfl) rfl rfl) rfl rfl hl.1 rfl (lv_room (Nat.le_of_ble_eq_true rfl)) dX3_ask_25 ⟨Nat.zero_le _, Nat.zero_le _⟩) ?_
  exact hx1 _ _ _ _ _ (fun _ _ _ h => h) (vx_runS (As := [.int (gb (J))]) (rest := []) ⟨hx, hb, hml, hown, hts⟩ (cx_X3_requireState l hst D cy sa ss.heap.size (gb (J)) (gb_eq0.mpr (hJ))) (va_cwS 1 hts gX3_ask_X3_requireState rfl rfl rfl (by decide +kernel) ⟨Nat.le_of_ble_eq_true rfl, Nat.le_of_ble_eq_true rfl⟩) (gpSX hG hE (hP.sub [] rfl)) rfl rfl hl.1 rfl (lv_room (Nat.le_of_ble_eq_true rfl)) dX3_ask_28 ⟨Nat.le_of_ble_eq_true rfl, Nat.le_of_ble_eq_true rfl⟩)
set_option maxHeartbeats 4000000 in
set_option maxRecDepth 100000 in
theorem cx_X3_ask_m (l : Launch) (hst : l.stackTraces = false) (D : va_G) (cy : Nat → ClassId) (sa : Nat → Nat) (sz : Nat) (a q : Nat → Nat) (uw : Int32) (g : Nat → Option Nat) (J : Prop) (dc : Int32) (n i b : Nat) (hi : i < 2) (hg : g i = some (q 0)) (hJ : J) (hb9 : b ≤ 300) (hn : 0 < n ∧ n ≤ 12) : vx_Met l yX3_ask wsX3_ask ({ frames := 7, cells := 1, slots := 6, locals := 110 } : Room) (va_Pc [.ref (a 0), .int (nI i), .int (nI b)] (gX D (gT cy) sa [(a 0, eTop (a 1) (a 3) (a 5) (a 6) uw), (a 5, eQ cy 2 g), (q 0, eCli (gb (J)) (q 1) (q 3) (q 5) (q 7) dc (q 8) (q 9) (nI n))] sz)) gNo (gXC xIS sz) 1 6 (fun q => sz ≤ q) := by
  refine gM_x (cc := cX3_ask) (maxL := 3) (ret := (some .int)) (by decide) rfl (Nat.le_of_ble_eq_true rfl) ?_
  intro pp ee ss mm bw mt cd QQ ls hfx hP hG hE ht hQ hx1 hl
  obtain ⟨hx, hb, hml, hown, hts, hlocks⟩ := hfx
  have hown : ss.vm.findClass RX3 = some mm.cls := hown
  have hl : lv_has ls 3 [(0, .ref (a 0)), (1, .int (nI i)), (2, .int (nI b))] := hl
  refine lv_iload_n hx hb dX3_ask_0 rfl (lv_at hl 1 rfl) ?_
  refine lv_iconst (v := nI 2) hx hb dX3_ask_1 (by decide) ?_
  refine gc_Si (va_runS (As := [.int (nI i), .int (nI 2)]) (rest := []) ⟨hx, hb, hml, hown, hts⟩ (c_X3_isIndex l D cy (nI i) (nI 2)) (va_cwS 2 hts gX3_ask_X3_isIndex rfl rfl rfl (by decide +kernel) ⟨Nat.le_of_ble_eq_true rfl, Nat.le_of_ble_eq_true rfl⟩) (gpSR hG (hP.sub [] rfl)) rfl rfl hl.1 rfl (lv_room (Nat.le_of_ble_eq_true rfl)) dX3_ask_2 ⟨Nat.zero_le _, Nat.zero_le _⟩) ?_
  refine g_ti (y := gb (pIn (nI i) 0 1)) (congrArg (fun z => gb (pIn (nI i) 0 z)) (by decide)) ?_
  refine gc_Sv (va_runS (As := [.int (gb (pIn (nI i) 0 1))]) (rest := []) ⟨hx, hb, hml, hown, hts⟩ (c_X3_requireArgument l D cy (gb (pIn (nI i) 0 1)) (gb_ne0.mpr (ok_idx (n := 1) (by omega) (by decide)))) (va_cwS 1 hts gX3_ask_X3_requireArgument rfl rfl rfl (by decide +kernel) ⟨Nat.le_of_ble_eq_true rfl, Nat.le_of_ble_eq_true rfl⟩) (gpSR hG (hP.sub [] rfl)) rfl rfl hl.1 rfl (lv_room (Nat.le_of_ble_eq_true rfl)) dX3_ask_5 ⟨Nat.zero_le _, Nat.zero_le _⟩) ?_
  refine lv_iload_n hx hb dX3_ask_8 rfl (lv_at hl 2 rfl) ?_
  refine lv_iconst (v := nI 0) hx hb dX3_ask_9 (by decide) ?_
  refine lv_sipush (v := nI 300) hx hb dX3_ask_10 (by decide) ?_
  refine gc_Si (va_runS (As := [.int (nI b), .int (nI 0), .int (nI 300)]) (rest := []) ⟨hx, hb, hml, hown, hts⟩ (c_X3_isBetween l D cy (nI b) (nI 0) (nI 300)) (va_cwS 3 hts gX3_ask_X3_isBetween rfl rfl rfl (by decide +kernel) ⟨Nat.le_of_ble_eq_true rfl, Nat.le_of_ble_eq_true rfl⟩) (gpSR hG (hP.sub [] rfl)) rfl rfl hl.1 rfl (lv_room (Nat.le_of_ble_eq_true rfl)) dX3_ask_13 ⟨Nat.zero_le _, Nat.zero_le _⟩) ?_
  refine g_ti (y := gb (pIn (nI b) 0 300)) ((congrArg (fun z => gb (pIn (nI b) z (nI 300 : Int32).toInt)) (by decide : (nI 0 : Int32).toInt = 0)).trans (congrArg (fun z => gb (pIn (nI b) 0 z)) (by decide : (nI 300 : Int32).toInt = 300))) ?_
  refine gc_Sv (va_runS (As := [.int (gb (pIn (nI b) 0 300))]) (rest := []) ⟨hx, hb, hml, hown, hts⟩ (c_X3_requireArgument l D cy (gb (pIn (nI b) 0 300)) (gb_ne0.mpr (ok_idx (n := 300) (by omega) (by decide)))) (va_cwS 1 hts gX3_ask_X3_requireArgument rfl rfl rfl (by decide +kernel) ⟨Nat.le_of_ble_eq_true rfl, Nat.le_of_ble_eq_true rfl⟩) (gpSR hG (hP.sub [] rfl)) rfl rfl hl.1 rfl (lv_room (Nat.le_of_ble_eq_true rfl)) dX3_ask_16 ⟨Nat.zero_le _, Nat.zero_le _⟩) ?_
  refine lv_aload_n hx hb dX3_ask_19 rfl (lv_at hl 0 rfl) ?_
  refine va_get (D := D) (ci := 3) (v := .ref (a 5)) (C := RX3) (T := TX3) (N := 5) hx hb hts iX3_ask_X3 hown hG.1 hP 0 rfl rfl 2 (by decide) (hts (.fieldLink RX3 21 "DirtyTiles" "clients" "[LDirtyTiles$Client;") (by decide +kernel)) (fun _ h9 => h9) rfl dX3_ask_20 ?_
  refine lv_iload_n hx hb dX3_ask_23 rfl (lv_at hl 1 rfl) ?_
  refine g_aldq hx hb hG hP 1 3 rfl rfl (k := i) (x := q 0) (by omega) (by decide) hg dX3_ask_24 ?_
  refine gc_Si (va_runV (As := []) (rest := []) ⟨hx, hb, hml, hown, hts⟩ (c_X1_hasJoined l D cy q J dc (nI n)) (cwV 0 hts gX3_ask_X1_hasJoined rfl rfl rfl (by decide +kernel) ⟨Nat.le_of_ble_eq_true rfl, Nat.le_of_ble_eq_true rfl⟩) (gpVR (ci := 1) (q0 := 0) hG (hP.sub [2] rfl) rfl rfl) rfl rfl hl.1 rfl (lv_room (Nat.le_of_ble_eq_true rfl)) dX3_ask_25 ⟨Nat.zero_le _, Nat.zero_le _⟩) ?_
  refine gc_Sv (va_runS (As := [.int (gb (J))]) (rest := []) ⟨hx, hb, hml, hown, hts⟩ (c_X3_requireState l D cy (gb (J)) (gb_ne0.mpr (hJ))) (va_cwS 1 hts gX3_ask_X3_requireState rfl rfl rfl (by decide +kernel) ⟨Nat.le_of_ble_eq_true rfl, Nat.le_of_ble_eq_true rfl⟩) (gpSR hG (hP.sub [] rfl)) rfl rfl hl.1 rfl (lv_room (Nat.le_of_ble_eq_true rfl)) dX3_ask_28 ⟨Nat.zero_le _, Nat.zero_le _⟩) ?_
  refine lv_aload_n hx hb dX3_ask_31 rfl (lv_at hl 0 rfl) ?_
  refine va_get (D := D) (ci := 3) (v := .ref (a 5)) (C := RX3) (T := TX3) (N := 5) hx hb hts iX3_ask_X3 hown hG.1 hP 0 rfl rfl 2 (by decide) (hts (.fieldLink RX3 21 "DirtyTiles" "clients" "[LDirtyTiles$Client;") (by decide +kernel)) (fun _ h9 => h9) rfl dX3_ask_32 ?_
  refine lv_iload_n hx hb dX3_ask_35 rfl (lv_at hl 1 rfl) ?_
  refine g_aldq hx hb hG hP 1 3 rfl rfl (k := i) (x := q 0) (by omega) (by decide) hg dX3_ask_36 ?_
  refine gc_Si (va_runV (As := []) (rest := []) ⟨hx, hb, hml, hown, hts⟩ (c_X1_hasMessage l D cy q J dc n (by omega)) (cwV 0 hts gX3_ask_X1_hasMessage rfl rfl rfl (by decide +kernel) ⟨Nat.le_of_ble_eq_true rfl, Nat.le_of_ble_eq_true rfl⟩) (gpVR (ci := 1) (q0 := 0) hG (hP.sub [2] rfl) rfl rfl) rfl rfl hl.1 rfl (lv_room (Nat.le_of_ble_eq_true rfl)) dX3_ask_37 ⟨Nat.zero_le _, Nat.zero_le _⟩) ?_
  refine lv_if_ne (tgt := 47) hx hb dX3_ask_40 (by decide) (fun c_40 => ?_) (fun c_40 => ?_)
  · skip
    have c_40 : 0 < n := gb_ne0.mp c_40
    refine lv_iconst (v := nI 0) hx hb dX3_ask_47 (by decide) ?_
    exact hx1 _ _ _ _ _ (fun _ _ _ h => h) (vx_runS (As := [.int (nI 0)]) (rest := []) ⟨hx, hb, hml, hown, hts⟩ (cx_X3_requireState l hst D cy sa ss.heap.size (nI 0) rfl) (va_cwS 1 hts gX3_ask_X3_requireState rfl rfl rfl (by decide +kernel) ⟨Nat.le_of_ble_eq_true rfl, Nat.le_of_ble_eq_true rfl⟩) (gpSX hG hE (hP.sub [] rfl)) rfl rfl hl.1 rfl (lv_room (Nat.le_of_ble_eq_true rfl)) dX3_ask_48 ⟨Nat.le_of_ble_eq_true rfl, Nat.le_of_ble_eq_true rfl⟩)
  · skip
    have c_40 : ¬ (0 < n) := gb_eq0.mp c_40
    exact absurd hn.1 c_40
set_option maxHeartbeats 4000000 in
set_option maxRecDepth 100000 in
theorem cx_X3_fill (l : Launch) (hst : l.stackTraces = false) (D : va_G) (cy : Nat → ClassId) (sa : Nat → Nat) (sz : Nat) (a0 : Nat) (c r w h v : Int32) (hn : ¬ (pBox c r w h ∧ pIn v 0 15)) : vx_Met l yX3_fill wsX3_fill ({ frames := 7, cells := 1, slots := 6, locals := 110 } : Room) (va_Pc [.ref a0, .int c, .int r, .int w, .int h, .int v] (gX D (gT cy) sa [] sz)) gNo (gXC xIA sz) 1 6 (fun q => sz ≤ q) := by
  refine gM_x (cc := cX3_fill) (maxL := 8) (ret := (some .int)) (by decide) rfl (Nat.le_of_ble_eq_true rfl) ?_
  intro pp ee ss mm bw mt cd QQ ls hfx hP hG hE ht hQ hx1 hl
  obtain ⟨hx, hb, hml, hown, hts, hlocks⟩ := hfx
  have hown : ss.vm.findClass RX3 = some mm.cls := hown
  have hl : lv_has ls 8 [(0, .ref a0), (1, .int c), (2, .int r), (3, .int w), (4, .int h), (5, .int v)] := hl
  refine lv_iload_n hx hb dX3_fill_0 rfl (lv_at hl 1 rfl) ?_
  refine lv_iload_n hx hb dX3_fill_1 rfl (lv_at hl 2 rfl) ?_
  refine lv_iload_n hx hb dX3_fill_2 rfl (lv_at hl 3 rfl) ?_
  refine lv_iload hx hb dX3_fill_3 (lv_at hl 4 rfl) ?_
  refine gc_Si (va_runS (As := [.int c, .int r, .int w, .int h]) (rest := []) ⟨hx, hb, hml, hown, hts⟩ (c_X3_isBox l D cy c r w h) (va_cwS 4 hts gX3_fill_X3_isBox rfl rfl rfl (by decide +kernel) ⟨Nat.le_of_ble_eq_true rfl, Nat.le_of_ble_eq_true rfl⟩) (gpSR hG (hP.sub [] rfl)) rfl rfl hl.1 rfl (lv_room (Nat.le_of_ble_eq_true rfl)) dX3_fill_5 ⟨Nat.zero_le _, Nat.zero_le _⟩) ?_
  by_cases hs_8 : pBox c r w h
  · skip
    refine gc_Sv (va_runS (As := [.int (gb (pBox c r w h))]) (rest := []) ⟨hx, hb, hml, hown, hts⟩ (c_X3_requireArgument l D cy (gb (pBox c r w h)) (gb_ne0.mpr hs_8)) (va_cwS 1 hts gX3_fill_X3_requireArgument rfl rfl rfl (by decide +kernel) ⟨Nat.le_of_ble_eq_true rfl, Nat.le_of_ble_eq_true rfl⟩) (gpSR hG (hP.sub [] rfl)) rfl rfl hl.1 rfl (lv_room (Nat.le_of_ble_eq_true rfl)) dX3_fill_8 ⟨Nat.zero_le _, Nat.zero_le _⟩) ?_
    refine lv_iload hx hb dX3_fill_11 (lv_at hl 5 rfl) ?_
    refine lv_bipush (v := nI 16) hx hb dX3_fill_13 (by decide) ?_
    refine gc_Si (va_runS (As := [.int v, .int (nI 16)]) (rest := []) ⟨hx, hb, hml, hown, hts⟩ (c_X3_isIndex l D cy v (nI 16)) (va_cwS 2 hts gX3_fill_X3_isIndex rfl rfl rfl (by decide +kernel) ⟨Nat.le_of_ble_eq_true rfl, Nat.le_of_ble_eq_true rfl⟩) (gpSR hG (hP.sub [] rfl)) rfl rfl hl.1 rfl (lv_room (Nat.le_of_ble_eq_true rfl)) dX3_fill_15 ⟨Nat.zero_le _, Nat.zero_le _⟩) ?_
    refine g_ti (y := gb (pIn v 0 15)) (congrArg (fun z => gb (pIn v 0 z)) (by decide)) ?_
    exact hx1 _ _ _ _ _ (fun _ _ _ h => h) (vx_runS (As := [.int (gb (pIn v 0 15))]) (rest := []) ⟨hx, hb, hml, hown, hts⟩ (cx_X3_requireArgument l hst D cy sa ss.heap.size (gb (pIn v 0 15)) (gb_eq0.mpr (fun h9 => hn ⟨hs_8, h9⟩))) (va_cwS 1 hts gX3_fill_X3_requireArgument rfl rfl rfl (by decide +kernel) ⟨Nat.le_of_ble_eq_true rfl, Nat.le_of_ble_eq_true rfl⟩) (gpSX hG hE (hP.sub [] rfl)) rfl rfl hl.1 rfl (lv_room (Nat.le_of_ble_eq_true rfl)) dX3_fill_18 ⟨Nat.le_of_ble_eq_true rfl, Nat.le_of_ble_eq_true rfl⟩)
  · skip
    exact hx1 _ _ _ _ _ (fun _ _ _ h => h) (vx_runS (As := [.int (gb (pBox c r w h))]) (rest := []) ⟨hx, hb, hml, hown, hts⟩ (cx_X3_requireArgument l hst D cy sa ss.heap.size (gb (pBox c r w h)) (gb_eq0.mpr hs_8)) (va_cwS 1 hts gX3_fill_X3_requireArgument rfl rfl rfl (by decide +kernel) ⟨Nat.le_of_ble_eq_true rfl, Nat.le_of_ble_eq_true rfl⟩) (gpSX hG hE (hP.sub [] rfl)) rfl rfl hl.1 rfl (lv_room (Nat.le_of_ble_eq_true rfl)) dX3_fill_8 ⟨Nat.le_of_ble_eq_true rfl, Nat.le_of_ble_eq_true rfl⟩)
set_option maxHeartbeats 4000000 in
set_option maxRecDepth 100000 in
theorem cx_X3_copy (l : Launch) (hst : l.stackTraces = false) (D : va_G) (cy : Nat → ClassId) (sa : Nat → Nat) (sz : Nat) (a0 : Nat) (c r w h x y : Int32) (hn : ¬ (pBox c r w h ∧ pIn x (-15) 15 ∧ pIn y (-11) 11)) : vx_Met l yX3_copy wsX3_copy ({ frames := 7, cells := 1, slots := 6, locals := 110 } : Room) (va_Pc [.ref a0, .int c, .int r, .int w, .int h, .int x, .int y] (gX D (gT cy) sa [] sz)) gNo (gXC xIA sz) 1 6 (fun q => sz ≤ q) := by
  refine gM_x (cc := cX3_copy) (maxL := 9) (ret := (some .int)) (by decide) rfl (Nat.le_of_ble_eq_true rfl) ?_
  intro pp ee ss mm bw mt cd QQ ls hfx hP hG hE ht hQ hx1 hl
  obtain ⟨hx, hb, hml, hown, hts, hlocks⟩ := hfx
  have hown : ss.vm.findClass RX3 = some mm.cls := hown
  have hl : lv_has ls 9 [(0, .ref a0), (1, .int c), (2, .int r), (3, .int w), (4, .int h), (5, .int x), (6, .int y)] := hl
  refine lv_iload_n hx hb dX3_copy_0 rfl (lv_at hl 1 rfl) ?_
  refine lv_iload_n hx hb dX3_copy_1 rfl (lv_at hl 2 rfl) ?_
  refine lv_iload_n hx hb dX3_copy_2 rfl (lv_at hl 3 rfl) ?_
  refine lv_iload hx hb dX3_copy_3 (lv_at hl 4 rfl) ?_
  refine gc_Si (va_runS (As := [.int c, .int r, .int w, .int h]) (rest := []) ⟨hx, hb, hml, hown, hts⟩ (c_X3_isBox l D cy c r w h) (va_cwS 4 hts gX3_copy_X3_isBox rfl rfl rfl (by decide +kernel) ⟨Nat.le_of_ble_eq_true rfl, Nat.le_of_ble_eq_true rfl⟩) (gpSR hG (hP.sub [] rfl)) rfl rfl hl.1 rfl (lv_room (Nat.le_of_ble_eq_true rfl)) dX3_copy_5 ⟨Nat.zero_le _, Nat.zero_le _⟩) ?_
  by_cases hs_8 : pBox c r w h
  · skip
    refine gc_Sv (va_runS (As := [.int (gb (pBox c r w h))]) (rest := []) ⟨hx, hb, hml, hown, hts⟩ (c_X3_requireArgument l D cy (gb (pBox c r w h)) (gb_ne0.mpr hs_8)) (va_cwS 1 hts gX3_copy_X3_requireArgument rfl rfl rfl (by decide +kernel) ⟨Nat.le_of_ble_eq_true rfl, Nat.le_of_ble_eq_true rfl⟩) (gpSR hG (hP.sub [] rfl)) rfl rfl hl.1 rfl (lv_room (Nat.le_of_ble_eq_true rfl)) dX3_copy_8 ⟨Nat.zero_le _, Nat.zero_le _⟩) ?_
    refine lv_iload hx hb dX3_copy_11 (lv_at hl 5 rfl) ?_
    refine lv_bipush (v := (-15)) hx hb dX3_copy_13 (by decide) ?_
    refine lv_bipush (v := nI 15) hx hb dX3_copy_15 (by decide) ?_
    refine gc_Si (va_runS (As := [.int x, .int ((-15)), .int (nI 15)]) (rest := []) ⟨hx, hb, hml, hown, hts⟩ (c_X3_isBetween l D cy x ((-15)) (nI 15)) (va_cwS 3 hts gX3_copy_X3_isBetween rfl rfl rfl (by decide +kernel) ⟨Nat.le_of_ble_eq_true rfl, Nat.le_of_ble_eq_true rfl⟩) (gpSR hG (hP.sub [] rfl)) rfl rfl hl.1 rfl (lv_room (Nat.le_of_ble_eq_true rfl)) dX3_copy_17 ⟨Nat.zero_le _, Nat.zero_le _⟩) ?_
    refine g_ti (y := gb (pIn x (-15) 15)) ((congrArg (fun z => gb (pIn x z (nI 15 : Int32).toInt)) (by decide : ((-15) : Int32).toInt = (-15))).trans (congrArg (fun z => gb (pIn x (-15) z)) (by decide : (nI 15 : Int32).toInt = 15))) ?_
    by_cases hs_20 : pIn x (-15) 15
    · skip
      refine gc_Sv (va_runS (As := [.int (gb (pIn x (-15) 15))]) (rest := []) ⟨hx, hb, hml, hown, hts⟩ (c_X3_requireArgument l D cy (gb (pIn x (-15) 15)) (gb_ne0.mpr hs_20)) (va_cwS 1 hts gX3_copy_X3_requireArgument rfl rfl rfl (by decide +kernel) ⟨Nat.le_of_ble_eq_true rfl, Nat.le_of_ble_eq_true rfl⟩) (gpSR hG (hP.sub [] rfl)) rfl rfl hl.1 rfl (lv_room (Nat.le_of_ble_eq_true rfl)) dX3_copy_20 ⟨Nat.zero_le _, Nat.zero_le _⟩) ?_
      refine lv_iload hx hb dX3_copy_23 (lv_at hl 6 rfl) ?_
      refine lv_bipush (v := (-11)) hx hb dX3_copy_25 (by decide) ?_
      refine lv_bipush (v := nI 11) hx hb dX3_copy_27 (by decide) ?_
      refine gc_Si (va_runS (As := [.int y, .int ((-11)), .int (nI 11)]) (rest := []) ⟨hx, hb, hml, hown, hts⟩ (c_X3_isBetween l D cy y ((-11)) (nI 11)) (va_cwS 3 hts gX3_copy_X3_isBetween rfl rfl rfl (by decide +kernel) ⟨Nat.le_of_ble_eq_true rfl, Nat.le_of_ble_eq_true rfl⟩) (gpSR hG (hP.sub [] rfl)) rfl rfl hl.1 rfl (lv_room (Nat.le_of_ble_eq_true rfl)) dX3_copy_29 ⟨Nat.zero_le _, Nat.zero_le _⟩) ?_
      refine g_ti (y := gb (pIn y (-11) 11)) ((congrArg (fun z => gb (pIn y z (nI 11 : Int32).toInt)) (by decide : ((-11) : Int32).toInt = (-11))).trans (congrArg (fun z => gb (pIn y (-11) z)) (by decide : (nI 11 : Int32).toInt = 11))) ?_
      exact hx1 _ _ _ _ _ (fun _ _ _ h => h) (vx_runS (As := [.int (gb (pIn y (-11) 11))]) (rest := []) ⟨hx, hb, hml, hown, hts⟩ (cx_X3_requireArgument l hst D cy sa ss.heap.size (gb (pIn y (-11) 11)) (gb_eq0.mpr (fun h9 => hn ⟨hs_8, hs_20, h9⟩))) (va_cwS 1 hts gX3_copy_X3_requireArgument rfl rfl rfl (by decide +kernel) ⟨Nat.le_of_ble_eq_true rfl, Nat.le_of_ble_eq_true rfl⟩) (gpSX hG hE (hP.sub [] rfl)) rfl rfl hl.1 rfl (lv_room (Nat.le_of_ble_eq_true rfl)) dX3_copy_32 ⟨Nat.le_of_ble_eq_true rfl, Nat.le_of_ble_eq_true rfl⟩)
    · skip
      exact hx1 _ _ _ _ _ (fun _ _ _ h => h) (vx_runS (As := [.int (gb (pIn x (-15) 15))]) (rest := []) ⟨hx, hb, hml, hown, hts⟩ (cx_X3_requireArgument l hst D cy sa ss.heap.size (gb (pIn x (-15) 15)) (gb_eq0.mpr hs_20)) (va_cwS 1 hts gX3_copy_X3_requireArgument rfl rfl rfl (by decide +kernel) ⟨Nat.le_of_ble_eq_true rfl, Nat.le_of_ble_eq_true rfl⟩) (gpSX hG hE (hP.sub [] rfl)) rfl rfl hl.1 rfl (lv_room (Nat.le_of_ble_eq_true rfl)) dX3_copy_20 ⟨Nat.le_of_ble_eq_true rfl, Nat.le_of_ble_eq_true rfl⟩)
  · skip
    exact hx1 _ _ _ _ _ (fun _ _ _ h => h) (vx_runS (As := [.int (gb (pBox c r w h))]) (rest := []) ⟨hx, hb, hml, hown, hts⟩ (cx_X3_requireArgument l hst D cy sa ss.heap.size (gb (pBox c r w h)) (gb_eq0.mpr hs_8)) (va_cwS 1 hts gX3_copy_X3_requireArgument rfl rfl rfl (by decide +kernel) ⟨Nat.le_of_ble_eq_true rfl, Nat.le_of_ble_eq_true rfl⟩) (gpSX hG hE (hP.sub [] rfl)) rfl rfl hl.1 rfl (lv_room (Nat.le_of_ble_eq_true rfl)) dX3_copy_8 ⟨Nat.le_of_ble_eq_true rfl, Nat.le_of_ble_eq_true rfl⟩)
