/-! the class: tests of numbers, screens -/
theorem g_subI {n : Nat} {c : Int32} (hn : n < 2 ^ 30) (h0 : 0 ≤ c.toInt) : (nI n - c).toInt = (n : Int) - c.toInt := by
  have h1 := fb_rng c
  have h2 : (nI n).toInt = (n : Int) := nI_toInt (by omega)
  rw [fb_subI (by rw [h2]; omega) (by rw [h2]; omega), h2]
theorem g_min {a b : Nat} (ha : a < 2 ^ 31) (hb : b < 2 ^ 31) : (if nI b < nI a then nI b else nI a) = nI (min a b) := by
  by_cases h : b < a
  · rw [if_pos ((nI_ltI hb ha).mpr h), Nat.min_eq_right (by omega)]
  · rw [if_neg (fun z => h ((nI_ltI hb ha).mp z)), Nat.min_eq_left (by omega)]
theorem g_dec {j : Nat} (h : 0 < j) : nI j + Int32.ofInt (-1) = nI (j - 1) := by
  obtain ⟨k, rfl⟩ : ∃ k, j = k + 1 := ⟨j - 1, by omega⟩
  exact pk_m1 k
theorem g_shl1 : ∀ c, c < 16 → nI 1 <<< (nI c &&& 31) = nI (2 ^ c) := by decide +kernel
theorem g_covL {b g : Nat → Int64} {i : Nat} {x : Int64} (hb : ∀ k, k < i → b k = g k) (hx : x = g i) : ∀ k, k < i + 1 → vp_updL b i x k = g k := by
  intro k hk
  unfold vp_updL
  by_cases e : k = i
  · rw [if_pos e, hx, e]
  · rw [if_neg e]; exact hb k (by omega)
theorem g_covI {b g : Nat → Int32} {i : Nat} {x : Int32} (hb : ∀ k, k < i → b k = g k) (hx : x = g i) : ∀ k, k < i + 1 → upd b i x k = g k := by
  intro k hk
  by_cases e : k = i
  · rw [e, pk_us, hx]
  · rw [pk_un e]; exact hb k (by omega)
abbrev pCell (c r : Int32) : Prop := pIn c 0 15 ∧ pIn r 0 11
abbrev pBox (c r w h : Int32) : Prop := pCell c r ∧ pIn w 1 (16 - c.toInt) ∧ pIn h 1 (12 - r.toInt)
set_option maxHeartbeats 4000000 in
set_option maxRecDepth 100000 in
theorem c_X3_isIndex (l : Launch) (D : va_G) (cy : Nat → ClassId) (v n : Int32)  : Met l yX3_isIndex wsX3_isIndex ({ frames := 0, cells := 0, slots := 0, locals := 0 } : Room) (va_Pc [.int v, .int n] (gR D (gT cy) [])) (vp_Si (fun r9 => r9 = gb (pIn v 0 (n.toInt - 1)))) 0 0 (fun _ => False) := by
  refine gM_i (cc := cX3_isIndex) (maxL := 2) (ty := .boolean) (by decide) rfl (Nat.le_of_ble_eq_true rfl) (fun v hv => by rw [hv]; first | rfl | exact gb_nar _) ?_
  intro pp ee ss mm bw mt cd QQ ls hfx hP hG hret hl
  obtain ⟨hx, hb, hml, hown, hts, hlocks⟩ := hfx
  have hown : ss.vm.findClass RX3 = some mm.cls := hown
  have hl : lv_has ls 2 [(0, .int v), (1, .int n)] := hl
  have z0 : (0 : Int32).toInt = 0 := rfl
  refine lv_iload_n hx hb dX3_isIndex_0 rfl (lv_at hl 0 rfl) ?_
  refine lv_if_lt (tgt := 13) hx hb dX3_isIndex_1 (by decide) (fun c_1 => ?_) (fun c_1 => ?_)
  · skip
    refine lv_iconst (v := nI 0) hx hb dX3_isIndex_13 (by decide) ?_
    exact hret _ _ _ dX3_isIndex_14 (by (try simp only [fa_lt, fa_le] at c_1); (try simp only [fa_lt, fa_le] at c_6); first | exact (gb_t (by simp only [pIn]; omega)).symm | exact (gb_f (by simp only [pIn]; omega)).symm)
  · skip
    refine lv_iload_n hx hb dX3_isIndex_4 rfl (lv_at hl 0 rfl) ?_
    refine lv_iload_n hx hb dX3_isIndex_5 rfl (lv_at hl 1 rfl) ?_
    refine lv_icmp_ge (tgt := 13) hx hb dX3_isIndex_6 (by decide) (fun c_6 => ?_) (fun c_6 => ?_)
    · skip
      refine lv_iconst (v := nI 0) hx hb dX3_isIndex_13 (by decide) ?_
      exact hret _ _ _ dX3_isIndex_14 (by (try simp only [fa_lt, fa_le] at c_1); (try simp only [fa_lt, fa_le] at c_6); first | exact (gb_t (by simp only [pIn]; omega)).symm | exact (gb_f (by simp only [pIn]; omega)).symm)
    · skip
      refine lv_iconst (v := nI 1) hx hb dX3_isIndex_9 (by decide) ?_
      refine lv_goto (tgt := 14) hx hb dX3_isIndex_10 (by decide) ?_
      exact hret _ _ _ dX3_isIndex_14 (by (try simp only [fa_lt, fa_le] at c_1); (try simp only [fa_lt, fa_le] at c_6); first | exact (gb_t (by simp only [pIn]; omega)).symm | exact (gb_f (by simp only [pIn]; omega)).symm)
set_option maxHeartbeats 4000000 in
set_option maxRecDepth 100000 in
theorem c_X3_isBetween (l : Launch) (D : va_G) (cy : Nat → ClassId) (v a b : Int32)  : Met l yX3_isBetween wsX3_isBetween ({ frames := 0, cells := 0, slots := 0, locals := 0 } : Room) (va_Pc [.int v, .int a, .int b] (gR D (gT cy) [])) (vp_Si (fun r9 => r9 = gb (pIn v a.toInt b.toInt))) 0 0 (fun _ => False) := by
  refine gM_i (cc := cX3_isBetween) (maxL := 3) (ty := .boolean) (by decide) rfl (Nat.le_of_ble_eq_true rfl) (fun v hv => by rw [hv]; first | rfl | exact gb_nar _) ?_
  intro pp ee ss mm bw mt cd QQ ls hfx hP hG hret hl
  obtain ⟨hx, hb, hml, hown, hts, hlocks⟩ := hfx
  have hown : ss.vm.findClass RX3 = some mm.cls := hown
  have hl : lv_has ls 3 [(0, .int v), (1, .int a), (2, .int b)] := hl
  refine lv_iload_n hx hb dX3_isBetween_0 rfl (lv_at hl 0 rfl) ?_
  refine lv_iload_n hx hb dX3_isBetween_1 rfl (lv_at hl 1 rfl) ?_
  refine lv_icmp_lt (tgt := 14) hx hb dX3_isBetween_2 (by decide) (fun c_2 => ?_) (fun c_2 => ?_)
  · skip
    refine lv_iconst (v := nI 0) hx hb dX3_isBetween_14 (by decide) ?_
    exact hret _ _ _ dX3_isBetween_15 (by (try simp only [fa_lt, fa_le] at c_2); (try simp only [fa_lt, fa_le] at c_7); first | exact (gb_t (by simp only [pIn]; omega)).symm | exact (gb_f (by simp only [pIn]; omega)).symm)
  · skip
    refine lv_iload_n hx hb dX3_isBetween_5 rfl (lv_at hl 0 rfl) ?_
    refine lv_iload_n hx hb dX3_isBetween_6 rfl (lv_at hl 2 rfl) ?_
    refine lv_icmp_gt (tgt := 14) hx hb dX3_isBetween_7 (by decide) (fun c_7 => ?_) (fun c_7 => ?_)
    · skip
      refine lv_iconst (v := nI 0) hx hb dX3_isBetween_14 (by decide) ?_
      exact hret _ _ _ dX3_isBetween_15 (by (try simp only [fa_lt, fa_le] at c_2); (try simp only [fa_lt, fa_le] at c_7); first | exact (gb_t (by simp only [pIn]; omega)).symm | exact (gb_f (by simp only [pIn]; omega)).symm)
    · skip
      refine lv_iconst (v := nI 1) hx hb dX3_isBetween_10 (by decide) ?_
      refine lv_goto (tgt := 15) hx hb dX3_isBetween_11 (by decide) ?_
      exact hret _ _ _ dX3_isBetween_15 (by (try simp only [fa_lt, fa_le] at c_2); (try simp only [fa_lt, fa_le] at c_7); first | exact (gb_t (by simp only [pIn]; omega)).symm | exact (gb_f (by simp only [pIn]; omega)).symm)
set_option maxHeartbeats 4000000 in
set_option maxRecDepth 100000 in
theorem c_X3_isCell (l : Launch) (D : va_G) (cy : Nat → ClassId) (c r : Int32)  : Met l yX3_isCell wsX3_isCell ({ frames := 1, cells := 0, slots := 0, locals := 21 } : Room) (va_Pc [.int c, .int r] (gR D (gT cy) [])) (vp_Si (fun r9 => r9 = gb (pCell c r))) 0 0 (fun _ => False) := by
  refine gM_i (cc := cX3_isCell) (maxL := 2) (ty := .boolean) (by decide) rfl (Nat.le_of_ble_eq_true rfl) (fun v hv => by rw [hv]; first | rfl | exact gb_nar _) ?_
  intro pp ee ss mm bw mt cd QQ ls hfx hP hG hret hl
  obtain ⟨hx, hb, hml, hown, hts, hlocks⟩ := hfx
  have hown : ss.vm.findClass RX3 = some mm.cls := hown
  have hl : lv_has ls 2 [(0, .int c), (1, .int r)] := hl
  refine lv_iload_n hx hb dX3_isCell_0 rfl (lv_at hl 0 rfl) ?_
  refine lv_bipush (v := nI 16) hx hb dX3_isCell_1 (by decide) ?_
  refine gc_Si (va_runS (As := [.int c, .int (nI 16)]) (rest := []) ⟨hx, hb, hml, hown, hts⟩ (c_X3_isIndex l D cy c (nI 16)) (va_cwS 2 hts gX3_isCell_X3_isIndex rfl rfl rfl (by decide +kernel) ⟨Nat.le_of_ble_eq_true rfl, Nat.le_of_ble_eq_true rfl⟩) (gpSR hG (hP.sub [] rfl)) rfl rfl hl.1 rfl (lv_room (Nat.le_of_ble_eq_true rfl)) dX3_isCell_3 ⟨Nat.zero_le _, Nat.zero_le _⟩) ?_
  refine g_ti (y := gb (pIn c 0 15)) (congrArg (fun z => gb (pIn c 0 z)) (by decide)) ?_
  refine lv_if_eq (tgt := 22) hx hb dX3_isCell_6 (by decide) (fun c_6 => ?_) (fun c_6 => ?_)
  · skip
    have c_6 : ¬ (pIn c 0 15) := gb_eq0.mp c_6
    refine lv_iconst (v := nI 0) hx hb dX3_isCell_22 (by decide) ?_
    exact hret _ _ _ dX3_isCell_23 (by first | exact (gb_t ⟨c_6, c_15⟩).symm | exact (gb_f (fun h => c_6 h.1)).symm | exact (gb_f (fun h => c_15 h.2)).symm)
  · skip
    have c_6 : pIn c 0 15 := gb_ne0.mp c_6
    refine lv_iload_n hx hb dX3_isCell_9 rfl (lv_at hl 1 rfl) ?_
    refine lv_bipush (v := nI 12) hx hb dX3_isCell_10 (by decide) ?_
    refine gc_Si (va_runS (As := [.int r, .int (nI 12)]) (rest := []) ⟨hx, hb, hml, hown, hts⟩ (c_X3_isIndex l D cy r (nI 12)) (va_cwS 2 hts gX3_isCell_X3_isIndex rfl rfl rfl (by decide +kernel) ⟨Nat.le_of_ble_eq_true rfl, Nat.le_of_ble_eq_true rfl⟩) (gpSR hG (hP.sub [] rfl)) rfl rfl hl.1 rfl (lv_room (Nat.le_of_ble_eq_true rfl)) dX3_isCell_12 ⟨Nat.zero_le _, Nat.zero_le _⟩) ?_
    refine g_ti (y := gb (pIn r 0 11)) (congrArg (fun z => gb (pIn r 0 z)) (by decide)) ?_
    refine lv_if_eq (tgt := 22) hx hb dX3_isCell_15 (by decide) (fun c_15 => ?_) (fun c_15 => ?_)
    · skip
      have c_15 : ¬ (pIn r 0 11) := gb_eq0.mp c_15
      refine lv_iconst (v := nI 0) hx hb dX3_isCell_22 (by decide) ?_
      exact hret _ _ _ dX3_isCell_23 (by first | exact (gb_t ⟨c_6, c_15⟩).symm | exact (gb_f (fun h => c_6 h.1)).symm | exact (gb_f (fun h => c_15 h.2)).symm)
    · skip
      have c_15 : pIn r 0 11 := gb_ne0.mp c_15
      refine lv_iconst (v := nI 1) hx hb dX3_isCell_18 (by decide) ?_
      refine lv_goto (tgt := 23) hx hb dX3_isCell_19 (by decide) ?_
      exact hret _ _ _ dX3_isCell_23 (by first | exact (gb_t ⟨c_6, c_15⟩).symm | exact (gb_f (fun h => c_6 h.1)).symm | exact (gb_f (fun h => c_15 h.2)).symm)
set_option maxHeartbeats 4000000 in
set_option maxRecDepth 100000 in
theorem c_X3_isBox (l : Launch) (D : va_G) (cy : Nat → ClassId) (c r w h : Int32)  : Met l yX3_isBox wsX3_isBox ({ frames := 2, cells := 0, slots := 0, locals := 42 } : Room) (va_Pc [.int c, .int r, .int w, .int h] (gR D (gT cy) [])) (vp_Si (fun r9 => r9 = gb (pBox c r w h))) 0 0 (fun _ => False) := by
  refine gM_i (cc := cX3_isBox) (maxL := 4) (ty := .boolean) (by decide) rfl (Nat.le_of_ble_eq_true rfl) (fun v hv => by rw [hv]; first | rfl | exact gb_nar _) ?_
  intro pp ee ss mm bw mt cd QQ ls hfx hP hG hret hl
  obtain ⟨hx, hb, hml, hown, hts, hlocks⟩ := hfx
  have hown : ss.vm.findClass RX3 = some mm.cls := hown
  have hl : lv_has ls 4 [(0, .int c), (1, .int r), (2, .int w), (3, .int h)] := hl
  refine lv_iload_n hx hb dX3_isBox_0 rfl (lv_at hl 0 rfl) ?_
  refine lv_iload_n hx hb dX3_isBox_1 rfl (lv_at hl 1 rfl) ?_
  refine gc_Si (va_runS (As := [.int c, .int r]) (rest := []) ⟨hx, hb, hml, hown, hts⟩ (c_X3_isCell l D cy c r) (va_cwS 2 hts gX3_isBox_X3_isCell rfl rfl rfl (by decide +kernel) ⟨Nat.le_of_ble_eq_true rfl, Nat.le_of_ble_eq_true rfl⟩) (gpSR hG (hP.sub [] rfl)) rfl rfl hl.1 rfl (lv_room (Nat.le_of_ble_eq_true rfl)) dX3_isBox_2 ⟨Nat.zero_le _, Nat.zero_le _⟩) ?_
  refine lv_if_eq (tgt := 36) hx hb dX3_isBox_5 (by decide) (fun c_5 => ?_) (fun c_5 => ?_)
  · skip
    have c_5 : ¬ (pCell c r) := gb_eq0.mp c_5
    refine lv_iconst (v := nI 0) hx hb dX3_isBox_36 (by decide) ?_
    exact hret _ _ _ dX3_isBox_37 (by first | exact (gb_t ⟨c_5, c_17, c_29⟩).symm | exact (gb_f (fun h => c_5 h.1)).symm | exact (gb_f (fun h => c_17 h.2.1)).symm | exact (gb_f (fun h => c_29 h.2.2)).symm)
  · skip
    have c_5 : pCell c r := gb_ne0.mp c_5
    refine lv_iload_n hx hb dX3_isBox_8 rfl (lv_at hl 2 rfl) ?_
    refine lv_iconst (v := nI 1) hx hb dX3_isBox_9 (by decide) ?_
    refine lv_bipush (v := nI 16) hx hb dX3_isBox_10 (by decide) ?_
    refine lv_iload_n hx hb dX3_isBox_12 rfl (lv_at hl 0 rfl) ?_
    refine lv_isub hx hb dX3_isBox_13 ?_
    refine gc_Si (va_runS (As := [.int w, .int (nI 1), .int ((nI 16) - c)]) (rest := []) ⟨hx, hb, hml, hown, hts⟩ (c_X3_isBetween l D cy w (nI 1) (nI 16 - c)) (va_cwS 3 hts gX3_isBox_X3_isBetween rfl rfl rfl (by decide +kernel) ⟨Nat.le_of_ble_eq_true rfl, Nat.le_of_ble_eq_true rfl⟩) (gpSR hG (hP.sub [] rfl)) rfl rfl hl.1 rfl (lv_room (Nat.le_of_ble_eq_true rfl)) dX3_isBox_14 ⟨Nat.zero_le _, Nat.zero_le _⟩) ?_
    refine g_ti (y := gb (pIn w 1 (16 - c.toInt))) (by rw [g_subI (by decide) c_5.1.1]; rfl) ?_
    refine lv_if_eq (tgt := 36) hx hb dX3_isBox_17 (by decide) (fun c_17 => ?_) (fun c_17 => ?_)
    · skip
      have c_17 : ¬ (pIn w 1 (16 - c.toInt)) := gb_eq0.mp c_17
      refine lv_iconst (v := nI 0) hx hb dX3_isBox_36 (by decide) ?_
      exact hret _ _ _ dX3_isBox_37 (by first | exact (gb_t ⟨c_5, c_17, c_29⟩).symm | exact (gb_f (fun h => c_5 h.1)).symm | exact (gb_f (fun h => c_17 h.2.1)).symm | exact (gb_f (fun h => c_29 h.2.2)).symm)
    · skip
      have c_17 : pIn w 1 (16 - c.toInt) := gb_ne0.mp c_17
      refine lv_iload_n hx hb dX3_isBox_20 rfl (lv_at hl 3 rfl) ?_
      refine lv_iconst (v := nI 1) hx hb dX3_isBox_21 (by decide) ?_
      refine lv_bipush (v := nI 12) hx hb dX3_isBox_22 (by decide) ?_
      refine lv_iload_n hx hb dX3_isBox_24 rfl (lv_at hl 1 rfl) ?_
      refine lv_isub hx hb dX3_isBox_25 ?_
      refine gc_Si (va_runS (As := [.int h, .int (nI 1), .int ((nI 12) - r)]) (rest := []) ⟨hx, hb, hml, hown, hts⟩ (c_X3_isBetween l D cy h (nI 1) (nI 12 - r)) (va_cwS 3 hts gX3_isBox_X3_isBetween rfl rfl rfl (by decide +kernel) ⟨Nat.le_of_ble_eq_true rfl, Nat.le_of_ble_eq_true rfl⟩) (gpSR hG (hP.sub [] rfl)) rfl rfl hl.1 rfl (lv_room (Nat.le_of_ble_eq_true rfl)) dX3_isBox_26 ⟨Nat.zero_le _, Nat.zero_le _⟩) ?_
      refine g_ti (y := gb (pIn h 1 (12 - r.toInt))) (by rw [g_subI (by decide) c_5.2.1]; rfl) ?_
      refine lv_if_eq (tgt := 36) hx hb dX3_isBox_29 (by decide) (fun c_29 => ?_) (fun c_29 => ?_)
      · skip
        have c_29 : ¬ (pIn h 1 (12 - r.toInt)) := gb_eq0.mp c_29
        refine lv_iconst (v := nI 0) hx hb dX3_isBox_36 (by decide) ?_
        exact hret _ _ _ dX3_isBox_37 (by first | exact (gb_t ⟨c_5, c_17, c_29⟩).symm | exact (gb_f (fun h => c_5 h.1)).symm | exact (gb_f (fun h => c_17 h.2.1)).symm | exact (gb_f (fun h => c_29 h.2.2)).symm)
      · skip
        have c_29 : pIn h 1 (12 - r.toInt) := gb_ne0.mp c_29
        refine lv_iconst (v := nI 1) hx hb dX3_isBox_32 (by decide) ?_
        refine lv_goto (tgt := 37) hx hb dX3_isBox_33 (by decide) ?_
        exact hret _ _ _ dX3_isBox_37 (by first | exact (gb_t ⟨c_5, c_17, c_29⟩).symm | exact (gb_f (fun h => c_5 h.1)).symm | exact (gb_f (fun h => c_17 h.2.1)).symm | exact (gb_f (fun h => c_29 h.2.2)).symm)
set_option maxHeartbeats 4000000 in
set_option maxRecDepth 100000 in
theorem c_X3_cellAt (l : Launch) (D : va_G) (cy : Nat → ClassId) (x : Int64) (k : Nat) (hk : k < 16) : Met l yX3_cellAt wsX3_cellAt ({ frames := 0, cells := 0, slots := 0, locals := 0 } : Room) (va_Pc [.long x, .int (nI k)] (gR D (gT cy) [])) (vp_Si (fun r9 => r9 = nI (cel x k))) 0 0 (fun _ => False) := by
  refine gM_i (cc := cX3_cellAt) (maxL := 3) (ty := .int) (by decide) rfl (Nat.le_of_ble_eq_true rfl) (fun v hv => by rw [hv]; first | rfl | exact gb_nar _) ?_
  intro pp ee ss mm bw mt cd QQ ls hfx hP hG hret hl
  obtain ⟨hx, hb, hml, hown, hts, hlocks⟩ := hfx
  have hown : ss.vm.findClass RX3 = some mm.cls := hown
  have hl : lv_has ls 3 [(0, .long x), (2, .int (nI k))] := hl
  refine lv_lload_n hx hb dX3_cellAt_0 rfl (lv_at hl 0 rfl) ?_
  refine lv_iconst (v := nI 4) hx hb dX3_cellAt_1 (by decide) ?_
  refine lv_iload_n hx hb dX3_cellAt_2 rfl (lv_at hl 1 rfl) ?_
  refine lv_imul hx hb dX3_cellAt_3 ?_
  refine g_ti (y := nI (4 * k)) (pk_mul _ _) ?_
  refine lv_lushr hx hb dX3_cellAt_4 rfl ?_
  refine lv_ldc2 (v := (15)) hx hb hown (hts (.constantLong RX3 180 (15)) (by decide +kernel)) dX3_cellAt_5 ?_
  refine lv_land hx hb dX3_cellAt_8 ?_
  refine lv_l2i hx hb dX3_cellAt_9 rfl ?_
  refine g_ti (y := nI (cel x k)) (cel_at hk) ?_
  exact hret _ _ _ dX3_cellAt_10 rfl
set_option maxHeartbeats 4000000 in
set_option maxRecDepth 100000 in
theorem c_X2_tileOf (l : Launch) (D : va_G) (cy : Nat → ClassId) (c r : Nat) (hc : c < 16) (hr : r < 12) : Met l yX2_tileOf wsX2_tileOf ({ frames := 0, cells := 0, slots := 0, locals := 0 } : Room) (va_Pc [.int (nI c), .int (nI r)] (gR D (gT cy) [])) (vp_Si (fun r9 => r9 = nI (tl c r))) 0 0 (fun _ => False) := by
  refine gM_i (cc := cX2_tileOf) (maxL := 2) (ty := .int) (by decide) rfl (Nat.le_of_ble_eq_true rfl) (fun v hv => by rw [hv]; first | rfl | exact gb_nar _) ?_
  intro pp ee ss mm bw mt cd QQ ls hfx hP hG hret hl
  obtain ⟨hx, hb, hml, hown, hts, hlocks⟩ := hfx
  have hown : ss.vm.findClass RX2 = some mm.cls := hown
  have hl : lv_has ls 2 [(0, .int (nI c)), (1, .int (nI r))] := hl
  refine lv_iconst (v := nI 4) hx hb dX2_tileOf_0 (by decide) ?_
  refine lv_iload_n hx hb dX2_tileOf_1 rfl (lv_at hl 1 rfl) ?_
  refine lv_iconst (v := nI 4) hx hb dX2_tileOf_2 (by decide) ?_
  refine lv_idiv hx hb dX2_tileOf_3 (nI_ne0 (by omega) (by omega)) ?_
  refine g_ti (y := nI (r / 4)) (pk_div (by omega) (by omega) (by omega)) ?_
  refine lv_imul hx hb dX2_tileOf_4 ?_
  refine g_ti (y := nI (4 * (r / 4))) (pk_mul _ _) ?_
  refine lv_iload_n hx hb dX2_tileOf_5 rfl (lv_at hl 0 rfl) ?_
  refine lv_iconst (v := nI 4) hx hb dX2_tileOf_6 (by decide) ?_
  refine lv_idiv hx hb dX2_tileOf_7 (nI_ne0 (by omega) (by omega)) ?_
  refine g_ti (y := nI (c / 4)) (pk_div (by omega) (by omega) (by omega)) ?_
  refine lv_iadd hx hb dX2_tileOf_8 ?_
  refine g_ti (y := nI ((4 * (r / 4)) + (c / 4))) (nI_add _ _) ?_
  exact hret _ _ _ dX2_tileOf_9 rfl
set_option maxHeartbeats 4000000 in
set_option maxRecDepth 100000 in
theorem c_X2_placeInTile (l : Launch) (D : va_G) (cy : Nat → ClassId) (c r : Nat) (hc : c < 16) (hr : r < 12) : Met l yX2_placeInTile wsX2_placeInTile ({ frames := 0, cells := 0, slots := 0, locals := 0 } : Room) (va_Pc [.int (nI c), .int (nI r)] (gR D (gT cy) [])) (vp_Si (fun r9 => r9 = nI (plc c r))) 0 0 (fun _ => False) := by
  refine gM_i (cc := cX2_placeInTile) (maxL := 2) (ty := .int) (by decide) rfl (Nat.le_of_ble_eq_true rfl) (fun v hv => by rw [hv]; first | rfl | exact gb_nar _) ?_
  intro pp ee ss mm bw mt cd QQ ls hfx hP hG hret hl
  obtain ⟨hx, hb, hml, hown, hts, hlocks⟩ := hfx
  have hown : ss.vm.findClass RX2 = some mm.cls := hown
  have hl : lv_has ls 2 [(0, .int (nI c)), (1, .int (nI r))] := hl
  refine lv_iconst (v := nI 4) hx hb dX2_placeInTile_0 (by decide) ?_
  refine lv_iload_n hx hb dX2_placeInTile_1 rfl (lv_at hl 1 rfl) ?_
  refine lv_iconst (v := nI 4) hx hb dX2_placeInTile_2 (by decide) ?_
  refine lv_irem hx hb dX2_placeInTile_3 (nI_ne0 (by omega) (by omega)) ?_
  refine g_ti (y := nI (r % 4)) (pk_rem (by omega) (by omega) (by omega)) ?_
  refine lv_imul hx hb dX2_placeInTile_4 ?_
  refine g_ti (y := nI (4 * (r % 4))) (pk_mul _ _) ?_
  refine lv_iload_n hx hb dX2_placeInTile_5 rfl (lv_at hl 0 rfl) ?_
  refine lv_iconst (v := nI 4) hx hb dX2_placeInTile_6 (by decide) ?_
  refine lv_irem hx hb dX2_placeInTile_7 (nI_ne0 (by omega) (by omega)) ?_
  refine g_ti (y := nI (c % 4)) (pk_rem (by omega) (by omega) (by omega)) ?_
  refine lv_iadd hx hb dX2_placeInTile_8 ?_
  refine g_ti (y := nI ((4 * (r % 4)) + (c % 4))) (nI_add _ _) ?_
  exact hret _ _ _ dX2_placeInTile_9 rfl
theorem iX2_cellsOf_X2 : ∀ w ∈ wsX20, w ∈ wsX2_cellsOf := by decide +kernel
set_option maxHeartbeats 4000000 in
set_option maxRecDepth 100000 in
theorem c_X2_cellsOf (l : Launch) (D : va_G) (cy : Nat → ClassId) (h t : Nat) (f : Nat → Int64) (k : Nat) (hk : k < 12) : Met l yX2_cellsOf wsX2_cellsOf ({ frames := 0, cells := 0, slots := 0, locals := 0 } : Room) (va_Pc [.ref h, .int (nI k)] (gR D (gT cy) [(h, eScr t), (t, eJ cy 12 f)])) (vp_Sl (fun r9 => r9 = f k)) 0 0 (fun _ => False) := by
  refine gM_l (cc := cX2_cellsOf) (maxL := 2) (by decide) rfl (Nat.le_of_ble_eq_true rfl) ?_
  intro pp ee ss mm bw mt cd QQ ls hfx hP hG hret hl
  obtain ⟨hx, hb, hml, hown, hts, hlocks⟩ := hfx
  have hown : ss.vm.findClass RX2 = some mm.cls := hown
  have hl : lv_has ls 2 [(0, .ref h), (1, .int (nI k))] := hl
  refine lv_aload_n hx hb dX2_cellsOf_0 rfl (lv_at hl 0 rfl) ?_
  refine va_get (D := D) (ci := 2) (v := .ref t) (C := RX2) (T := TX2) (N := 1) hx hb hts iX2_cellsOf_X2 hown hG.1 hP 0 rfl rfl 0 (by decide) (hts (.fieldLink RX2 9 "DirtyTiles$Screen" "tiles" "[J") (by decide +kernel)) (fun _ h9 => h9) rfl dX2_cellsOf_1 ?_
  refine lv_iload_n hx hb dX2_cellsOf_4 rfl (lv_at hl 1 rfl) ?_
  refine g_lald hx hb hG hP 1 1 rfl rfl (k := k) (by omega) (by decide) dX2_cellsOf_5 ?_
  exact hret _ _ _ dX2_cellsOf_6 rfl
theorem iX2_replaceTile_X2 : ∀ w ∈ wsX20, w ∈ wsX2_replaceTile := by decide +kernel
set_option maxHeartbeats 4000000 in
set_option maxRecDepth 100000 in
theorem c_X2_replaceTile (l : Launch) (D : va_G) (cy : Nat → ClassId) (sz : Nat) (h t : Nat) (f : Nat → Int64) (k : Nat) (x : Int64) (hk : k < 12) : Met l yX2_replaceTile wsX2_replaceTile ({ frames := 0, cells := 0, slots := 0, locals := 0 } : Room) (va_Pc [.ref h, .int (nI k), .long x] (gI D (gT cy) [(h, eScr t), (t, eJ cy 12 f)] sz)) (va_Qv (fun u : (Nat → Int64) => (u = vp_updL f k x)) (gO D (fun u : (Nat → Int64) => [(h, eScr t), (t, eJ cy 12 u)]) (va_A [(h, eScr t), (t, eJ cy 12 f)] sz)) (va_A [(h, eScr t), (t, eJ cy 12 f)] sz)) 0 0 (va_A [(h, eScr t), (t, eJ cy 12 f)] sz) := by
  refine gW_v (cc := cX2_replaceTile) (maxL := 4) (by decide) rfl (Nat.le_of_ble_eq_true rfl) ?_
  intro pp ee ss mm bw mt cd QQ AA ls hfx hP hG hD hA hret hl
  have hS : va_S AA ss.heap ss.heap [] := va_S.rf
  obtain ⟨H, eH⟩ : ∃ H, H = ss.heap := ⟨_, rfl⟩
  obtain ⟨locs, eL⟩ : ∃ L : List Loc, L = [] := ⟨_, rfl⟩
  have hP : va_P D vwCl [(h, eScr t), (t, eJ cy 12 f)] H := by rw [eH]; exact hP
  have hS : va_S AA ss.heap H locs := by rw [eH, eL]; exact hS
  have goal : ∀ X Y, X = H → Y = locs → W pp l ee ({ frames := 0, cells := 0, slots := 0, locals := 0 } : Room) ss mm ([.ref h, .int (nI k), .long x] : List Value).toArray bw mt cd X Y 0 0 QQ (F0 mm 0 ls []) → W pp l ee ({ frames := 0, cells := 0, slots := 0, locals := 0 } : Room) ss mm ([.ref h, .int (nI k), .long x] : List Value).toArray bw mt cd ss.heap [] 0 0 QQ (F0 mm 0 ls []) := fun X Y hX hY h => by rw [hX, hY, eH, eL] at h; exact h
  refine goal H locs rfl rfl ?_
  clear goal eH eL
  obtain ⟨hx, hb, hml, hown, hts, hlocks⟩ := hfx
  have hown : ss.vm.findClass RX2 = some mm.cls := hown
  have hl : lv_has ls 4 [(0, .ref h), (1, .int (nI k)), (2, .long x)] := hl
  refine lv_aload_n hx hb dX2_replaceTile_0 rfl (lv_at hl 0 rfl) ?_
  refine va_get (D := D) (ci := 2) (v := .ref t) (C := RX2) (T := TX2) (N := 1) hx hb hts iX2_replaceTile_X2 hown hG.1 hP 0 rfl rfl 0 (by decide) (hts (.fieldLink RX2 9 "DirtyTiles$Screen" "tiles" "[J") (by decide +kernel)) (fun _ h9 => h9) rfl dX2_replaceTile_1 ?_
  refine lv_iload_n hx hb dX2_replaceTile_4 rfl (lv_at hl 1 rfl) ?_
  refine lv_lload_n hx hb dX2_replaceTile_5 rfl (lv_at hl 2 rfl) ?_
  refine g_last hx hb hG hP hD hS 1 1 rfl rfl (k := k) (by omega) (by decide) dX2_replaceTile_6 (fun H locs hP hD hS => ?_)
  have hP : va_P D vwCl [(h, eScr t), (t, eJ cy 12 (vp_updL f k x))] H := hP
  have hD : va_D AA [(h, eScr t), (t, eJ cy 12 (vp_updL f k x))] := hD
  exact hret _ _ _ _ (vp_updL f k x) dX2_replaceTile_7 (rfl) (hP.sub [0, 1] rfl) (hD.sub [0, 1] (by decide) rfl) hS
theorem iX2_colourAt_X2 : ∀ w ∈ wsX20, w ∈ wsX2_colourAt := by decide +kernel
set_option maxHeartbeats 4000000 in
set_option maxRecDepth 100000 in
theorem c_X2_colourAt (l : Launch) (D : va_G) (cy : Nat → ClassId) (h t : Nat) (f : Nat → Int64) (c r : Nat) (hc : c < 16) (hr : r < 12) : Met l yX2_colourAt wsX2_colourAt ({ frames := 1, cells := 0, slots := 0, locals := 22 } : Room) (va_Pc [.ref h, .int (nI c), .int (nI r)] (gR D (gT cy) [(h, eScr t), (t, eJ cy 12 f)])) (vp_Si (fun r9 => r9 = nI (cel (f (tl c r)) (plc c r)))) 0 0 (fun _ => False) := by
  refine gM_i (cc := cX2_colourAt) (maxL := 3) (ty := .int) (by decide) rfl (Nat.le_of_ble_eq_true rfl) (fun v hv => by rw [hv]; first | rfl | exact gb_nar _) ?_
  intro pp ee ss mm bw mt cd QQ ls hfx hP hG hret hl
  obtain ⟨hx, hb, hml, hown, hts, hlocks⟩ := hfx
  have hown : ss.vm.findClass RX2 = some mm.cls := hown
  have hl : lv_has ls 3 [(0, .ref h), (1, .int (nI c)), (2, .int (nI r))] := hl
  refine lv_aload_n hx hb dX2_colourAt_0 rfl (lv_at hl 0 rfl) ?_
  refine va_get (D := D) (ci := 2) (v := .ref t) (C := RX2) (T := TX2) (N := 1) hx hb hts iX2_colourAt_X2 hown hG.1 hP 0 rfl rfl 0 (by decide) (hts (.fieldLink RX2 9 "DirtyTiles$Screen" "tiles" "[J") (by decide +kernel)) (fun _ h9 => h9) rfl dX2_colourAt_1 ?_
  refine lv_iload_n hx hb dX2_colourAt_4 rfl (lv_at hl 1 rfl) ?_
  refine lv_iload_n hx hb dX2_colourAt_5 rfl (lv_at hl 2 rfl) ?_
  refine gc_Si (va_runS (As := [.int (nI c), .int (nI r)]) (rest := [.ref t]) ⟨hx, hb, hml, hown, hts⟩ (c_X2_tileOf l D cy c r hc hr) (va_cwS 2 hts gX2_colourAt_X2_tileOf rfl rfl rfl (by decide +kernel) ⟨Nat.le_of_ble_eq_true rfl, Nat.le_of_ble_eq_true rfl⟩) (gpSR hG (hP.sub [] rfl)) rfl rfl hl.1 rfl (lv_room (Nat.le_of_ble_eq_true rfl)) dX2_colourAt_6 ⟨Nat.zero_le _, Nat.zero_le _⟩) ?_
  refine g_lald hx hb hG hP 1 1 rfl rfl (k := tl c r) (tl_lt hc hr) (by decide) dX2_colourAt_9 ?_
  refine lv_iload_n hx hb dX2_colourAt_10 rfl (lv_at hl 1 rfl) ?_
  refine lv_iload_n hx hb dX2_colourAt_11 rfl (lv_at hl 2 rfl) ?_
  refine gc_Si (va_runS (As := [.int (nI c), .int (nI r)]) (rest := [.long (f (tl c r))]) ⟨hx, hb, hml, hown, hts⟩ (c_X2_placeInTile l D cy c r hc hr) (va_cwS 2 hts gX2_colourAt_X2_placeInTile rfl rfl rfl (by decide +kernel) ⟨Nat.le_of_ble_eq_true rfl, Nat.le_of_ble_eq_true rfl⟩) (gpSR hG (hP.sub [] rfl)) rfl rfl hl.1 rfl (lv_room (Nat.le_of_ble_eq_true rfl)) dX2_colourAt_12 ⟨Nat.zero_le _, Nat.zero_le _⟩) ?_
  refine gc_Si (va_runSN (host := RX3) (As := [.long (f (tl c r)), .int (nI (plc c r))]) (rest := []) ⟨hx, hb, hml, hown, hts⟩ (c_X3_cellAt l D cy (f (tl c r)) (plc c r) (plc_lt c r)) ⟨va_cnB 2 hts gX2_colourAt_X3_cellAt_n22 rfl rfl rfl hG.2.1 (hts (.initialized RX3) (by decide +kernel)) (by decide +kernel) ⟨Nat.le_of_ble_eq_true rfl, Nat.le_of_ble_eq_true rfl⟩, hts (.static yX3_cellAt) (by decide +kernel), trivial⟩ (gpSR hG (hP.sub [] rfl)) rfl rfl hl.1 rfl (lv_room (Nat.le_of_ble_eq_true rfl)) dX2_colourAt_15 ⟨Nat.zero_le _, Nat.zero_le _⟩) ?_
  exact hret _ _ _ dX2_colourAt_18 rfl
theorem iX2_paint_X2 : ∀ w ∈ wsX20, w ∈ wsX2_paint := by decide +kernel
set_option maxHeartbeats 4000000 in
set_option maxRecDepth 100000 in
theorem c_X2_paint (l : Launch) (D : va_G) (cy : Nat → ClassId) (sz : Nat) (h t : Nat) (f : Nat → Int64) (c r v : Nat) (hc : c < 16) (hr : r < 12) (hv : v < 16) : Met l yX2_paint wsX2_paint ({ frames := 1, cells := 0, slots := 0, locals := 21 } : Room) (va_Pc [.ref h, .int (nI c), .int (nI r), .int (nI v)] (gI D (gT cy) [(h, eScr t), (t, eJ cy 12 f)] sz)) (va_Qv (fun u : (Nat → Int64) => (u = vp_updL f (tl c r) (gput (f (tl c r)) (plc c r) v))) (gO D (fun u : (Nat → Int64) => [(h, eScr t), (t, eJ cy 12 u)]) (va_A [(h, eScr t), (t, eJ cy 12 f)] sz)) (va_A [(h, eScr t), (t, eJ cy 12 f)] sz)) 0 0 (va_A [(h, eScr t), (t, eJ cy 12 f)] sz) := by
  refine gW_v (cc := cX2_paint) (maxL := 6) (by decide) rfl (Nat.le_of_ble_eq_true rfl) ?_
  intro pp ee ss mm bw mt cd QQ AA ls hfx hP hG hD hA hret hl
  have hS : va_S AA ss.heap ss.heap [] := va_S.rf
  obtain ⟨H, eH⟩ : ∃ H, H = ss.heap := ⟨_, rfl⟩
  obtain ⟨locs, eL⟩ : ∃ L : List Loc, L = [] := ⟨_, rfl⟩
  have hP : va_P D vwCl [(h, eScr t), (t, eJ cy 12 f)] H := by rw [eH]; exact hP
  have hS : va_S AA ss.heap H locs := by rw [eH, eL]; exact hS
  have goal : ∀ X Y, X = H → Y = locs → W pp l ee ({ frames := 1, cells := 0, slots := 0, locals := 21 } : Room) ss mm ([.ref h, .int (nI c), .int (nI r), .int (nI v)] : List Value).toArray bw mt cd X Y 0 0 QQ (F0 mm 0 ls []) → W pp l ee ({ frames := 1, cells := 0, slots := 0, locals := 21 } : Room) ss mm ([.ref h, .int (nI c), .int (nI r), .int (nI v)] : List Value).toArray bw mt cd ss.heap [] 0 0 QQ (F0 mm 0 ls []) := fun X Y hX hY h => by rw [hX, hY, eH, eL] at h; exact h
  refine goal H locs rfl rfl ?_
  clear goal eH eL
  obtain ⟨hx, hb, hml, hown, hts, hlocks⟩ := hfx
  have hown : ss.vm.findClass RX2 = some mm.cls := hown
  have hl : lv_has ls 6 [(0, .ref h), (1, .int (nI c)), (2, .int (nI r)), (3, .int (nI v))] := hl
  refine lv_iload_n hx hb dX2_paint_0 rfl (lv_at hl 1 rfl) ?_
  refine lv_iload_n hx hb dX2_paint_1 rfl (lv_at hl 2 rfl) ?_
  refine gc_Si (va_runS (As := [.int (nI c), .int (nI r)]) (rest := []) ⟨hx, hb, hml, hown, hts⟩ (c_X2_tileOf l D cy c r hc hr) (va_cwS 2 hts gX2_paint_X2_tileOf rfl rfl rfl (by decide +kernel) ⟨Nat.le_of_ble_eq_true rfl, Nat.le_of_ble_eq_true rfl⟩) (gpSR hG (hP.sub [] rfl)) rfl rfl hl.1 rfl (lv_room (Nat.le_of_ble_eq_true rfl)) dX2_paint_2 ⟨Nat.zero_le _, Nat.zero_le _⟩) ?_
  refine lv_istore (lv' := [(4, .int (nI (tl c r))), (0, .ref h), (1, .int (nI c)), (2, .int (nI r)), (3, .int (nI v))]) hx hb dX2_paint_5 hl (by decide) rfl (fun ls hl => ?_)
  refine lv_iconst (v := nI 4) hx hb dX2_paint_7 (by decide) ?_
  refine lv_iload_n hx hb dX2_paint_8 rfl (lv_at hl 2 rfl) ?_
  refine lv_iload_n hx hb dX2_paint_9 rfl (lv_at hl 3 rfl) ?_
  refine gc_Si (va_runS (As := [.int (nI c), .int (nI r)]) (rest := [.int (nI 4)]) ⟨hx, hb, hml, hown, hts⟩ (c_X2_placeInTile l D cy c r hc hr) (va_cwS 2 hts gX2_paint_X2_placeInTile rfl rfl rfl (by decide +kernel) ⟨Nat.le_of_ble_eq_true rfl, Nat.le_of_ble_eq_true rfl⟩) (gpSR hG (hP.sub [] rfl)) rfl rfl hl.1 rfl (lv_room (Nat.le_of_ble_eq_true rfl)) dX2_paint_10 ⟨Nat.zero_le _, Nat.zero_le _⟩) ?_
  refine lv_imul hx hb dX2_paint_13 ?_
  refine g_ti (y := nI (4 * (plc c r))) (pk_mul _ _) ?_
  refine lv_istore (lv' := [(5, .int (nI (4 * (plc c r)))), (4, .int (nI (tl c r))), (0, .ref h), (1, .int (nI c)), (2, .int (nI r)), (3, .int (nI v))]) hx hb dX2_paint_14 hl (by decide) rfl (fun ls hl => ?_)
  refine lv_aload_n hx hb dX2_paint_16 rfl (lv_at hl 2 rfl) ?_
  refine va_get (D := D) (ci := 2) (v := .ref t) (C := RX2) (T := TX2) (N := 1) hx hb hts iX2_paint_X2 hown hG.1 hP 0 rfl rfl 0 (by decide) (hts (.fieldLink RX2 9 "DirtyTiles$Screen" "tiles" "[J") (by decide +kernel)) (fun _ h9 => h9) rfl dX2_paint_17 ?_
  refine lv_iload hx hb dX2_paint_20 (lv_at hl 1 rfl) ?_
  refine lv_aload_n hx hb dX2_paint_22 rfl (lv_at hl 2 rfl) ?_
  refine va_get (D := D) (ci := 2) (v := .ref t) (C := RX2) (T := TX2) (N := 1) hx hb hts iX2_paint_X2 hown hG.1 hP 0 rfl rfl 0 (by decide) (hts (.fieldLink RX2 9 "DirtyTiles$Screen" "tiles" "[J") (by decide +kernel)) (fun _ h9 => h9) rfl dX2_paint_23 ?_
  refine lv_iload hx hb dX2_paint_26 (lv_at hl 1 rfl) ?_
  refine g_lald hx hb hG hP 1 1 rfl rfl (k := tl c r) (tl_lt hc hr) (by decide) dX2_paint_28 ?_
  refine lv_ldc2 (v := (15)) hx hb hown (hts (.constantLong RX2 26 (15)) (by decide +kernel)) dX2_paint_29 ?_
  refine lv_iload hx hb dX2_paint_32 (lv_at hl 0 rfl) ?_
  refine lv_lshl hx hb dX2_paint_34 rfl ?_
  refine lv_ldc2 (v := (-1)) hx hb hown (hts (.constantLong RX2 28 (-1)) (by decide +kernel)) dX2_paint_35 ?_
  refine lv_lxor hx hb dX2_paint_38 ?_
  refine lv_land hx hb dX2_paint_39 ?_
  refine lv_iload_n hx hb dX2_paint_40 rfl (lv_at hl 5 rfl) ?_
  refine lv_i2l hx hb dX2_paint_41 rfl ?_
  refine lv_iload hx hb dX2_paint_42 (lv_at hl 0 rfl) ?_
  refine lv_lshl hx hb dX2_paint_44 rfl ?_
  refine lv_lor hx hb dX2_paint_45 ?_
  refine g_last hx hb hG hP hD hS 1 1 rfl rfl (k := tl c r) (tl_lt hc hr) (by decide) dX2_paint_46 (fun H locs hP hD hS => ?_)
  have hP : va_P D vwCl [(h, eScr t), (t, eJ cy 12 (vp_updL f (tl c r) (((f (tl c r)) &&& ((((15)) <<< ((nI (4 * (plc c r))).toInt64 &&& 63)) ^^^ ((-1)))) ||| (((nI v).toInt64) <<< ((nI (4 * (plc c r))).toInt64 &&& 63)))))] H := hP
  have hD : va_D AA [(h, eScr t), (t, eJ cy 12 (vp_updL f (tl c r) (((f (tl c r)) &&& ((((15)) <<< ((nI (4 * (plc c r))).toInt64 &&& 63)) ^^^ ((-1)))) ||| (((nI v).toInt64) <<< ((nI (4 * (plc c r))).toInt64 &&& 63)))))] := hD
  exact hret _ _ _ _ (vp_updL f (tl c r) (((f (tl c r)) &&& ((((15)) <<< ((nI (4 * (plc c r))).toInt64 &&& 63)) ^^^ ((-1)))) ||| (((nI v).toInt64) <<< ((nI (4 * (plc c r))).toInt64 &&& 63)))) dX2_paint_47 (rfl) (hP.sub [0, 1] rfl) (hD.sub [0, 1] (by decide) rfl) hS
theorem iX2_become_X2 : ∀ w ∈ wsX20, w ∈ wsX2_become := by decide +kernel
set_option maxHeartbeats 4000000 in
set_option maxRecDepth 100000 in
theorem c_X2_become (l : Launch) (D : va_G) (cy : Nat → ClassId) (sz : Nat) (h t : Nat) (f : Nat → Int64) (h2 t2 : Nat) (g : Nat → Int64)  : Met l yX2_become wsX2_become ({ frames := 0, cells := 0, slots := 0, locals := 0 } : Room) (va_Pc [.ref h, .ref h2] (gI D (gT cy) [(h, eScr t), (t, eJ cy 12 f), (h2, eScr t2), (t2, eJ cy 12 g)] sz)) (va_Qv (fun u : (Nat → Int64) => (∀ k, k < 12 → u k = g k)) (gO D (fun u : (Nat → Int64) => [(h, eScr t), (t, eJ cy 12 u), (h2, eScr t2), (t2, eJ cy 12 g)]) (va_A [(h, eScr t), (t, eJ cy 12 f), (h2, eScr t2), (t2, eJ cy 12 g)] sz)) (va_A [(h, eScr t), (t, eJ cy 12 f), (h2, eScr t2), (t2, eJ cy 12 g)] sz)) 0 0 (va_A [(h, eScr t), (t, eJ cy 12 f), (h2, eScr t2), (t2, eJ cy 12 g)] sz) := by
  refine gW_v (cc := cX2_become) (maxL := 3) (by decide) rfl (Nat.le_of_ble_eq_true rfl) ?_
  intro pp ee ss mm bw mt cd QQ AA ls hfx hP hG hD hA hret hl
  have hS : va_S AA ss.heap ss.heap [] := va_S.rf
  obtain ⟨H, eH⟩ : ∃ H, H = ss.heap := ⟨_, rfl⟩
  obtain ⟨locs, eL⟩ : ∃ L : List Loc, L = [] := ⟨_, rfl⟩
  have hP : va_P D vwCl [(h, eScr t), (t, eJ cy 12 f), (h2, eScr t2), (t2, eJ cy 12 g)] H := by rw [eH]; exact hP
  have hS : va_S AA ss.heap H locs := by rw [eH, eL]; exact hS
  have goal : ∀ X Y, X = H → Y = locs → W pp l ee ({ frames := 0, cells := 0, slots := 0, locals := 0 } : Room) ss mm ([.ref h, .ref h2] : List Value).toArray bw mt cd X Y 0 0 QQ (F0 mm 0 ls []) → W pp l ee ({ frames := 0, cells := 0, slots := 0, locals := 0 } : Room) ss mm ([.ref h, .ref h2] : List Value).toArray bw mt cd ss.heap [] 0 0 QQ (F0 mm 0 ls []) := fun X Y hX hY h => by rw [hX, hY, eH, eL] at h; exact h
  refine goal H locs rfl rfl ?_
  clear goal eH eL
  obtain ⟨hx, hb, hml, hown, hts, hlocks⟩ := hfx
  have hown : ss.vm.findClass RX2 = some mm.cls := hown
  have hl : lv_has ls 3 [(0, .ref h), (1, .ref h2)] := hl
  refine lv_iconst (v := nI 0) hx hb dX2_become_0 (by decide) ?_
  refine lv_istore_n (lv' := [(2, .int (nI 0)), (0, .ref h), (1, .ref h2)]) hx hb dX2_become_1 rfl hl (by decide) rfl (fun ls hl => ?_)
  have loop_2 : ∀ (n9 : Nat) (i : Nat) (b : Nat → Int64), 12 - i < n9 → (i ≤ 12) → (∀ k, k < i → b k = g k) → ∀ (H : Heap) (locs : List Loc) (ls : Array Slot), va_P D vwCl [(h, eScr t), (t, eJ cy 12 b), (h2, eScr t2), (t2, eJ cy 12 g)] H → va_D AA [(h, eScr t), (t, eJ cy 12 b), (h2, eScr t2), (t2, eJ cy 12 g)] → va_S AA ss.heap H locs → lv_has ls 3 [(0, .ref h), (1, .ref h2), (2, .int (nI i))] → W pp l ee ({ frames := 0, cells := 0, slots := 0, locals := 0 } : Room) ss mm ([.ref h, .ref h2] : List Value).toArray bw mt cd H locs 0 0 QQ (F0 mm 2 ls []) := by
    intro n9
    induction n9 with
    | zero => intro i b h9; exact absurd h9 (Nat.not_lt_zero _)
    | succ n9 ih_2 =>
      intro i b hm_2 hi hb9 H locs ls hP hD hS hl
      refine lv_iload_n hx hb dX2_become_2 rfl (lv_at hl 2 rfl) ?_
      refine lv_bipush (v := nI 12) hx hb dX2_become_3 (by decide) ?_
      refine lv_icmp_ge (tgt := 26) hx hb dX2_become_5 (by decide) (fun c_5 => ?_) (fun c_5 => ?_)
      · skip
        have c_5 : 12 ≤ i := (nI_leI (a := 12) (b := i) (by omega) (by omega)).mp c_5
        exact hret _ _ _ _ b dX2_become_26 (fun k hk => hb9 k (by omega)) (hP.sub [0, 1, 2, 3] rfl) (hD.sub [0, 1, 2, 3] (by decide) rfl) hS
      · skip
        have c_5 : ¬ 12 ≤ i := fun z => c_5 ((nI_leI (a := 12) (b := i) (by omega) (by omega)).mpr z)
        refine lv_aload_n hx hb dX2_become_8 rfl (lv_at hl 0 rfl) ?_
        refine va_get (D := D) (ci := 2) (v := .ref t) (C := RX2) (T := TX2) (N := 1) hx hb hts iX2_become_X2 hown hG.1 hP 0 rfl rfl 0 (by decide) (hts (.fieldLink RX2 9 "DirtyTiles$Screen" "tiles" "[J") (by decide +kernel)) (fun _ h9 => h9) rfl dX2_become_9 ?_
        refine lv_iload_n hx hb dX2_become_12 rfl (lv_at hl 2 rfl) ?_
        refine lv_aload_n hx hb dX2_become_13 rfl (lv_at hl 1 rfl) ?_
        refine va_get (D := D) (ci := 2) (v := .ref t2) (C := RX2) (T := TX2) (N := 1) hx hb hts iX2_become_X2 hown hG.1 hP 2 rfl rfl 0 (by decide) (hts (.fieldLink RX2 9 "DirtyTiles$Screen" "tiles" "[J") (by decide +kernel)) (fun _ h9 => h9) rfl dX2_become_14 ?_
        refine lv_iload_n hx hb dX2_become_17 rfl (lv_at hl 2 rfl) ?_
        refine g_lald hx hb hG hP 3 1 rfl rfl (k := i) (by omega) (by decide) dX2_become_18 ?_
        refine g_last hx hb hG hP hD hS 1 1 rfl rfl (k := i) (by omega) (by decide) dX2_become_19 (fun H locs hP hD hS => ?_)
        have hP : va_P D vwCl [(h, eScr t), (t, eJ cy 12 (vp_updL b i (g i))), (h2, eScr t2), (t2, eJ cy 12 g)] H := hP
        have hD : va_D AA [(h, eScr t), (t, eJ cy 12 (vp_updL b i (g i))), (h2, eScr t2), (t2, eJ cy 12 g)] := hD
        refine lv_iinc (v := nI (i + 1)) (lv' := [(2, .int (nI (i + 1))), (0, .ref h), (1, .ref h2)]) hx hb dX2_become_20 hl (k := 2) rfl (nI_1 _) (by decide) rfl (fun ls hl => ?_)
        refine lv_goto (tgt := 2) hx hb dX2_become_23 (by decide) ?_
        exact ih_2 (i + 1) (vp_updL b i (g i)) (by omega) (by omega) (g_covL hb9 rfl) _ _ _ (hP.sub [0, 1, 2, 3] rfl) (hD.sub [0, 1, 2, 3] (by decide) rfl) hS (lv_sub hl [1, 2, 0] rfl)
  exact loop_2 ((12 - 0) + 1) 0 f (Nat.lt_succ_self _) (by omega) (fun k hk => absurd hk (Nat.not_lt_zero k)) _ _ _ (hP.sub [0, 1, 2, 3] rfl) (hD.sub [0, 1, 2, 3] (by decide) rfl) hS (lv_sub hl [1, 2, 0] rfl)
theorem iX2_clear_X2 : ∀ w ∈ wsX20, w ∈ wsX2_clear := by decide +kernel
set_option maxHeartbeats 4000000 in
set_option maxRecDepth 100000 in
theorem c_X2_clear (l : Launch) (D : va_G) (cy : Nat → ClassId) (sz : Nat) (h t : Nat) (f : Nat → Int64)  : Met l yX2_clear wsX2_clear ({ frames := 0, cells := 0, slots := 0, locals := 0 } : Room) (va_Pc [.ref h] (gI D (gT cy) [(h, eScr t), (t, eJ cy 12 f)] sz)) (va_Qv (fun u : (Nat → Int64) => (∀ k, k < 12 → u k = 0)) (gO D (fun u : (Nat → Int64) => [(h, eScr t), (t, eJ cy 12 u)]) (va_A [(h, eScr t), (t, eJ cy 12 f)] sz)) (va_A [(h, eScr t), (t, eJ cy 12 f)] sz)) 0 0 (va_A [(h, eScr t), (t, eJ cy 12 f)] sz) := by
  refine gW_v (cc := cX2_clear) (maxL := 2) (by decide) rfl (Nat.le_of_ble_eq_true rfl) ?_
  intro pp ee ss mm bw mt cd QQ AA ls hfx hP hG hD hA hret hl
  have hS : va_S AA ss.heap ss.heap [] := va_S.rf
  obtain ⟨H, eH⟩ : ∃ H, H = ss.heap := ⟨_, rfl⟩
  obtain ⟨locs, eL⟩ : ∃ L : List Loc, L = [] := ⟨_, rfl⟩
  have hP : va_P D vwCl [(h, eScr t), (t, eJ cy 12 f)] H := by rw [eH]; exact hP
  have hS : va_S AA ss.heap H locs := by rw [eH, eL]; exact hS
  have goal : ∀ X Y, X = H → Y = locs → W pp l ee ({ frames := 0, cells := 0, slots := 0, locals := 0 } : Room) ss mm ([.ref h] : List Value).toArray bw mt cd X Y 0 0 QQ (F0 mm 0 ls []) → W pp l ee ({ frames := 0, cells := 0, slots := 0, locals := 0 } : Room) ss mm ([.ref h] : List Value).toArray bw mt cd ss.heap [] 0 0 QQ (F0 mm 0 ls []) := fun X Y hX hY h => by rw [hX, hY, eH, eL] at h; exact h
  refine goal H locs rfl rfl ?_
  clear goal eH eL
  obtain ⟨hx, hb, hml, hown, hts, hlocks⟩ := hfx
  have hown : ss.vm.findClass RX2 = some mm.cls := hown
  have hl : lv_has ls 2 [(0, .ref h)] := hl
  refine lv_iconst (v := nI 0) hx hb dX2_clear_0 (by decide) ?_
  refine lv_istore_n (lv' := [(1, .int (nI 0)), (0, .ref h)]) hx hb dX2_clear_1 rfl hl (by decide) rfl (fun ls hl => ?_)
  have loop_2 : ∀ (n9 : Nat) (i : Nat) (b : Nat → Int64), 12 - i < n9 → (i ≤ 12) → (∀ k, k < i → b k = 0) → ∀ (H : Heap) (locs : List Loc) (ls : Array Slot), va_P D vwCl [(h, eScr t), (t, eJ cy 12 b)] H → va_D AA [(h, eScr t), (t, eJ cy 12 b)] → va_S AA ss.heap H locs → lv_has ls 2 [(0, .ref h), (1, .int (nI i))] → W pp l ee ({ frames := 0, cells := 0, slots := 0, locals := 0 } : Room) ss mm ([.ref h] : List Value).toArray bw mt cd H locs 0 0 QQ (F0 mm 2 ls []) := by
    intro n9
    induction n9 with
    | zero => intro i b h9; exact absurd h9 (Nat.not_lt_zero _)
    | succ n9 ih_2 =>
      intro i b hm_2 hi hb9 H locs ls hP hD hS hl
      refine lv_iload_n hx hb dX2_clear_2 rfl (lv_at hl 1 rfl) ?_
      refine lv_bipush (v := nI 12) hx hb dX2_clear_3 (by decide) ?_
      refine lv_icmp_ge (tgt := 21) hx hb dX2_clear_5 (by decide) (fun c_5 => ?_) (fun c_5 => ?_)
      · skip
        have c_5 : 12 ≤ i := (nI_leI (a := 12) (b := i) (by omega) (by omega)).mp c_5
        exact hret _ _ _ _ b dX2_clear_21 (fun k hk => hb9 k (by omega)) (hP.sub [0, 1] rfl) (hD.sub [0, 1] (by decide) rfl) hS
      · skip
        have c_5 : ¬ 12 ≤ i := fun z => c_5 ((nI_leI (a := 12) (b := i) (by omega) (by omega)).mpr z)
        refine lv_aload_n hx hb dX2_clear_8 rfl (lv_at hl 0 rfl) ?_
        refine va_get (D := D) (ci := 2) (v := .ref t) (C := RX2) (T := TX2) (N := 1) hx hb hts iX2_clear_X2 hown hG.1 hP 0 rfl rfl 0 (by decide) (hts (.fieldLink RX2 9 "DirtyTiles$Screen" "tiles" "[J") (by decide +kernel)) (fun _ h9 => h9) rfl dX2_clear_9 ?_
        refine lv_iload_n hx hb dX2_clear_12 rfl (lv_at hl 1 rfl) ?_
        refine lv_lconst (v := 0) hx hb dX2_clear_13 (by decide) ?_
        refine g_last hx hb hG hP hD hS 1 1 rfl rfl (k := i) (by omega) (by decide) dX2_clear_14 (fun H locs hP hD hS => ?_)
        have hP : va_P D vwCl [(h, eScr t), (t, eJ cy 12 (vp_updL b i 0))] H := hP
        have hD : va_D AA [(h, eScr t), (t, eJ cy 12 (vp_updL b i 0))] := hD
        refine lv_iinc (v := nI (i + 1)) (lv' := [(1, .int (nI (i + 1))), (0, .ref h)]) hx hb dX2_clear_15 hl (k := 1) rfl (nI_1 _) (by decide) rfl (fun ls hl => ?_)
        refine lv_goto (tgt := 2) hx hb dX2_clear_18 (by decide) ?_
        exact ih_2 (i + 1) (vp_updL b i 0) (by omega) (by omega) (g_covL (g := fun _ => 0) hb9 rfl) _ _ _ (hP.sub [0, 1] rfl) (hD.sub [0, 1] (by decide) rfl) hS (lv_sub hl [1, 0] rfl)
  exact loop_2 ((12 - 0) + 1) 0 f (Nat.lt_succ_self _) (by omega) (fun k hk => absurd hk (Nat.not_lt_zero k)) _ _ _ (hP.sub [0, 1] rfl) (hD.sub [0, 1] (by decide) rfl) hS (lv_sub hl [1, 0] rfl)
